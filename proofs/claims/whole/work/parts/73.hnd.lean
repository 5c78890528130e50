/-! hand, span, ends -/
section HNF
variable {c w : Nat} {S : Nat → pmS} {I I1 I2 J : Nat → Nat → Int32} {K K1 : Nat → Nat → Int64} {n : Nat} {wd : Nat → Nat} {q : Nat → Nat → Nat} {r : Nat → Int32} {a : Nat} {se : Nat → Nat} {W G d : Nat} {lw : (Nat → Int32) → Int32} {Q : Nat} {D : Int32 → Nat} {X : Int32 → Int32}
theorem mh_ok {y z : Int32} (h : ly c S) (hy : 1 ≤ y ∧ y ≤ 96) (hz : 0 ≤ z ∧ z ≤ 16) : X8_mustBeHand 64 y z (c, w, S, I, K) = pm_oV (c, w, S, I, K) := by
  unfold X8_mustBeHand X8_mustBeHand_j27
  rw [if_neg (Int32.not_lt.mpr hy.1), if_neg (Int32.not_lt.mpr hy.2), if_neg (Int32.not_lt.mpr hz.1), if_neg (Int32.not_lt.mpr hz.2), lc_64 h, mu_cV1]
theorem mh_no {y z : Int32} (h : ly c S) (hy : ¬ ((1 ≤ y ∧ y ≤ 96) ∧ (0 ≤ z ∧ z ≤ 16))) : X8_mustBeHand 64 y z (c, w, S, I, K) = rX c w S I K 1 := by
  have e : X8_mustBeHand_j26 64 (c, w, S, I, K) = rX c w S I K 1 := by
    unfold X8_mustBeHand_j26 X8_mustBeHand_j27
    rw [lc_64 h, mu_cV h]
  unfold X8_mustBeHand
  by_cases h1 : y < 1
  · rw [if_pos h1, e]
  · rw [if_neg h1]
    by_cases h2 : (96 : Int32) < y
    · rw [if_pos h2, e]
    · rw [if_neg h2]
      by_cases h3 : z < 0
      · rw [if_pos h3, e]
      · rw [if_neg h3]
        by_cases h4 : (16 : Int32) < z
        · rw [if_pos h4, e]
        · exact absurd ⟨⟨Int32.not_lt.mp h1, Int32.not_lt.mp h2⟩, Int32.not_lt.mp h3, Int32.not_lt.mp h4⟩ hy
theorem ih_M {y z : Int32} {m : pmM} : X9_isHand y z m = pm_oI (ly_b (decide ((1 ≤ y ∧ y ≤ 96) ∧ (0 ≤ z ∧ z ≤ 16)))) m := by
  unfold X9_isHand X9_isHand_j24 X9_isHand_j25
  rw [rm_in, ly_cI]
  by_cases h1 : 1 ≤ y ∧ y ≤ 96
  · rw [decide_eq_true h1, ib1, rm_in, ly_cI]
    by_cases h2 : 0 ≤ z ∧ z ≤ 16
    · rw [decide_eq_true h2, ib1, decide_eq_true ⟨h1, h2⟩]
      rfl
    · rw [decide_eq_false h2, ib0, decide_eq_false (fun e => h2 e.2)]
      rfl
  · rw [decide_eq_false h1, ib0, decide_eq_false (fun e => h1 e.1)]
    rfl
theorem PE_s (h : only (PE 96) I I1) : same I I1 := fun i j hn => h i j (fun e => hn (by unfold PE PD at e; unfold sc; omega))
theorem PF_s (h : only (PF 536) I I1) : same I I1 := fun i j hn => h i j (fun e => hn (by unfold PF PR at e; unfold sc; omega))
theorem ca_hand0 (hwC : wC D X) (hwM : wM D X) (s y z v : Int32) (h : ly c S) (hJ : JJ I n wd q r a se W G) : ag isI (I 0) c w S (fun k => k) (X8_hand 64 s y z v (c, w, S, I, K)) (X9_hand 108 s y z v) := by
  obtain ⟨hPC, hPM, hDC, hDM, hr, -⟩ := id hJ
  have hn6 := hPC.1.1
  have m24 : ∀ c1 w1 S1 I1 K2, ly c1 S1 → X9_hand_j24 108 s y z v 108 (c1, w1, S1, ly_u I1 108 0 0, K2) = pm_oI 0 (c1, w1, S1, bI I1 1 1, K2) := by
    intro c1 w1 S1 I1 K2 h1
    unfold X9_hand_j24 X9_hand_j29
    rw [lc_108 h1, bad_11 h1, ly_cI, i10]
  by_cases hh : (1 ≤ y ∧ y ≤ 96) ∧ (0 ≤ z ∧ z ≤ 16)
  case neg =>
    refine ag_no (K := K) (k := 1) (b := .int 0) h hJ (by omega) ⟨_, rfl⟩ ?_ (fun c1 w1 S1 I1 K2 h1 hI => ?_)
    · unfold X8_hand
      rw [lc_64 h, mh_no h hh, rx_cV]
    · unfold X9_hand
      rw [lp_108 h1, ih_M, ly_cI, decide_eq_false hh, ib0, m24 c1 w1 S1 I1 K2 h1]
  by_cases hv : 0 ≤ v ∧ v ≤ 3
  case neg =>
    refine ag_no (K := K) (k := 1) (b := .int 0) h hJ (by omega) ⟨_, rfl⟩ ?_ (fun c1 w1 S1 I1 K2 h1 hI => ?_)
    · have e : X8_hand_j22 64 s y z v 64 (c, w, S, I, K) = rX c w S I K 1 := by
        unfold X8_hand_j22 X8_hand_j23
        rw [lc_64 h, mu_cV h]
      unfold X8_hand
      rw [lc_64 h, mh_ok h hh.1 hh.2, ly_cV]
      by_cases h1 : v < 0
      · rw [if_pos h1, e]
      · rw [if_neg h1, if_pos (Int32.not_le.mp (fun e9 => hv ⟨Int32.not_lt.mp h1, e9⟩)), e]
    · unfold X9_hand
      rw [lp_108 h1, ih_M, ly_cI, decide_eq_true hh, ib1, rm_in, ly_cI, decide_eq_false hv, ib0, m24 c1 w1 S1 I1 K2 h1]
  have y0 : ¬ y < 0 := fun e => absurd (Int32.lt_trans e (show (0 : Int32) < 1 by decide)) (Int32.not_lt.mpr hh.1.1)
  obtain ⟨k, hk, rfl⟩ := nI_of2 (n := 96) rfl y0 hh.1.2
  obtain ⟨Q, hQ, rfl⟩ := nI_of2 (n := 16) rfl (nI_lt0 hh.2.1) hh.2.2
  obtain ⟨v, hv3, rfl⟩ := nI_of2 (n := 3) rfl (nI_lt0 hv.1) hv.2
  have hvv : v = 0 ∨ v = 1 ∨ v = 2 ∨ v = 3 := by omega
  obtain ⟨A, g1, g2, g3⟩ := to_C (w := w) (K := K) h hDC
  obtain ⟨B, k1, k2, k3⟩ := hp_C (w := w) (K := K) (k := k) (s := s) (Q := Q) hwC h (eC_o dk_96 (eCJ hJ) g3) dk_96 g2 hr (by omega) hQ
  have hsB : same I B := PE_s (only_t (PD_e g3) k3)
  have hrW : dk_W n wd (hdr D X n wd q (lwp I) Q k s r) := hdr_W hPC.1 hr
  generalize hR : hdr D X n wd q (lwp I) Q k s r = R at k2 hrW
  refine ag_ro (v := .int (if v = 0 then nI (rd_la n wd (rd_s R)) else if v = 1 then R 10 else if v = 2 then R 12 - r 12 else cs R 4)) (I1 := B) (K1 := K) h hJ ⟨_, rfl⟩ ?_ hsB (fun hJ1 K2 => ?_)
  · have hPB := pg_C_same hPC hsB
    have e6 : B 93 6 = r 12 := (dk_C_same hDC hsB).2.2.2.2.1
    unfold X8_hand X8_hand_j23
    rw [lc_64 h, mh_ok h hh.1 hh.2, ly_cV, if_neg (nI_lt0 hv.1), if_neg (Int32.not_lt.mpr hv.2), lc_64 h, mu_cV1, lr_64_9 h, lr_64_8 h, lc_96 h, g1, ly_cV, lr_64_9 h, lc_96 h, k1, ly_cV]
    rcases hvv with rfl | rfl | rfl | rfl
    · rw [n00, lr_64_9 h, lc_96 h, rd_leftInAll h hPB dk_96 k2 hrW, ly_cI]
      rfl
    · rw [if_neg (show ¬ nI 1 = 0 by decide), if_pos (show nI 1 = 1 from rfl), lr_64_9 h, lg_96 h, k2.2.2.1]
      rfl
    · rw [if_neg (show ¬ nI 2 = 0 by decide), if_neg (show ¬ nI 2 = 1 by decide), if_pos (show nI 2 = 2 from rfl), lr_64_9 h, lg_96 h, k2.2.2.2.2.1, lr_64_8 h, lg_93 h, e6]
      rfl
    · rw [if_neg (show ¬ nI 3 = 0 by decide), if_neg (show ¬ nI 3 = 1 by decide), if_neg (show ¬ nI 3 = 2 by decide), lr_64_9 h, lc_96 h, rd_cells h dk_96 k2, ly_cI]
      rfl
  · obtain ⟨hPM2, hDM2⟩ := jm hJ1
    have hE2 : eM (ly_u B 108 0 0) n wd q (lwp I) := by
      obtain ⟨u1, u2, u3⟩ := eMz (eMJ hJ1)
      exact ⟨u1, u2, fun kn => by rw [u3 kn, lwp_s hJ.2.2.2.2.2.2.2.2.2.2 hsB]⟩
    obtain ⟨I2, p1, p2, p3⟩ := hp_M (w := w) (K := K2) (k := k) (s := s) (Q := Q) hwM h hE2 hDM2 hr (by omega) hQ
    rw [hR] at p2
    have hs2 : same B I2 := same_t s0 (PF_s p3)
    have hP2 := pg_M_same hJ1.2.1 hs2
    have hD2 := dk_M_same hJ1.2.2.2.1 hs2
    refine ⟨I2, K2, ?_, ?_, hs2, rfl⟩
    · unfold X9_hand X9_hand_j29 X9_hand_j109
      rw [lp_108 h, ih_M, ly_cI, decide_eq_true hh, ib1, rm_in, ly_cI, decide_eq_true hv, ib1, lc_108 h, bad_z h, ly_cI, i00, lc_108 h, p1, ly_cV]
      rcases hvv with rfl | rfl | rfl | rfl
      · rw [n00, lr_108_30 h, lc_108 h, rm_leftAll h hP2 rwa_536 p2 hrW, ly_cI]
        rfl
      · rw [if_neg (show ¬ nI 1 = 0 by decide), if_pos (show nI 1 = 1 from rfl), lr_108_30 h, ld_i (i := 10) 10 rfl, ld_536 h (by omega), p2 10 (by omega)]
        rfl
      · rw [if_neg (show ¬ nI 2 = 0 by decide), if_neg (show ¬ nI 2 = 1 by decide), if_pos (show nI 2 = 2 from rfl), lr_108_30 h, ld_i (i := 12) 12 rfl, ld_536 h (by omega), p2 12 (by omega), lr_108_29 h, ld_i (i := 12) 12 rfl, ld_535 h (by omega), hD2 12 (by omega)]
        rfl
      · rw [if_neg (show ¬ nI 3 = 0 by decide), if_neg (show ¬ nI 3 = 1 by decide), if_neg (show ¬ nI 3 = 2 by decide), lr_108_30 h, rm_cells h rwa_536 p2, ly_cI]
        rfl
    · rw [p3 108 0 (by unfold PF PR; omega)]
      exact z0'
theorem ca_hand (s y z v : Int32) (h : ly c S) (hJ : JJ I n wd q r a se W G) : ag isI (I 0) c w S (fun k => k) (X8_hand 64 s y z v (c, w, S, I, K)) (X9_hand 108 s y z v) := ca_hand0 wC_ok wM_ok s y z v h hJ
end HNF
