/-! deeds ahead -/
section AHD
variable {c w : Nat} {S : Nat → pmS} {I I1 I2 J : Nat → Nat → Int32} {K K1 : Nat → Nat → Int64} {n : Nat} {wd : Nat → Nat} {q : Nat → Nat → Nat} {r : Nat → Int32} {a : Nat} {se : Nat → Nat} {W G d : Nat} {lw : (Nat → Int32) → Int32}
theorem rn_C {k : Nat} (h : ly c S) (hE : eC I n wd q lw) (hd : dk d) (hC : dk_C I d r) (hr : dk_W n wd r) (hk : k < 2 ^ 16) : ∃ I1, X0_runOn d (nI k) (c, w, S, I, K) = pm_oI (ly_b (decide (rd_s r 11 < n))) (c, w, S, I1, K) ∧ dk_C I1 d (rdk n wd q k r) ∧ only (PD d) I I1 := by
  have hn6 := hE.1.1.1
  have eat := dk_at hr
  unfold X0_runOn
  rw [lk_g h hd, hC.2.2.2.1, eat.1, lk_0 h hd, lg_67 h, hE.1.2.1]
  by_cases hov : rd_s r 11 < n
  · obtain ⟨B, g1, g2, g3⟩ := ds_C (w := w) (K := K) h hE hd hC hr hk
    rw [if_pos (nI_lt hov (by omega)), g1, decide_eq_true hov]
    exact ⟨B, rfl, g2, g3⟩
  · rw [if_neg (nI_nlt (by omega) (by omega)), decide_eq_false hov, rdk_ov hr hov]
    exact ⟨I, rfl, hC, only_r⟩
theorem rn_M {k : Nat} (h : ly c S) (hE : eM I n wd q lw) (ha : rwa a) (hC : dk_M I a r) (hr : dk_W n wd r) (hk : k < 2 ^ 16) : ∃ I1, X9_runs 108 a (nI k) (c, w, S, I, K) = pm_oI (ly_b (decide (rd_s r 11 < n))) (c, w, S, I1, K) ∧ dk_M I1 a (rdk n wd q k r) ∧ only (PR a) I I1 := by
  have hn6 := hE.1.1.1
  have eat := dk_at hr
  unfold X9_runs
  rw [ld_i (i := 11) 11 rfl, lw_l h ha (by omega), hC 11 (by omega), eat.1, lg_108 h, hE.1.2.1]
  by_cases hov : rd_s r 11 < n
  · rw [if_pos (nI_lt hov (by omega)), decide_eq_true hov]
    refine ds_M X9_runs_j43 (fun R => ∃ I1, R = pm_oI (ly_b true) (c, w, S, I1, K) ∧ dk_M I1 a (rdk n wd q k r) ∧ only (PR a) I I1) h hE ha hC hr hk (fun again i m => rfl) (fun I1 g1 g2 => ⟨I1, rfl, g1, g2⟩)
  · rw [if_neg (nI_nlt (by omega) (by omega)), decide_eq_false hov, rdk_ov hr hov]
    exact ⟨I, rfl, hC, only_r⟩
/-- begin -/
def rbg (n : Nat) (r : Nat → Int32) : Bool × (Nat → Int32) := if rd_s r 11 = 0 ∨ n = 0 then (false, r) else (true, rup r 11 (nI 0))
theorem rbg_W (hr : dk_W n wd r) (hn : n ≤ 6) : dk_W n wd (rbg n r).2 := by
  unfold rbg
  split
  · exact hr
  · exact dk_Wa hr hn (by omega)
theorem bg_C (h : ly c S) (hE : eC I n wd q lw) (hd : dk d) (hC : dk_C I d r) (hr : dk_W n wd r) : ∃ I1, X0_beginAgain d (c, w, S, I, K) = pm_oI (ly_b (rbg n r).1) (c, w, S, I1, K) ∧ dk_C I1 d (rbg n r).2 ∧ only (PD d) I I1 := by
  have hn6 := hE.1.1.1
  have eat := dk_at hr
  unfold X0_beginAgain X0_beginAgain_j17 rbg
  rw [lk_g h hd, hC.2.2.2.1, eat.1]
  by_cases h0 : rd_s r 11 = 0
  · rw [if_pos (show nI (rd_s r 11) = 0 by rw [h0]; rfl), if_pos (Or.inl h0)]
    exact ⟨I, rfl, hC, only_r⟩
  · rw [if_neg (nI_ne0 (by omega) (by omega)), lk_0 h hd, lg_67 h, hE.1.2.1]
    by_cases h1 : n = 0
    · rw [if_pos (show nI n = 0 by rw [h1]; rfl), if_pos (Or.inr h1)]
      exact ⟨I, rfl, hC, only_r⟩
    · rw [if_neg (nI_ne0 (by omega) (by omega)), lk_p h hd, if_neg (by omega)]
      exact ⟨_, rfl, (dk_C_u hC (k := 0) (v := 0)).1, only_u only_r (by unfold PD; omega)⟩
theorem bg_M (h : ly c S) (hE : eM I n wd q lw) (ha : rwa a) (hC : dk_M I a r) (hr : dk_W n wd r) : ∃ I1, X9_begins 108 a (c, w, S, I, K) = pm_oI (ly_b (rbg n r).1) (c, w, S, I1, K) ∧ dk_M I1 a (rbg n r).2 ∧ only (PR a) I I1 := by
  have hn6 := hE.1.1.1
  have eat := dk_at hr
  unfold X9_begins X9_begins_j14 rbg
  rw [ld_i (i := 11) 11 rfl, lw_l h ha (by omega), hC 11 (by omega), eat.1]
  by_cases h0 : rd_s r 11 = 0
  · rw [if_pos (show nI (rd_s r 11) = 0 by rw [h0]; rfl), if_pos (Or.inl h0)]
    exact ⟨I, rfl, hC, only_r⟩
  · rw [if_neg (nI_ne0 (by omega) (by omega)), lg_108 h, hE.1.2.1]
    by_cases h1 : n = 0
    · rw [if_pos (show nI n = 0 by rw [h1]; rfl), if_pos (Or.inr h1)]
      exact ⟨I, rfl, hC, only_r⟩
    · rw [if_neg (nI_ne0 (by omega) (by omega)), st_i (i := 11) 11 rfl, lw_s h ha (by omega), if_neg (by omega)]
      exact ⟨_, rfl, dm_u hC, only_u only_r (by unfold PR; omega)⟩
/-- the trial desk, the trial row -/
theorem lcp {a0 a1 sp dp m : Nat} {f : pmM → pmR} (N0 N1 : Nat) (h : ly c S) (ha : ly_ok a0 100 = true) (hb : ly_w a1 100 = true) (hN0 : (ly_f a0).2 = N0) (hN1 : (ly_f a1).2 = N1) (h0 : N0 < 2 ^ 31) (h1 : N1 < 2 ^ 31) (hn0 : sp + m ≤ N0) (hn1 : dp + m ≤ N1) {x y z : Int32} (hx : x = nI sp) (hy : y = nI dp) (hz : z = nI m) : pm_cp a0 x a1 y z (c, w, S, I, K) f = f (c, w, S, ly_c I a0 sp a1 dp m, K) := by
  subst hx hy hz
  exact ly_cpG N0 N1 h ha hb hN0 hN1 h0 h1 hn0 hn1
def PT (i j : Nat) : Prop := PD 96 i j
theorem to_C (h : ly c S) (hC : dk_C I 93 r) : ∃ I1, X0_takeOver 96 93 (c, w, S, I, K) = pm_oV (c, w, S, I1, K) ∧ dk_C I1 96 r ∧ only (PD 96) I I1 := by
  obtain ⟨h1, h2, h3, h4, h5, h6⟩ := hC
  unfold X0_takeOver
  rw [lr_93_2 h, lr_96_2 h, lcp (x := 0) (y := 0) (z := 6) (sp := 0) (dp := 0) (m := 6) 6 6 h rfl rfl rfl rfl (by omega) (by omega) (by omega) (by omega) rfl rfl rfl, lr_93_3 h, lr_96_3 h, lcp (x := 0) (y := 0) (z := 4) (sp := 0) (dp := 0) (m := 4) 4 4 h rfl rfl rfl rfl (by omega) (by omega) (by omega) (by omega) rfl rfl rfl, lg_93 h, lp_96 h, lg_93 h, lp_96 h, lg_93 h, lp_96 h, lg_93 h, lp_96 h]
  refine ⟨_, rfl, ⟨fun l hl => ?_, fun k hk => ?_, ?_, ?_, ?_, ?_⟩, ?_⟩
  · simp (disch := omega) only [ly_uE, ly_cE, if_neg, if_pos, and_self, true_and, Nat.zero_le, if_true, Nat.zero_add, Nat.sub_zero]
    exact h1 l hl
  · simp (disch := omega) only [ly_uE, ly_cE, if_neg, if_pos, and_self, true_and, Nat.zero_le, if_true, Nat.zero_add, Nat.sub_zero]
    exact h2 k hk
  · simp (disch := omega) only [ly_uE, ly_cE, if_neg, if_pos, and_self, true_and, Nat.zero_le, if_true, Nat.zero_add, Nat.sub_zero]
    exact h3
  · simp (disch := omega) only [ly_uE, ly_cE, if_neg, if_pos, and_self, true_and, Nat.zero_le, if_true, Nat.zero_add, Nat.sub_zero]
    exact h4
  · simp (disch := omega) only [ly_uE, ly_cE, if_neg, if_pos, and_self, true_and, Nat.zero_le, if_true, Nat.zero_add, Nat.sub_zero]
    exact h5
  · simp (disch := omega) only [ly_uE, ly_cE, if_neg, if_pos, and_self, true_and, Nat.zero_le, if_true, Nat.zero_add, Nat.sub_zero]
    exact h6
  · intro i j hn
    unfold PD at hn
    simp (disch := omega) only [ly_uE, ly_cE, if_neg]
theorem cp_M {b0 b1 : Nat} (h : ly c S) (ok : ∀ (J : Nat → Nat → Int32) (k : Nat) (f : Int32 → pmR), k < 14 → pm_ld 100 b0 (nI k) (c, w, S, J, K) f = f (J b0 k)) (ok1 : ∀ (J : Nat → Nat → Int32) (k : Nat) (v : Int32) (f : pmM → pmR), k < 14 → pm_st 100 b1 (nI k) v (c, w, S, J, K) f = f (c, w, S, ly_u J b1 k v, K)) (hne : b0 ≠ b1) : ∃ I1, X9_copies b0 b1 (c, w, S, I, K) = pm_oV (c, w, S, I1, K) ∧ (∀ k, k < 14 → I1 b1 k = I b0 k) ∧ but b1 I I1 ∧ ∀ k, 14 ≤ k → I1 b1 k = I b1 k := by
  unfold X9_copies
  refine ly_loop (fun i (A : Nat → Nat → Int32) => ((nI i, (c, w, S, A, K)) : Int32 × pmM)) 14 (fun i A => (∀ k, k < i → A b1 k = I b0 k) ∧ but b1 I A ∧ ∀ k, i ≤ k → A b1 k = I b1 k) (fun R => ∃ I1, R = pm_oV (c, w, S, I1, K) ∧ (∀ k, k < 14 → I1 b1 k = I b0 k) ∧ but b1 I I1 ∧ ∀ k, 14 ≤ k → I1 b1 k = I b1 k) ?_ ?_ pm_N 0 I ⟨fun k hk => by omega, but_r, fun k _ => rfl⟩ (by omega) (by rw [pm_NE]; omega)
  · intro again i A hi hQ hn
    obtain ⟨q1, q2, q3⟩ := hQ
    unfold X9_copies_L2
    simp only
    rw [if_neg (show ¬ (14 : Int32) ≤ nI i from nI_ge (b := 14) hi (by omega)), ok A i _ hi, ok1 A i _ _ hi, ly_bI, nI_1]
    refine hn _ ⟨fun k hk => ?_, but_u q2, fun k hk => ?_⟩
    · rw [ly_uE]
      by_cases e : k = i
      · subst e
        rw [if_pos ⟨rfl, rfl⟩, q2 b0 k hne]
      · rw [if_neg (fun e9 => e e9.2)]
        exact q1 k (by omega)
    · rw [ly_uE, if_neg (by omega)]
      exact q3 k (by omega)
  · intro again A hQ
    unfold X9_copies_L2
    simp only
    rw [if_pos (show (14 : Int32) ≤ nI 14 by decide)]
    exact ⟨A, rfl, hQ⟩
theorem to_M (h : ly c S) (hC : dk_M I 535 r) : ∃ I1, X9_copies 535 536 (c, w, S, I, K) = pm_oV (c, w, S, I1, K) ∧ dk_M I1 536 r ∧ only (PR 536) I I1 := by
  obtain ⟨I1, g1, g2, g3, -⟩ := cp_M (w := w) (K := K) (I := I) (b0 := 535) (b1 := 536) h (fun J k f hk => ld_535 h hk) (fun J k v f hk => ls_536 h hk) (by omega)
  exact ⟨I1, g1, fun k hk => by rw [g2 k hk]; exact hC k hk, but_o g3⟩
theorem eCJ (hJ : JJ I n wd q r a se W G) : eC I n wd q (lwp I) := ⟨hJ.1, hJ.2.2.2.2.2.2.2.2.2.2, fun _ => rfl⟩
theorem eMJ (hJ : JJ I n wd q r a se W G) : eM I n wd q (lwp I) := ⟨hJ.2.1, hJ.2.2.2.2.2.2.2.2.2.2, fun _ => rfl⟩
theorem PD_s (h : only (PD 96) I I1) : same I I1 := fun i j hn => h i j (fun e => hn (by unfold PD at e; unfold sc; omega))
theorem PR_s (h : only (PR 536) I I1) : same I I1 := fun i j hn => h i j (fun e => hn (by unfold PR at e; unfold sc; omega))
theorem eMz (hE : eM I n wd q lw) : eM (ly_u I 108 0 0) n wd q lw := by
  obtain ⟨h1, h2, h3⟩ := hE
  exact ⟨pg_M_same h1 s0, jl_same h2 s0, fun kn => by rw [lwp_s h2 s0]; exact h3 kn⟩
theorem ca_ahead (y z : Int32) (h : ly c S) (hJ : JJ I n wd q r a se W G) : ag isI (I 0) c w S (fun k => k) (X8_ahead 64 y z (c, w, S, I, K)) (X9_ahead 108 y z) := by
  obtain ⟨hPC, hPM, hDC, hDM, hr, -⟩ := id hJ
  have hn6 := hPC.1.1
  by_cases hy : 0 ≤ y ∧ y ≤ 999
  case neg =>
    refine ag_no (K := K) (k := 1) (b := .int 0) h hJ (by omega) ⟨_, rfl⟩ ?_ (fun c1 w1 S1 I1 K2 h1 hI => ?_)
    · have e : X8_ahead_j25 64 y z 64 (c, w, S, I, K) = rX c w S I K 1 := by
        unfold X8_ahead_j25 X8_ahead_j26
        rw [lc_64 h, mu_cV h]
      unfold X8_ahead
      by_cases h1 : y < 0
      · rw [if_pos h1, e]
      · rw [if_neg h1, if_pos (Int32.not_le.mp (fun e9 => hy ⟨Int32.not_lt.mp h1, e9⟩)), e]
    · unfold X9_ahead X9_ahead_j26 X9_ahead_j31
      rw [lp_108 h1, rm_in, ly_cI, decide_eq_false hy, ib0, lc_108 h1, bad_11 h1, ly_cI, i10]
  by_cases hz : 0 ≤ z ∧ z ≤ 2
  case neg =>
    refine ag_no (K := K) (k := 1) (b := .int 0) h hJ (by omega) ⟨_, rfl⟩ ?_ (fun c1 w1 S1 I1 K2 h1 hI => ?_)
    · have e : X8_ahead_j25 64 y z 64 (c, w, S, I, K) = rX c w S I K 1 := by
        unfold X8_ahead_j25 X8_ahead_j26
        rw [lc_64 h, mu_cV h]
      unfold X8_ahead
      rw [if_neg (nI_lt0 hy.1), if_neg (Int32.not_lt.mpr hy.2)]
      by_cases h1 : z < 0
      · rw [if_pos h1, e]
      · rw [if_neg h1, if_pos (Int32.not_le.mp (fun e9 => hz ⟨Int32.not_lt.mp h1, e9⟩)), e]
    · unfold X9_ahead X9_ahead_j26 X9_ahead_j31
      rw [lp_108 h1, rm_in, ly_cI, decide_eq_true hy, ib1, rm_in, ly_cI, decide_eq_false hz, ib0, lc_108 h1, bad_11 h1, ly_cI, i10]
  obtain ⟨k, hk, rfl⟩ := nI_of2 (n := 999) rfl (nI_lt0 hy.1) hy.2
  obtain ⟨v, hv, rfl⟩ := nI_of2 (n := 2) rfl (nI_lt0 hz.1) hz.2
  have hvv : v = 0 ∨ v = 1 ∨ v = 2 := by omega
  have hrW := rdk_W hPC.1 (k := k) hr
  obtain ⟨A, g1, g2, g3⟩ := to_C (w := w) (K := K) h hDC
  obtain ⟨B, k1, k2, k3⟩ := rn_C (w := w) (K := K) (k := k) h (eC_o dk_96 (eCJ hJ) g3) dk_96 g2 hr (by omega)
  have hsB : same I B := PD_s (only_t g3 k3)
  refine ag_ro (v := .int (if v = 0 then rdk n wd q k r 11 else if v = 1 then cs (rdk n wd q k r) 4 else nI (rd_la n wd (rd_s (rdk n wd q k r))))) (I1 := B) (K1 := K) h hJ ⟨_, rfl⟩ ?_ hsB (fun hJ1 K2 => ?_)
  · have hPB := pg_C_same hPC hsB
    unfold X8_ahead X8_ahead_j26
    rw [if_neg (nI_lt0 hy.1), if_neg (Int32.not_lt.mpr hy.2), if_neg (nI_lt0 hz.1), if_neg (Int32.not_lt.mpr hz.2), lc_64 h, mu_cV1, lr_64_9 h, lr_64_8 h, lc_96 h, g1, ly_cV, lr_64_9 h, lc_96 h, k1, ly_cI]
    rcases hvv with rfl | rfl | rfl
    · rw [n00, lr_64_9 h, lg_96 h, k2.2.2.2.1]
      rfl
    · rw [if_neg (show ¬ nI 1 = 0 by decide), if_pos (show nI 1 = 1 from rfl), lr_64_9 h, lc_96 h, rd_cells h dk_96 k2, ly_cI]
      rfl
    · rw [if_neg (show ¬ nI 2 = 0 by decide), if_neg (show ¬ nI 2 = 1 by decide), lr_64_9 h, lc_96 h, rd_leftInAll h hPB dk_96 k2 hrW, ly_cI]
      rfl
  · obtain ⟨hPM2, hDM2⟩ := jm hJ1
    have hE2 := eMz (eMJ hJ1)
    obtain ⟨A2, p1, p2, p3⟩ := to_M (w := w) (K := K2) h hDM2
    have hsA : same B A2 := same_t s0 (PR_s p3)
    have key : ∃ I2, X9_ahead 108 (nI k) (nI v) (c, w, S, B, K2) = X9_ahead_j88 108 (nI v) (c, w, S, I2, K2) ∧ dk_M I2 536 (rdk n wd q k r) ∧ only (PR 536) A2 I2 := by
      unfold X9_ahead X9_ahead_j31
      rw [lp_108 h, rm_in, ly_cI, decide_eq_true hy, ib1, rm_in, ly_cI, decide_eq_true hz, ib1, lc_108 h, bad_z h, ly_cI, i00, lr_108_29 h, lr_108_30 h, p1, ly_cV]
      refine ds_M (X9_ahead_j88 108 (nI v)) (fun R => ∃ I2, R = X9_ahead_j88 108 (nI v) (c, w, S, I2, K2) ∧ dk_M I2 536 (rdk n wd q k r) ∧ only (PR 536) A2 I2) h (eM_o rwa_536 hE2 p3) rwa_536 p2 hr (by omega) (fun again i A => ?_) (fun I1 e1 e2 => ⟨I1, rfl, e1, e2⟩)
      unfold X9_ahead_L54
      simp only [lr_108_30 h]
    obtain ⟨I2, e1, e2, e3⟩ := key
    have hs2 : same B I2 := same_t hsA (PR_s e3)
    have hP2 := pg_M_same hJ1.2.1 hs2
    refine ⟨I2, K2, ?_, ?_, hs2, rfl⟩
    · rw [e1]
      unfold X9_ahead_j88 X9_ahead_j125
      rcases hvv with rfl | rfl | rfl
      · rw [n00, lr_108_30 h, ld_i (i := 11) 11 rfl, ld_536 h (by omega), e2 11 (by omega)]
        rfl
      · rw [if_neg (show ¬ nI 1 = 0 by decide), if_pos (show nI 1 = 1 from rfl), lr_108_30 h, rm_cells h rwa_536 e2, ly_cI]
        rfl
      · rw [if_neg (show ¬ nI 2 = 0 by decide), if_neg (show ¬ nI 2 = 1 by decide), lr_108_30 h, lc_108 h, rm_leftAll h hP2 rwa_536 e2 hrW, ly_cI]
        rfl
    · rw [e3 108 0 (by unfold PR; omega), p3 108 0 (by unfold PR; omega)]
      exact z0'
end AHD
