/-! small answers: word, reads, deeds, longest -/
section SIP
variable {c w : Nat} {S : Nat → pmS} {I I1 I2 J : Nat → Nat → Int32} {K K1 : Nat → Nat → Int64} {n : Nat} {wd : Nat → Nat} {q : Nat → Nat → Nat} {r : Nat → Int32} {a : Nat} {se : Nat → Nat} {W G d : Nat}
theorem jm (hJ : JJ I n wd q r a se W G) : pg_M (ly_u I 108 0 0) n wd q ∧ dk_M (ly_u I 108 0 0) 535 r := ⟨pg_M_same hJ.2.1 s0, dk_M_same hJ.2.2.2.1 s0⟩
theorem ca_word (x y z : Int32) (h : ly c S) (hJ : JJ I n wd q r a se W G) : ag isI (I 0) c w S (fun k => 1 + k) (X8_word 64 x y z (c, w, S, I, K)) (X9_word 108 x y z) := by
  obtain ⟨hPC, hPM, hDC, hDM, hr, -⟩ := id hJ
  have hn6 := hPC.1.1
  rcases pk_ix x (n := n) (by omega) with hx | hx | ⟨l, hl, rfl⟩
  case inr.inr =>
    have hw8 := pg_wd hPC.1 l
    have e5 : ∀ m : pmM, X9_less (nI l) 5 m = pm_oI (nI l) m := fun m => by
      rw [rm_less]
      by_cases h5 : l < 5
      · rw [if_neg (show ¬ (5 : Int32) ≤ nI l from nI_ge (b := 5) h5 (by omega))]
      · have : l = 5 := by omega
        subst this
        rw [if_pos (show (5 : Int32) ≤ nI 5 by decide)]
        rfl
    rcases pk_ix y (n := wd l) (by omega) with hy | hy | ⟨i, hi, rfl⟩
    case inr.inr =>
      by_cases hz : 0 ≤ z ∧ z ≤ 1
      · obtain ⟨k, hk, rfl⟩ := nI_of2 (n := 1) rfl (nI_lt0 hz.1) hz.2
        have hkk : k = 0 ∨ k = 1 := by omega
        have hb := rd_sb hPM.1 hr (show l < 6 by omega)
        have hbit := rd_bit _ hb i (by omega)
        refine ag_ro (v := .int (if k = 0 then nI (q l i) else nI (if (rd_s r l).testBit i then 1 else 0))) (I1 := I) (K1 := K) h hJ ⟨_, rfl⟩ ?_ same_r (fun hJ1 K2 => ⟨ly_u I 108 0 0, K2, ?_, z0', s0, rfl⟩)
        · have hwa := rd_wordAt (w := w) (K := K) h hPC (show l < 2 ^ 31 by omega) (show i < 2 ^ 31 by omega)
          unfold rd_q at hwa
          rw [if_pos ⟨hl, hi⟩] at hwa
          have hil := rd_isLeft (w := w) (K := K) h hPC dk_93 hDC hr (show l < 2 ^ 31 by omega) (show i < 16 by omega)
          unfold X8_word X8_word_j16 X8_word_j21 X8_word_j55
          rw [lc_64 h, mw_ok h hPC hl hi, ly_cV]
          rcases hkk with rfl | rfl
          · rw [n00, lc_64 h, mu_cV1, n00, lr_64_1 h, lc_67 h, hwa, ly_cI]
            rfl
          · rw [if_neg (show ¬ nI 1 = 0 by decide), if_pos (show nI 1 = 1 from rfl), lc_64 h, mu_cV1, if_neg (show ¬ nI 1 = 0 by decide), lr_64_8 h, lc_93 h, hil, ly_cI]
            cases hbb : (rd_s r l).testBit i
            · rw [decide_eq_true ⟨hl, hi, rfl⟩, ib1]
              rfl
            · rw [decide_eq_false (by rintro ⟨-, -, e9⟩; cases e9), ib0]
              rfl
        · obtain ⟨hPM2, hDM2⟩ := jm hJ
          have e13 := hPM2.2.1
          have e1 := hPM2.2.2.1 l (by omega)
          have e2 := dm_s hDM2 hr (show l < 6 by omega)
          have e3 := hPM2.2.2.2 l i hl hi
          unfold X9_word X9_word_j39 X9_word_j62 X9_word_j99
          rw [lp_108 h, lc_108 h, il_ok h e13 hn6 hl, ly_cI, i10, lr_108_16 h, e5, ly_cI, ld_113 h (by omega), e1, rm_in, ly_cI, decide_eq_true ((in_n (by omega)).mpr (in_l hi (by omega))), ib1, lc_108 h, bad_z h, ly_cI, i00, rm_in, ly_cI, decide_eq_true hz, ib1, lc_108 h, bad_z h, ly_cI, i00]
          rcases hkk with rfl | rfl
          · rw [n00, lr_108_18 h, lr_121 h (by omega), ld_122 h (by omega) (by omega), e3]
            rfl
          · rw [if_neg (show ¬ nI 1 = 0 by decide), lr_108_29 h, show (0 : Int32) + nI l = nI l from Int32.zero_add _, ld_535 h (by omega), e2]
            show pm_oI ((nI (rd_s r l) >>> (nI i &&& nI 31)) &&& nI 1) _ = _
            rw [hbit]
            rfl
      · refine ag_no (K := K) (k := 1) (b := .int 0) h hJ (by omega) ⟨_, rfl⟩ ?_ (fun c1 w1 S1 I1 K2 h1 hI => ?_)
        · have z0 : ¬ z = 0 := fun e9 => hz (by subst e9; decide)
          have z1 : ¬ z = 1 := fun e9 => hz (by subst e9; decide)
          unfold X8_word X8_word_j21
          rw [lc_64 h, mw_ok h hPC hl hi, ly_cV, if_neg z0, if_neg z1, lc_64 h, mu_cV h]
        · have e13 : ly_u I1 108 0 0 108 13 = nI n := by rw [u0 (by omega), hI 108 13 (by omega) (by omega)]; exact hPM.2.1
          have e1 : ly_u I1 108 0 0 113 l = nI (wd l) := by rw [u0 (by omega), hI 113 l (by omega) (by omega)]; exact hPM.2.2.1 l (by omega)
          unfold X9_word X9_word_j39 X9_word_j62 X9_word_j70
          rw [lp_108 h1, lc_108 h1, il_ok h1 e13 hn6 hl, ly_cI, i10, lr_108_16 h1, e5, ly_cI, ld_113 h1 (by omega), e1, rm_in, ly_cI, decide_eq_true ((in_n (by omega)).mpr (in_l hi (by omega))), ib1, lc_108 h1, bad_z h1, ly_cI, i00, rm_in, ly_cI, decide_eq_false hz, ib0, lc_108 h1, bad_21 h1, ly_cI, i10]
    all_goals
      have hy' : y < 0 ∨ nI (wd l) ≤ y := by first | exact Or.inl hy | exact Or.inr hy
      refine ag_no (K := K) (k := 0) (b := .int 0) h hJ (by omega) ⟨_, rfl⟩ ?_ (fun c1 w1 S1 I1 K2 h1 hI => ?_)
      · unfold X8_word
        rw [lc_64 h, mw_no h (hw_no h hPC hl hy'), rx_cV]
      · have e13 : ly_u I1 108 0 0 108 13 = nI n := by rw [u0 (by omega), hI 108 13 (by omega) (by omega)]; exact hPM.2.1
        have e1 : ly_u I1 108 0 0 113 l = nI (wd l) := by rw [u0 (by omega), hI 113 l (by omega) (by omega)]; exact hPM.2.2.1 l (by omega)
        unfold X9_word X9_word_j34 X9_word_j39 X9_word_j70
        rw [lp_108 h1, lc_108 h1, il_ok h1 e13 hn6 hl, ly_cI, i10, lr_108_16 h1, e5, ly_cI, ld_113 h1 (by omega), e1, rm_in, ly_cI, decide_eq_false (fun e9 => (in_n (by omega)).mp e9 hy'), ib0, lc_108 h1, bad_10 h1, ly_cI, i10]
  all_goals
    have hx' : x < 0 ∨ nI n ≤ x := by first | exact Or.inl hx | exact Or.inr hx
    refine ag_no (K := K) (k := 0) (b := .int 0) h hJ (by omega) ⟨_, rfl⟩ ?_ (fun c1 w1 S1 I1 K2 h1 hI => ?_)
    · unfold X8_word
      rw [lc_64 h, mw_no h (hw_nl h hPC hx'), rx_cV]
    · have e13 : ly_u I1 108 0 0 108 13 = nI n := by rw [u0 (by omega), hI 108 13 (by omega) (by omega)]; exact hPM.2.1
      unfold X9_word X9_word_j34 X9_word_j39 X9_word_j70
      rw [lp_108 h1, lc_108 h1, il_no h1 e13 hn6 hx', ly_cI, i00, lc_108 h1, bad_10 h1, ly_cI, i10]
/-- lines that begin with such a word -/
def dds (wd s : Nat → Nat) (q : Nat → Nat → Nat) (y : Int32) : Nat → Int32
  | 0 => 0
  | l + 1 => if rd_lw wd s q l 0 = y then dds wd s q y l ||| (1 <<< (nI l &&& 31)) else dds wd s q y l
theorem ca_deeds (y : Int32) (h : ly c S) (hJ : JJ I n wd q r a se W G) : ag isI (I 0) c w S (fun k => k) (X8_deeds 64 y (c, w, S, I, K)) (X9_deeds 108 y) := by
  obtain ⟨hPC, hPM, hDC, hDM, hr, -⟩ := id hJ
  have hn6 := hPC.1.1
  by_cases hy : 0 ≤ y ∧ y ≤ 15
  · refine ag_ro (v := .int (dds wd (rd_s r) q y n)) (I1 := I) (K1 := K) h hJ ⟨_, rfl⟩ ?_ same_r (fun hJ1 K2 => ⟨ly_u I 108 0 0, K2, ?_, z0', s0, rfl⟩)
    · unfold X8_deeds X8_deeds_j16
      rw [if_neg (nI_lt0 hy.1), if_neg (Int32.not_lt.mpr hy.2), lc_64 h, mu_cV1]
      refine ly_loop (fun i (z : Int32) => ((z, nI i, (c, w, S, I, K)) : Int32 × Int32 × pmM)) n (fun i z => z = dds wd (rd_s r) q y i) (fun R => R = pm_oI (dds wd (rd_s r) q y n) (c, w, S, I, K)) ?_ ?_ pm_N 0 0 rfl (by omega) (by rw [pm_NE]; omega)
      · intro again i z hi hQ hk
        subst hQ
        have := hk _ rfl
        simp only [dds] at this
        unfold X8_deeds_L23 X8_deeds_j52
        simp only
        rw [lr_64_1 h, lg_67 h, hPC.2.1, if_neg (nI_ge hi (by omega)), lr_64_8 h, lc_93 h, rd_first h hPC dk_93 hDC hr hi, ly_cI]
        by_cases h0 : rd_lw wd (rd_s r) q i 0 = y
        · rw [if_pos h0] at this
          rw [if_pos h0, ly_bI, ly_bI, nI_1]
          exact this
        · rw [if_neg h0] at this
          rw [if_neg h0, ly_bI, nI_1]
          exact this
      · intro again z hQ
        subst hQ
        unfold X8_deeds_L23
        simp only
        rw [lr_64_1 h, lg_67 h, hPC.2.1, if_pos (nI_le (Nat.le_refl _) (by omega))]
    · obtain ⟨hPM2, hDM2⟩ := jm hJ
      unfold X9_deeds X9_deeds_j21
      rw [lp_108 h, rm_in, ly_cI, decide_eq_true hy, ib1, lc_108 h, bad_z h, ly_cI, i00]
      generalize ly_u I 108 0 0 = J at hPM2 hDM2 ⊢
      refine ly_loop (fun i (z : Int32) => ((z, nI i, (c, w, S, J, K2)) : Int32 × Int32 × pmM)) n (fun i z => z = dds wd (rd_s r) q y i) (fun R => R = pm_oI (dds wd (rd_s r) q y n) (c, w, S, J, K2)) ?_ ?_ pm_N 0 0 rfl (by omega) (by rw [pm_NE]; omega)
      · intro again i z hi hQ hk
        subst hQ
        have := hk _ rfl
        simp only [dds] at this
        unfold X9_deeds_L35 X9_deeds_j65
        simp only
        rw [lg_108 h, hPM2.2.1, if_neg (nI_ge hi (by omega)), lr_108_29 h, lc_108 h, nl_0, rm_leftWord h hPM2 rwa_535 hDM2 hr hi (by omega), ly_cI]
        by_cases h0 : rd_lw wd (rd_s r) q i 0 = y
        · rw [if_pos h0] at this
          rw [if_pos h0, ly_bI, ly_bI, nI_1]
          exact this
        · rw [if_neg h0] at this
          rw [if_neg h0, ly_bI, ly_bI, nI_1, ← nl_0, Int32.or_zero]
          exact this
      · intro again z hQ
        subst hQ
        unfold X9_deeds_L35
        simp only
        rw [lg_108 h, hPM2.2.1, if_pos (nI_le (Nat.le_refl _) (by omega))]
  · refine ag_no (K := K) (k := 1) (b := .int 0) h hJ (by omega) ⟨_, rfl⟩ ?_ (fun c1 w1 S1 I1 K2 h1 hI => ?_)
    · have e : X8_deeds_j15 64 y 64 (c, w, S, I, K) = rX c w S I K 1 := by
        unfold X8_deeds_j15 X8_deeds_j16
        rw [lc_64 h, mu_cV h]
      unfold X8_deeds
      by_cases h1 : y < 0
      · rw [if_pos h1, e]
      · rw [if_neg h1, if_pos (Int32.not_le.mp (fun e9 => hy ⟨Int32.not_lt.mp h1, e9⟩)), e]
    · unfold X9_deeds X9_deeds_j21
      rw [lp_108 h1, rm_in, ly_cI, decide_eq_false hy, ib0, lc_108 h1, bad_11 h1, ly_cI, i10]
end SIP
