/-! what the model's rows and page answer, read alone -/
section RDM
variable {c w : Nat} {S : Nat → pmS} {I : Nat → Nat → Int32} {K : Nat → Nat → Int64} {n : Nat} {wd : Nat → Nat} {q : Nat → Nat → Nat} {r : Nat → Int32} {a : Nat}
def pg_M (I : Nat → Nat → Int32) (n : Nat) (wd : Nat → Nat) (q : Nat → Nat → Nat) : Prop := pg_W n wd q ∧ I 108 13 = nI n ∧ (∀ l, l < 6 → I 113 l = nI (wd l)) ∧ ∀ l i, l < n → i < wd l → I (122 + l) i = nI (q l i)
def dk_M (I : Nat → Nat → Int32) (a : Nat) (r : Nat → Int32) : Prop := ∀ k, k < 14 → I a k = r k
theorem dm_s (hC : dk_M I a r) (hr : dk_W n wd r) {l : Nat} (hl : l < 6) : I a l = nI (rd_s r l) := (hC l (by omega)).trans (hr.1 l hl).1
theorem rm_in (x lo hi : Int32) (m : pmM) : X9_in x lo hi m = pm_oI (ly_b (decide (lo ≤ x ∧ x ≤ hi))) m := by
  unfold X9_in X9_in_j14 X9_in_j15
  by_cases h1 : x < lo
  · have h2 : ¬ lo ≤ x := Int32.not_le.mpr h1
    simp [h1, h2, ly_n0, ly_b0]
  · have h2 : lo ≤ x := Int32.not_lt.mp h1
    by_cases h3 : x ≤ hi
    · have h4 : ¬ hi < x := Int32.not_lt.mpr h3
      simp [h1, h2, h3, h4, ly_n1, ly_b1]
    · have h4 : hi < x := Int32.not_le.mp h3
      simp [h1, h2, h3, h4, ly_n0, ly_b0]
theorem rm_less (x y : Int32) (m : pmM) : X9_less x y m = pm_oI (if y ≤ x then y else x) m := by
  unfold X9_less X9_less_j10
  by_cases h : y ≤ x <;> simp [h]
theorem rm_more (x y : Int32) (m : pmM) : X9_more x y m = pm_oI (if x ≤ y then y else x) m := by
  unfold X9_more X9_more_j10
  by_cases h : x ≤ y <;> simp [h]
def rm_onX (b : Int32) : Int32 := ly_fl (fun k a => a + ((b >>> ((nI k) &&& 31)) &&& 1)) 0 8 0
theorem rm_onF : ∀ b, b < 256 → rm_onX (nI b) = nI (rd_pc b) := by decide +kernel
theorem rm_onesX (b : Int32) (m : pmM) : X9_ones b m = pm_oI (rm_onX b) m := by
  unfold X9_ones
  refine ly_for (fun i (a : Int32) => ((a, nI i, m) : Int32 × Int32 × pmM)) 8 (fun k a => a + ((b >>> ((nI k) &&& 31)) &&& 1)) (fun a => pm_oI a m) (fun _ _ => True) ?_ ?_ pm_N 8 0 0 trivial rfl (by rw [pm_NE]; omega)
  · intro again i a hi _
    refine ⟨?_, trivial⟩
    unfold X9_ones_L4
    have h8 : ¬ ((8 : Int32) ≤ nI i) := nI_ge (b := 8) hi (by decide)
    simp only [h8, if_false, ly_bI, nI_1]
  · intro again a _
    unfold X9_ones_L4
    exact if_pos (nI_le (a := 8) (b := 8) (by decide) (by decide))
theorem rm_ones {b : Nat} {m : pmM} (hb : b < 256) : X9_ones (nI b) m = pm_oI (nI (rd_pc b)) m := by rw [rm_onesX, rm_onF b hb]
theorem rm_leftIn {l : Nat} (h : ly c S) (hP : pg_M I n wd q) (hd : rwa a) (hC : dk_M I a r) (hr : dk_W n wd r) (hl : l < 6) : X9_leftIn 108 a (nI l) (c, w, S, I, K) = pm_oI (nI (rd_lf wd (rd_s r) l)) (c, w, S, I, K) := by
  have hW := hP.1
  have hn6 := hW.1
  have h2 := dm_s hC hr hl
  have h3 := hP.2.2.1 l hl
  have hb := rd_sb hW hr hl
  have hp := rd_pcl hW hr hl
  unfold X9_leftIn rd_lf
  simp (disch := first | assumption | omega) only [ly_cI, ly_cIx, ly_cL, ly_cLx, ly_cV, ly_cVx, ly_bI, ly_bL, ly_n0n, ly_n1n, ly_nb, ly_bzn, ly_bon, nI_add, pk_mul, nI_leI, nI_ltI, nI_eq, if_pos, if_neg, ly_uE, ly_b1n, ly_b0n, if_true, if_false, eq_self, Bool.false_eq_true, Bool.true_eq_false, decide_true, decide_false, Nat.zero_add, nl_0, nl_1, nl_2, nl_3, nl_4, nl_5, nl_6, nl_7, nl_8, nl_9, nl_10, nl_11, nl_12, nl_13, nl_14, nl_15, nl_16, nl_17, nl_18, nl_19, nl_20, nl_21, nl_22, nl_23, nl_24, nl_25, nl_26, nl_27, nl_28, nl_29, nl_30, nl_31, nl_32, nl_40, nl_41, nl_42, nl_43, nl_44, nl_45, nl_47, nl_48, nl_57, nl_59, nl_60, nl_80, nl_91, nl_93, nl_96, nl_97, nl_99, nl_100, nl_122, nl_150, nl_160, nl_200, nl_208, nl_224, nl_238, nl_239, nl_255, nl_600, nl_999, nl_1000, nl_9999, nl_100000, nl_12345, nl_1103515245, nl_32767, lr_108_9, lr_108_10, lr_108_14, lr_108_15, lr_108_16, lr_108_17, lr_108_18, lr_108_21, lr_108_22, lr_108_23, lr_108_24, lr_108_25, lr_108_26, lr_108_27, lr_108_29, lr_108_30, lr_108_31, lr_108_32, lr_108_40, lr_108_41, lr_108_42, lr_108_43, lr_108_44, lr_108_45, lr_108_46, lr_108_47, lr_108_48, lr_108_49, lr_108_50, lr_108_51, lr_108_52, lr_108_53, lr_114, ll_114, lr_121, ll_121, lr_128, ll_128, lr_289, ll_289, lr_454, ll_454, lr_537, ll_537, lr_554, ll_554, lr_566, ll_566, lr_582, ll_582, lg_108, lp_108, lc_108, ld_109, ls_109, ll_109, ld_110, ls_110, ll_110, ld_111, ls_111, ll_111, ld_112, ls_112, ll_112, ld_113, ls_113, ll_113, ld_115, ls_115, ll_115, ld_122, ls_122, ll_122, ld_129, ls_129, ll_129, ld_290, ls_290, ll_290, ld_450, ls_450, ll_450, ld_451, ls_451, ll_451, ld_452, ls_452, ll_452, ld_453, ls_453, ll_453, ld_455, ls_455, ll_455, ld_535, ls_535, ll_535, ld_536, ls_536, ll_536, ld_538, ls_538, ll_538, ld_555, ls_555, ll_555, ld_558, ls_558, ll_558, ld_559, ls_559, ll_559, ld_560, ls_560, ll_560, ld_561, ls_561, ll_561, ld_562, ls_562, ll_562, ld_563, ls_563, ld_564, ls_564, ld_565, ls_565, ld_567, ls_567, ld_580, ls_580, ll_580, ld_581, ls_581, ll_581, ld_583, ls_583, ll_583, ld_592, ls_592, ld_593, ls_593, ll_593, ld_594, ls_594, lw_l, lw_s, h2, h3, rm_ones hb, pk_sub, Nat.zero_add]
theorem rm_leftAll (h : ly c S) (hP : pg_M I n wd q) (hd : rwa a) (hC : dk_M I a r) (hr : dk_W n wd r) : X9_leftAll 108 a (c, w, S, I, K) = pm_oI (nI (rd_la n wd (rd_s r))) (c, w, S, I, K) := by
  have hW := hP.1
  have hn6 := hW.1
  have h1 := hP.2.1
  unfold X9_leftAll
  refine ly_loop (fun i (a : Nat) => ((nI a, nI i, (c, w, S, I, K)) : Int32 × Int32 × pmM)) n (fun i a => a = rd_sum (rd_lf wd (rd_s r)) i) (fun R => R = pm_oI (nI (rd_la n wd (rd_s r))) (c, w, S, I, K)) ?_ ?_ pm_N 0 0 rfl (by omega) (by rw [pm_NE]; omega)
  · intro again i a hi hQ hk
    subst hQ
    have := hk _ rfl
    unfold X9_leftAll_L4
    simp (disch := first | assumption | omega) only [ly_cI, ly_cIx, ly_cL, ly_cLx, ly_cV, ly_cVx, ly_bI, ly_bL, ly_n0n, ly_n1n, ly_nb, ly_bzn, ly_bon, nI_add, pk_mul, nI_leI, nI_ltI, nI_eq, if_pos, if_neg, ly_uE, ly_b1n, ly_b0n, if_true, if_false, eq_self, Bool.false_eq_true, Bool.true_eq_false, decide_true, decide_false, Nat.zero_add, nl_0, nl_1, nl_2, nl_3, nl_4, nl_5, nl_6, nl_7, nl_8, nl_9, nl_10, nl_11, nl_12, nl_13, nl_14, nl_15, nl_16, nl_17, nl_18, nl_19, nl_20, nl_21, nl_22, nl_23, nl_24, nl_25, nl_26, nl_27, nl_28, nl_29, nl_30, nl_31, nl_32, nl_40, nl_41, nl_42, nl_43, nl_44, nl_45, nl_47, nl_48, nl_57, nl_59, nl_60, nl_80, nl_91, nl_93, nl_96, nl_97, nl_99, nl_100, nl_122, nl_150, nl_160, nl_200, nl_208, nl_224, nl_238, nl_239, nl_255, nl_600, nl_999, nl_1000, nl_9999, nl_100000, nl_12345, nl_1103515245, nl_32767, lr_108_9, lr_108_10, lr_108_14, lr_108_15, lr_108_16, lr_108_17, lr_108_18, lr_108_21, lr_108_22, lr_108_23, lr_108_24, lr_108_25, lr_108_26, lr_108_27, lr_108_29, lr_108_30, lr_108_31, lr_108_32, lr_108_40, lr_108_41, lr_108_42, lr_108_43, lr_108_44, lr_108_45, lr_108_46, lr_108_47, lr_108_48, lr_108_49, lr_108_50, lr_108_51, lr_108_52, lr_108_53, lr_114, ll_114, lr_121, ll_121, lr_128, ll_128, lr_289, ll_289, lr_454, ll_454, lr_537, ll_537, lr_554, ll_554, lr_566, ll_566, lr_582, ll_582, lg_108, lp_108, lc_108, ld_109, ls_109, ll_109, ld_110, ls_110, ll_110, ld_111, ls_111, ll_111, ld_112, ls_112, ll_112, ld_113, ls_113, ll_113, ld_115, ls_115, ll_115, ld_122, ls_122, ll_122, ld_129, ls_129, ll_129, ld_290, ls_290, ll_290, ld_450, ls_450, ll_450, ld_451, ls_451, ll_451, ld_452, ls_452, ll_452, ld_453, ls_453, ll_453, ld_455, ls_455, ll_455, ld_535, ls_535, ll_535, ld_536, ls_536, ll_536, ld_538, ls_538, ll_538, ld_555, ls_555, ll_555, ld_558, ls_558, ll_558, ld_559, ls_559, ll_559, ld_560, ls_560, ll_560, ld_561, ls_561, ll_561, ld_562, ls_562, ll_562, ld_563, ls_563, ld_564, ls_564, ld_565, ls_565, ld_567, ls_567, ld_580, ls_580, ll_580, ld_581, ls_581, ll_581, ld_583, ls_583, ll_583, ld_592, ls_592, ld_593, ls_593, ll_593, ld_594, ls_594, lw_l, lw_s, h1, rm_leftIn h hP hd hC hr (show i < 6 by omega)]
    exact this
  · intro again a hQ
    subst hQ
    unfold X9_leftAll_L4
    simp (disch := first | assumption | omega) only [ly_cI, ly_cIx, ly_cL, ly_cLx, ly_cV, ly_cVx, ly_bI, ly_bL, ly_n0n, ly_n1n, ly_nb, ly_bzn, ly_bon, nI_add, pk_mul, nI_leI, nI_ltI, nI_eq, if_pos, if_neg, ly_uE, ly_b1n, ly_b0n, if_true, if_false, eq_self, Bool.false_eq_true, Bool.true_eq_false, decide_true, decide_false, Nat.zero_add, nl_0, nl_1, nl_2, nl_3, nl_4, nl_5, nl_6, nl_7, nl_8, nl_9, nl_10, nl_11, nl_12, nl_13, nl_14, nl_15, nl_16, nl_17, nl_18, nl_19, nl_20, nl_21, nl_22, nl_23, nl_24, nl_25, nl_26, nl_27, nl_28, nl_29, nl_30, nl_31, nl_32, nl_40, nl_41, nl_42, nl_43, nl_44, nl_45, nl_47, nl_48, nl_57, nl_59, nl_60, nl_80, nl_91, nl_93, nl_96, nl_97, nl_99, nl_100, nl_122, nl_150, nl_160, nl_200, nl_208, nl_224, nl_238, nl_239, nl_255, nl_600, nl_999, nl_1000, nl_9999, nl_100000, nl_12345, nl_1103515245, nl_32767, lr_108_9, lr_108_10, lr_108_14, lr_108_15, lr_108_16, lr_108_17, lr_108_18, lr_108_21, lr_108_22, lr_108_23, lr_108_24, lr_108_25, lr_108_26, lr_108_27, lr_108_29, lr_108_30, lr_108_31, lr_108_32, lr_108_40, lr_108_41, lr_108_42, lr_108_43, lr_108_44, lr_108_45, lr_108_46, lr_108_47, lr_108_48, lr_108_49, lr_108_50, lr_108_51, lr_108_52, lr_108_53, lr_114, ll_114, lr_121, ll_121, lr_128, ll_128, lr_289, ll_289, lr_454, ll_454, lr_537, ll_537, lr_554, ll_554, lr_566, ll_566, lr_582, ll_582, lg_108, lp_108, lc_108, ld_109, ls_109, ll_109, ld_110, ls_110, ll_110, ld_111, ls_111, ll_111, ld_112, ls_112, ll_112, ld_113, ls_113, ll_113, ld_115, ls_115, ll_115, ld_122, ls_122, ll_122, ld_129, ls_129, ll_129, ld_290, ls_290, ll_290, ld_450, ls_450, ll_450, ld_451, ls_451, ll_451, ld_452, ls_452, ll_452, ld_453, ls_453, ll_453, ld_455, ls_455, ll_455, ld_535, ls_535, ll_535, ld_536, ls_536, ll_536, ld_538, ls_538, ll_538, ld_555, ls_555, ll_555, ld_558, ls_558, ll_558, ld_559, ls_559, ll_559, ld_560, ls_560, ll_560, ld_561, ls_561, ll_561, ld_562, ls_562, ll_562, ld_563, ls_563, ld_564, ls_564, ld_565, ls_565, ld_567, ls_567, ld_580, ls_580, ll_580, ld_581, ls_581, ll_581, ld_583, ls_583, ll_583, ld_592, ls_592, ld_593, ls_593, ll_593, ld_594, ls_594, lw_l, lw_s, h1]
    rfl
/-- the k-th of the places that are left, from i on -/
def rd_pf (b k : Nat) : Nat → Nat → Nat → Option Nat
  | 0, _, _ => none
  | m + 1, i, t => if b.testBit i then rd_pf b k m (i + 1) t else if t = k then some i else rd_pf b k m (i + 1) (t + 1)
def rd_lw (wd s : Nat → Nat) (q : Nat → Nat → Nat) (l k : Nat) : Int32 := match rd_pf (s l) k (wd l) 0 0 with
  | some i => nI (q l i)
  | none => -1
theorem rm_has {b i : Nat} {m : pmM} (hb : b < 256) (hi : i < 16) : X9_has (nI b) (nI i) m = pm_oI (ly_b (b.testBit i)) m := by
  unfold X9_has X9_has_j14
  have h5 := rd_bit b hb i hi
  cases hh : b.testBit i
  · rw [hh] at h5
    simp (disch := first | assumption | omega) only [ly_cI, ly_cIx, ly_cL, ly_cLx, ly_cV, ly_cVx, ly_bI, ly_bL, ly_n0n, ly_n1n, ly_nb, ly_bzn, ly_bon, nI_add, pk_mul, nI_leI, nI_ltI, nI_eq, if_pos, if_neg, ly_uE, ly_b1n, ly_b0n, if_true, if_false, eq_self, Bool.false_eq_true, Bool.true_eq_false, decide_true, decide_false, Nat.zero_add, nl_0, nl_1, nl_2, nl_3, nl_4, nl_5, nl_6, nl_7, nl_8, nl_9, nl_10, nl_11, nl_12, nl_13, nl_14, nl_15, nl_16, nl_17, nl_18, nl_19, nl_20, nl_21, nl_22, nl_23, nl_24, nl_25, nl_26, nl_27, nl_28, nl_29, nl_30, nl_31, nl_32, nl_40, nl_41, nl_42, nl_43, nl_44, nl_45, nl_47, nl_48, nl_57, nl_59, nl_60, nl_80, nl_91, nl_93, nl_96, nl_97, nl_99, nl_100, nl_122, nl_150, nl_160, nl_200, nl_208, nl_224, nl_238, nl_239, nl_255, nl_600, nl_999, nl_1000, nl_9999, nl_100000, nl_12345, nl_1103515245, nl_32767, h5, Bool.false_eq_true]
  · rw [hh] at h5
    simp (disch := first | assumption | omega) only [ly_cI, ly_cIx, ly_cL, ly_cLx, ly_cV, ly_cVx, ly_bI, ly_bL, ly_n0n, ly_n1n, ly_nb, ly_bzn, ly_bon, nI_add, pk_mul, nI_leI, nI_ltI, nI_eq, if_pos, if_neg, ly_uE, ly_b1n, ly_b0n, if_true, if_false, eq_self, Bool.false_eq_true, Bool.true_eq_false, decide_true, decide_false, Nat.zero_add, nl_0, nl_1, nl_2, nl_3, nl_4, nl_5, nl_6, nl_7, nl_8, nl_9, nl_10, nl_11, nl_12, nl_13, nl_14, nl_15, nl_16, nl_17, nl_18, nl_19, nl_20, nl_21, nl_22, nl_23, nl_24, nl_25, nl_26, nl_27, nl_28, nl_29, nl_30, nl_31, nl_32, nl_40, nl_41, nl_42, nl_43, nl_44, nl_45, nl_47, nl_48, nl_57, nl_59, nl_60, nl_80, nl_91, nl_93, nl_96, nl_97, nl_99, nl_100, nl_122, nl_150, nl_160, nl_200, nl_208, nl_224, nl_238, nl_239, nl_255, nl_600, nl_999, nl_1000, nl_9999, nl_100000, nl_12345, nl_1103515245, nl_32767, h5, eq_self]
theorem rm_leftWord {l k : Nat} (h : ly c S) (hP : pg_M I n wd q) (hd : rwa a) (hC : dk_M I a r) (hr : dk_W n wd r) (hl : l < n) (hk : k < 2 ^ 31) : X9_leftWord 108 a (nI l) (nI k) (c, w, S, I, K) = pm_oI (rd_lw wd (rd_s r) q l k) (c, w, S, I, K) := by
  have hW := hP.1
  have hn6 := hW.1
  have hl6 : l < 6 := by omega
  have h3 := hP.2.2.1 l hl6
  have h2 := dm_s hC hr hl6
  have hb := rd_sb hW hr hl6
  have hw8 := pg_wd hW l
  unfold X9_leftWord
  refine ly_loop (fun i (t : Nat) => ((nI t, nI i, (c, w, S, I, K)) : Int32 × Int32 × pmM)) (wd l) (fun i t => t ≤ i ∧ rd_pf (rd_s r l) k (wd l - i) i t = rd_pf (rd_s r l) k (wd l) 0 0) (fun R => R = pm_oI (rd_lw wd (rd_s r) q l k) (c, w, S, I, K)) ?_ ?_ pm_N 0 0 ⟨Nat.le_refl _, rfl⟩ (by omega) (by rw [pm_NE]; omega)
  · intro again i t hi hQ hk2
    obtain ⟨hti, hQ⟩ := hQ
    rw [show wd l - i = (wd l - (i + 1)) + 1 by omega] at hQ
    simp only [rd_pf] at hQ
    unfold X9_leftWord_L6 X9_leftWord_j52
    cases hh : (rd_s r l).testBit i
    · rw [hh] at hQ
      simp only [Bool.false_eq_true, if_false] at hQ
      by_cases htk : t = k
      · subst htk
        rw [if_pos rfl] at hQ
        have h4 := hP.2.2.2 l i hl hi
        simp (disch := first | assumption | omega) only [ly_cI, ly_cIx, ly_cL, ly_cLx, ly_cV, ly_cVx, ly_bI, ly_bL, ly_n0n, ly_n1n, ly_nb, ly_bzn, ly_bon, nI_add, pk_mul, nI_leI, nI_ltI, nI_eq, if_pos, if_neg, ly_uE, ly_b1n, ly_b0n, if_true, if_false, eq_self, Bool.false_eq_true, Bool.true_eq_false, decide_true, decide_false, Nat.zero_add, nl_0, nl_1, nl_2, nl_3, nl_4, nl_5, nl_6, nl_7, nl_8, nl_9, nl_10, nl_11, nl_12, nl_13, nl_14, nl_15, nl_16, nl_17, nl_18, nl_19, nl_20, nl_21, nl_22, nl_23, nl_24, nl_25, nl_26, nl_27, nl_28, nl_29, nl_30, nl_31, nl_32, nl_40, nl_41, nl_42, nl_43, nl_44, nl_45, nl_47, nl_48, nl_57, nl_59, nl_60, nl_80, nl_91, nl_93, nl_96, nl_97, nl_99, nl_100, nl_122, nl_150, nl_160, nl_200, nl_208, nl_224, nl_238, nl_239, nl_255, nl_600, nl_999, nl_1000, nl_9999, nl_100000, nl_12345, nl_1103515245, nl_32767, lr_108_9, lr_108_10, lr_108_14, lr_108_15, lr_108_16, lr_108_17, lr_108_18, lr_108_21, lr_108_22, lr_108_23, lr_108_24, lr_108_25, lr_108_26, lr_108_27, lr_108_29, lr_108_30, lr_108_31, lr_108_32, lr_108_40, lr_108_41, lr_108_42, lr_108_43, lr_108_44, lr_108_45, lr_108_46, lr_108_47, lr_108_48, lr_108_49, lr_108_50, lr_108_51, lr_108_52, lr_108_53, lr_114, ll_114, lr_121, ll_121, lr_128, ll_128, lr_289, ll_289, lr_454, ll_454, lr_537, ll_537, lr_554, ll_554, lr_566, ll_566, lr_582, ll_582, lg_108, lp_108, lc_108, ld_109, ls_109, ll_109, ld_110, ls_110, ll_110, ld_111, ls_111, ll_111, ld_112, ls_112, ll_112, ld_113, ls_113, ll_113, ld_115, ls_115, ll_115, ld_122, ls_122, ll_122, ld_129, ls_129, ll_129, ld_290, ls_290, ll_290, ld_450, ls_450, ll_450, ld_451, ls_451, ll_451, ld_452, ls_452, ll_452, ld_453, ls_453, ll_453, ld_455, ls_455, ll_455, ld_535, ls_535, ll_535, ld_536, ls_536, ll_536, ld_538, ls_538, ll_538, ld_555, ls_555, ll_555, ld_558, ls_558, ll_558, ld_559, ls_559, ll_559, ld_560, ls_560, ll_560, ld_561, ls_561, ll_561, ld_562, ls_562, ll_562, ld_563, ls_563, ld_564, ls_564, ld_565, ls_565, ld_567, ls_567, ld_580, ls_580, ll_580, ld_581, ls_581, ll_581, ld_583, ls_583, ll_583, ld_592, ls_592, ld_593, ls_593, ll_593, ld_594, ls_594, lw_l, lw_s, h3, h2, rm_has hb (show i < 16 by omega), hh, Nat.zero_add, eq_self, h4]
        unfold rd_lw
        rw [← hQ]
      · rw [if_neg htk] at hQ
        have := hk2 (t + 1) ⟨by omega, hQ⟩
        simp (disch := first | assumption | omega) only [ly_cI, ly_cIx, ly_cL, ly_cLx, ly_cV, ly_cVx, ly_bI, ly_bL, ly_n0n, ly_n1n, ly_nb, ly_bzn, ly_bon, nI_add, pk_mul, nI_leI, nI_ltI, nI_eq, if_pos, if_neg, ly_uE, ly_b1n, ly_b0n, if_true, if_false, eq_self, Bool.false_eq_true, Bool.true_eq_false, decide_true, decide_false, Nat.zero_add, nl_0, nl_1, nl_2, nl_3, nl_4, nl_5, nl_6, nl_7, nl_8, nl_9, nl_10, nl_11, nl_12, nl_13, nl_14, nl_15, nl_16, nl_17, nl_18, nl_19, nl_20, nl_21, nl_22, nl_23, nl_24, nl_25, nl_26, nl_27, nl_28, nl_29, nl_30, nl_31, nl_32, nl_40, nl_41, nl_42, nl_43, nl_44, nl_45, nl_47, nl_48, nl_57, nl_59, nl_60, nl_80, nl_91, nl_93, nl_96, nl_97, nl_99, nl_100, nl_122, nl_150, nl_160, nl_200, nl_208, nl_224, nl_238, nl_239, nl_255, nl_600, nl_999, nl_1000, nl_9999, nl_100000, nl_12345, nl_1103515245, nl_32767, lr_108_9, lr_108_10, lr_108_14, lr_108_15, lr_108_16, lr_108_17, lr_108_18, lr_108_21, lr_108_22, lr_108_23, lr_108_24, lr_108_25, lr_108_26, lr_108_27, lr_108_29, lr_108_30, lr_108_31, lr_108_32, lr_108_40, lr_108_41, lr_108_42, lr_108_43, lr_108_44, lr_108_45, lr_108_46, lr_108_47, lr_108_48, lr_108_49, lr_108_50, lr_108_51, lr_108_52, lr_108_53, lr_114, ll_114, lr_121, ll_121, lr_128, ll_128, lr_289, ll_289, lr_454, ll_454, lr_537, ll_537, lr_554, ll_554, lr_566, ll_566, lr_582, ll_582, lg_108, lp_108, lc_108, ld_109, ls_109, ll_109, ld_110, ls_110, ll_110, ld_111, ls_111, ll_111, ld_112, ls_112, ll_112, ld_113, ls_113, ll_113, ld_115, ls_115, ll_115, ld_122, ls_122, ll_122, ld_129, ls_129, ll_129, ld_290, ls_290, ll_290, ld_450, ls_450, ll_450, ld_451, ls_451, ll_451, ld_452, ls_452, ll_452, ld_453, ls_453, ll_453, ld_455, ls_455, ll_455, ld_535, ls_535, ll_535, ld_536, ls_536, ll_536, ld_538, ls_538, ll_538, ld_555, ls_555, ll_555, ld_558, ls_558, ll_558, ld_559, ls_559, ll_559, ld_560, ls_560, ll_560, ld_561, ls_561, ll_561, ld_562, ls_562, ll_562, ld_563, ls_563, ld_564, ls_564, ld_565, ls_565, ld_567, ls_567, ld_580, ls_580, ll_580, ld_581, ls_581, ll_581, ld_583, ls_583, ll_583, ld_592, ls_592, ld_593, ls_593, ll_593, ld_594, ls_594, lw_l, lw_s, h3, h2, rm_has hb (show i < 16 by omega), hh, Nat.zero_add, eq_self]
        exact this
    · rw [hh] at hQ
      simp only [if_true] at hQ
      have := hk2 t ⟨by omega, hQ⟩
      simp (disch := first | assumption | omega) only [ly_cI, ly_cIx, ly_cL, ly_cLx, ly_cV, ly_cVx, ly_bI, ly_bL, ly_n0n, ly_n1n, ly_nb, ly_bzn, ly_bon, nI_add, pk_mul, nI_leI, nI_ltI, nI_eq, if_pos, if_neg, ly_uE, ly_b1n, ly_b0n, if_true, if_false, eq_self, Bool.false_eq_true, Bool.true_eq_false, decide_true, decide_false, Nat.zero_add, nl_0, nl_1, nl_2, nl_3, nl_4, nl_5, nl_6, nl_7, nl_8, nl_9, nl_10, nl_11, nl_12, nl_13, nl_14, nl_15, nl_16, nl_17, nl_18, nl_19, nl_20, nl_21, nl_22, nl_23, nl_24, nl_25, nl_26, nl_27, nl_28, nl_29, nl_30, nl_31, nl_32, nl_40, nl_41, nl_42, nl_43, nl_44, nl_45, nl_47, nl_48, nl_57, nl_59, nl_60, nl_80, nl_91, nl_93, nl_96, nl_97, nl_99, nl_100, nl_122, nl_150, nl_160, nl_200, nl_208, nl_224, nl_238, nl_239, nl_255, nl_600, nl_999, nl_1000, nl_9999, nl_100000, nl_12345, nl_1103515245, nl_32767, lr_108_9, lr_108_10, lr_108_14, lr_108_15, lr_108_16, lr_108_17, lr_108_18, lr_108_21, lr_108_22, lr_108_23, lr_108_24, lr_108_25, lr_108_26, lr_108_27, lr_108_29, lr_108_30, lr_108_31, lr_108_32, lr_108_40, lr_108_41, lr_108_42, lr_108_43, lr_108_44, lr_108_45, lr_108_46, lr_108_47, lr_108_48, lr_108_49, lr_108_50, lr_108_51, lr_108_52, lr_108_53, lr_114, ll_114, lr_121, ll_121, lr_128, ll_128, lr_289, ll_289, lr_454, ll_454, lr_537, ll_537, lr_554, ll_554, lr_566, ll_566, lr_582, ll_582, lg_108, lp_108, lc_108, ld_109, ls_109, ll_109, ld_110, ls_110, ll_110, ld_111, ls_111, ll_111, ld_112, ls_112, ll_112, ld_113, ls_113, ll_113, ld_115, ls_115, ll_115, ld_122, ls_122, ll_122, ld_129, ls_129, ll_129, ld_290, ls_290, ll_290, ld_450, ls_450, ll_450, ld_451, ls_451, ll_451, ld_452, ls_452, ll_452, ld_453, ls_453, ll_453, ld_455, ls_455, ll_455, ld_535, ls_535, ll_535, ld_536, ls_536, ll_536, ld_538, ls_538, ll_538, ld_555, ls_555, ll_555, ld_558, ls_558, ll_558, ld_559, ls_559, ll_559, ld_560, ls_560, ll_560, ld_561, ls_561, ll_561, ld_562, ls_562, ll_562, ld_563, ls_563, ld_564, ls_564, ld_565, ls_565, ld_567, ls_567, ld_580, ls_580, ll_580, ld_581, ls_581, ll_581, ld_583, ls_583, ll_583, ld_592, ls_592, ld_593, ls_593, ll_593, ld_594, ls_594, lw_l, lw_s, h3, h2, rm_has hb (show i < 16 by omega), hh, Nat.zero_add, Bool.true_eq_false]
      exact this
  · intro again t hQ
    obtain ⟨-, hQ⟩ := hQ
    rw [Nat.sub_self] at hQ
    unfold X9_leftWord_L6
    simp (disch := first | assumption | omega) only [ly_cI, ly_cIx, ly_cL, ly_cLx, ly_cV, ly_cVx, ly_bI, ly_bL, ly_n0n, ly_n1n, ly_nb, ly_bzn, ly_bon, nI_add, pk_mul, nI_leI, nI_ltI, nI_eq, if_pos, if_neg, ly_uE, ly_b1n, ly_b0n, if_true, if_false, eq_self, Bool.false_eq_true, Bool.true_eq_false, decide_true, decide_false, Nat.zero_add, nl_0, nl_1, nl_2, nl_3, nl_4, nl_5, nl_6, nl_7, nl_8, nl_9, nl_10, nl_11, nl_12, nl_13, nl_14, nl_15, nl_16, nl_17, nl_18, nl_19, nl_20, nl_21, nl_22, nl_23, nl_24, nl_25, nl_26, nl_27, nl_28, nl_29, nl_30, nl_31, nl_32, nl_40, nl_41, nl_42, nl_43, nl_44, nl_45, nl_47, nl_48, nl_57, nl_59, nl_60, nl_80, nl_91, nl_93, nl_96, nl_97, nl_99, nl_100, nl_122, nl_150, nl_160, nl_200, nl_208, nl_224, nl_238, nl_239, nl_255, nl_600, nl_999, nl_1000, nl_9999, nl_100000, nl_12345, nl_1103515245, nl_32767, lr_108_9, lr_108_10, lr_108_14, lr_108_15, lr_108_16, lr_108_17, lr_108_18, lr_108_21, lr_108_22, lr_108_23, lr_108_24, lr_108_25, lr_108_26, lr_108_27, lr_108_29, lr_108_30, lr_108_31, lr_108_32, lr_108_40, lr_108_41, lr_108_42, lr_108_43, lr_108_44, lr_108_45, lr_108_46, lr_108_47, lr_108_48, lr_108_49, lr_108_50, lr_108_51, lr_108_52, lr_108_53, lr_114, ll_114, lr_121, ll_121, lr_128, ll_128, lr_289, ll_289, lr_454, ll_454, lr_537, ll_537, lr_554, ll_554, lr_566, ll_566, lr_582, ll_582, lg_108, lp_108, lc_108, ld_109, ls_109, ll_109, ld_110, ls_110, ll_110, ld_111, ls_111, ll_111, ld_112, ls_112, ll_112, ld_113, ls_113, ll_113, ld_115, ls_115, ll_115, ld_122, ls_122, ll_122, ld_129, ls_129, ll_129, ld_290, ls_290, ll_290, ld_450, ls_450, ll_450, ld_451, ls_451, ll_451, ld_452, ls_452, ll_452, ld_453, ls_453, ll_453, ld_455, ls_455, ll_455, ld_535, ls_535, ll_535, ld_536, ls_536, ll_536, ld_538, ls_538, ll_538, ld_555, ls_555, ll_555, ld_558, ls_558, ll_558, ld_559, ls_559, ll_559, ld_560, ls_560, ll_560, ld_561, ls_561, ll_561, ld_562, ls_562, ll_562, ld_563, ls_563, ld_564, ls_564, ld_565, ls_565, ld_567, ls_567, ld_580, ls_580, ll_580, ld_581, ls_581, ll_581, ld_583, ls_583, ll_583, ld_592, ls_592, ld_593, ls_593, ll_593, ld_594, ls_594, lw_l, lw_s, h3]
    unfold rd_lw
    rw [← hQ]
    rfl
end RDM
