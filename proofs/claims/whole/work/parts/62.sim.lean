/-! small answers: line, word -/
section SIO
variable {c w : Nat} {S : Nat → pmS} {I I1 I2 J : Nat → Nat → Int32} {K K1 : Nat → Nat → Int64} {n : Nat} {wd : Nat → Nat} {q : Nat → Nat → Nat} {r : Nat → Int32} {a : Nat} {se : Nat → Nat} {W G d : Nat}
theorem hl_no {y : Int32} (h : ly c S) (hn : I 67 3 = nI n) (hy : y < 0 ∨ nI n ≤ y) : X2_hasLine 67 y (c, w, S, I, K) = pm_oI 0 (c, w, S, I, K) := by
  unfold X2_hasLine X2_hasLine_j16 X2_hasLine_j17
  by_cases h1 : y < 0
  · rw [if_pos h1]; rfl
  · have h2 : nI n ≤ y := hy.resolve_left h1
    rw [if_neg h1, lg_67 h, hn, if_pos h2]; rfl
theorem ml_ok {l : Nat} (h : ly c S) (hP : pg_C I n wd q) (hl : l < n) : X8_mustBeLine 64 (nI l) (c, w, S, I, K) = pm_oV (c, w, S, I, K) := by
  have hn6 := hP.1.1
  unfold X8_mustBeLine
  rw [lr_64_1 h, lc_67 h, rd_hasLine h hP (by omega), ly_cI, decide_eq_true hl, if_neg (by decide)]
theorem ml_no {y : Int32} (h : ly c S) (hP : pg_C I n wd q) (hy : y < 0 ∨ nI n ≤ y) : X8_mustBeLine 64 y (c, w, S, I, K) = rX c w S I K 0 := by
  unfold X8_mustBeLine
  rw [lr_64_1 h, lc_67 h, hl_no h hP.2.1 hy, ly_cI, if_pos (by first | decide | rfl), lg_64 h, lp_64 h]
  rfl
theorem hw_no {l : Nat} {y : Int32} (h : ly c S) (hP : pg_C I n wd q) (hl : l < n) (hy : y < 0 ∨ nI (wd l) ≤ y) : X2_hasWord 67 (nI l) y (c, w, S, I, K) = pm_oI 0 (c, w, S, I, K) := by
  have hn6 := hP.1.1
  unfold X2_hasWord X2_hasWord_j30 X2_hasWord_j31
  rw [if_neg (nI_pos (by omega)), lg_67 h, hP.2.1, if_neg (nI_ge hl (by omega))]
  by_cases h1 : y < 0
  · rw [if_pos h1]; rfl
  · have h2 := hy.resolve_left h1
    rw [if_neg h1, lr_67_0 h, ld_68 h (by omega), hP.2.2.1 l hl, if_pos h2]; rfl
theorem hw_nl {y z : Int32} (h : ly c S) (hP : pg_C I n wd q) (hy : y < 0 ∨ nI n ≤ y) : X2_hasWord 67 y z (c, w, S, I, K) = pm_oI 0 (c, w, S, I, K) := by
  unfold X2_hasWord X2_hasWord_j30 X2_hasWord_j31
  by_cases h1 : y < 0
  · rw [if_pos h1]; rfl
  · rw [if_neg h1, lg_67 h, hP.2.1, if_pos (hy.resolve_left h1)]; rfl
theorem mw_ok {l i : Nat} (h : ly c S) (hP : pg_C I n wd q) (hl : l < n) (hi : i < wd l) : X8_mustBeWord 64 (nI l) (nI i) (c, w, S, I, K) = pm_oV (c, w, S, I, K) := by
  have hn6 := hP.1.1
  have hw := pg_wd hP.1 l
  unfold X8_mustBeWord
  rw [lr_64_1 h, lc_67 h, rd_hasWord h hP (by omega) (by omega), ly_cI, decide_eq_true ⟨hl, hi⟩, if_neg (by decide)]
theorem mw_no {y z : Int32} (h : ly c S) (hy : X2_hasWord 67 y z (c, w, S, I, K) = pm_oI 0 (c, w, S, I, K)) : X8_mustBeWord 64 y z (c, w, S, I, K) = rX c w S I K 0 := by
  unfold X8_mustBeWord
  rw [lr_64_1 h, lc_67 h, hy, ly_cI, if_pos (by first | decide | rfl), lg_64 h, lp_64 h]
  rfl
theorem in_n {y : Int32} {m : Nat} (hm : m < 100) : (0 ≤ y ∧ y ≤ nI m - 1) ↔ ¬ (y < 0 ∨ nI m ≤ y) := by
  have e1 : (nI m - 1).toInt = (m : Int) - 1 := by
    have := pk_sub_toInt (a := m) (b := 1) (by omega) (by omega)
    exact this
  have e2 : (nI m).toInt = (m : Int) := nI_toInt (by omega)
  have e0 : (0 : Int32).toInt = 0 := by decide
  rw [Int32.le_iff_toInt_le, Int32.le_iff_toInt_le, Int32.lt_iff_toInt_lt, Int32.le_iff_toInt_le, e1, e2, e0]
  omega
theorem in_l {l m : Nat} (hl : l < m) (hm : m < 100) : ¬ (nI l < 0 ∨ nI m ≤ nI l) := by
  rintro (e | e)
  · exact nI_pos (by omega) e
  · exact nI_ge hl (by omega) e
theorem il_ok {l : Nat} (h : ly c S) (hn : I 108 13 = nI n) (hn6 : n ≤ 6) (hl : l < n) : X9_isLine 108 (nI l) (c, w, S, I, K) = pm_oI 1 (c, w, S, I, K) := by
  unfold X9_isLine
  rw [lg_108 h, hn, rm_in, ly_cI, decide_eq_true ((in_n (by omega)).mpr (in_l hl (by omega)))]
  rfl
theorem il_no {y : Int32} (h : ly c S) (hn : I 108 13 = nI n) (hn6 : n ≤ 6) (hy : y < 0 ∨ nI n ≤ y) : X9_isLine 108 y (c, w, S, I, K) = pm_oI 0 (c, w, S, I, K) := by
  unfold X9_isLine
  rw [lg_108 h, hn, rm_in, ly_cI, decide_eq_false (fun e => (in_n (by omega)).mp e hy)]
  rfl
theorem rd_first {l : Nat} (h : ly c S) (hP : pg_C I n wd q) (hd : dk d) (hC : dk_C I d r) (hr : dk_W n wd r) (hl : l < n) : X0_firstLeft d (nI l) (c, w, S, I, K) = pm_oI (rd_lw wd (rd_s r) q l 0) (c, w, S, I, K) := by
  obtain ⟨⟨hL, -, -⟩, hz, -, -, hz2, -, -, -⟩ := dd_wz hP.1 hr hl
  have hw8 := pg_wd hP.1 l
  have z0 := (rd_z3 (wd l) (by omega) _ (hr.1 l (by have := hP.1.1; omega)).2).1
  unfold X0_firstLeft X0_firstLeft_j20
  rw [lk_c h hd, rd_leftBits h hP hd hC hr hl, ly_cI]
  generalize 2 ^ wd l - 1 - rd_s r l = X at *
  unfold rd_lw
  rw [z0]
  unfold rd_ov
  by_cases h0 : X = 0
  · subst h0
    rw [if_pos (by first | decide | rfl), if_pos (by first | decide | rfl)]
  · rw [if_neg (nI_ne0 (by omega) (by omega)), lk_c h hd, rd_lowest h hP hd hl hL hz, ly_cI, if_neg h0]
    unfold rd_wz
    rw [if_neg h0]
/-- all together of what is left among the first words of a line -/
def slw (wd s : Nat → Nat) (q : Nat → Nat → Nat) (l : Nat) : Nat → Nat
  | 0 => 0
  | i + 1 => if i < wd l ∧ (s l).testBit i = false then slw wd s q l i + q l i else slw wd s q l i
theorem slw_e {s : Nat → Nat} {l : Nat} : ∀ {k : Nat}, slw wd s q l (wd l + k) = slw wd s q l (wd l)
  | 0 => rfl
  | k + 1 => by
    show slw wd s q l ((wd l + k) + 1) = _
    simp only [slw]
    rw [if_neg (by omega)]
    exact slw_e
theorem rd_lbt : ∀ k, k < 9 → ∀ b, b < 2 ^ k → ∀ i, i < 9 → (2 ^ k - 1 - b).testBit i = (decide (i < k) && !(b.testBit i)) := by decide +kernel
theorem rd_sumLeft {l : Nat} (h : ly c S) (hP : pg_C I n wd q) (hd : dk d) (hC : dk_C I d r) (hr : dk_W n wd r) (hl : l < n) : X0_sumOfLeft d (nI l) (c, w, S, I, K) = pm_oI (nI (slw wd (rd_s r) q l (wd l))) (c, w, S, I, K) := by
  obtain ⟨⟨hL, -, -⟩, -⟩ := dd_wz hP.1 hr hl
  have hw8 := pg_wd hP.1 l
  have hn6 := hP.1.1
  have hbt := rd_lbt (wd l) (by omega) _ (hr.1 l (by omega)).2
  unfold X0_sumOfLeft
  rw [lk_c h hd, rd_leftBits h hP hd hC hr hl, ly_cI]
  generalize 2 ^ wd l - 1 - rd_s r l = X at *
  rw [← slw_e (k := 8 - wd l), show wd l + (8 - wd l) = 8 by omega]
  refine ly_loop (fun i (y : Nat) => ((nI y, nI i, (c, w, S, I, K)) : Int32 × Int32 × pmM)) 8 (fun i y => y = slw wd (rd_s r) q l i) (fun R => R = pm_oI (nI (slw wd (rd_s r) q l 8)) (c, w, S, I, K)) ?_ ?_ pm_N 0 0 rfl (by omega) (by rw [pm_NE]; omega)
  · intro again i y hi hQ hk
    subst hQ
    have := hk _ rfl
    simp only [slw] at this
    have hb := rd_bit X hL i (by omega)
    rw [hbt i (by omega)] at hb
    unfold X0_sumOfLeft_L11 X0_sumOfLeft_j41
    by_cases h0 : i < wd l ∧ (rd_s r l).testBit i = false
    · rw [if_pos h0] at this
      rw [show (decide (i < wd l) && !(rd_s r l).testBit i) = true by simp [h0.1, h0.2], if_pos (by first | decide | rfl)] at hb
      have hwa := rd_wordAt (w := w) (K := K) h hP (show l < 2 ^ 31 by omega) (show i < 2 ^ 31 by omega)
      unfold rd_q at hwa
      rw [if_pos ⟨hl, h0.1⟩] at hwa
      simp (disch := first | assumption | omega) only [ly_cI, ly_cIx, ly_cL, ly_cLx, ly_cV, ly_cVx, ly_bI, ly_bL, ly_n0n, ly_n1n, ly_nb, ly_bzn, ly_bon, nI_add, pk_mul, nI_leI, nI_ltI, nI_eq, if_pos, if_neg, ly_uE, ly_b1n, ly_b0n, if_true, if_false, eq_self, Bool.false_eq_true, Bool.true_eq_false, decide_true, decide_false, Nat.zero_add, nl_0, nl_1, nl_2, nl_3, nl_4, nl_5, nl_6, nl_7, nl_8, nl_9, nl_10, nl_11, nl_12, nl_13, nl_14, nl_15, nl_16, nl_17, nl_18, nl_19, nl_20, nl_21, nl_22, nl_23, nl_24, nl_25, nl_26, nl_27, nl_28, nl_29, nl_30, nl_31, nl_32, nl_40, nl_41, nl_42, nl_43, nl_44, nl_45, nl_47, nl_48, nl_57, nl_59, nl_60, nl_80, nl_91, nl_93, nl_96, nl_97, nl_99, nl_100, nl_122, nl_150, nl_160, nl_200, nl_208, nl_224, nl_238, nl_239, nl_255, nl_600, nl_999, nl_1000, nl_9999, nl_100000, nl_12345, nl_1103515245, nl_32767, lr_64_0, lr_64_1, lr_64_2, lr_64_3, lr_64_4, lr_64_5, lr_64_6, lr_64_7, lr_64_8, lr_64_9, lr_64_10, lr_64_11, lr_65_0, lr_67_0, lr_67_1, lr_67_2, lr_71_0, lr_71_1, lr_71_2, lr_75_0, lr_75_1, lr_75_2, lr_79_0, lr_79_1, lr_79_2, lr_83_0, lr_85_0, lr_87_0, lr_87_1, lr_87_2, lr_87_3, lr_87_4, lr_93_0, lr_93_1, lr_93_2, lr_93_3, lr_96_0, lr_96_1, lr_96_2, lr_96_3, lr_99_0, lr_99_1, lr_102_0, lr_102_1, lr_102_2, lr_102_3, lr_102_4, lr_102_5, lg_64, lp_64, lc_64, lg_65, lp_65, lc_65, lg_67, lp_67, lc_67, lg_71, lp_71, lc_71, lg_75, lp_75, lc_75, lg_79, lp_79, lc_79, lg_83, lp_83, lc_83, lg_85, lp_85, lc_85, lg_87, lp_87, lc_87, lg_93, lp_93, lc_93, lg_96, lp_96, lc_96, lg_99, lp_99, lc_99, lg_102, lp_102, lc_102, ld_1, ll_1, ld_2, ll_2, ld_33, ll_33, ld_34, ll_34, ld_35, ll_35, ld_36, ll_36, ld_37, ll_37, ld_38, ll_38, ld_39, ll_39, ld_40, ll_40, ld_41, ll_41, ld_42, ll_42, ld_43, ll_43, ld_44, ll_44, ld_45, ll_45, ld_46, ll_46, ld_47, ll_47, ld_48, ll_48, ld_49, ll_49, ld_50, ll_50, ld_51, ll_51, ld_66, ls_66, ll_66, ld_68, ls_68, ll_68, ld_69, ls_69, ll_69, ld_70, ls_70, ll_70, ld_72, ls_72, ll_72, ld_73, ls_73, ll_73, ld_74, ls_74, ll_74, ld_76, ls_76, ll_76, ld_77, ls_77, ll_77, ld_78, ls_78, ll_78, ld_80, ls_80, ll_80, ld_81, ls_81, ll_81, ld_82, ls_82, ll_82, ld_84, ls_84, ll_84, ld_86, ls_86, ll_86, ld_88, ls_88, ll_88, ld_89, ls_89, ll_89, ld_90, ls_90, ll_90, ld_91, ls_91, ll_91, ld_92, ls_92, ll_92, ld_94, ls_94, ll_94, ld_95, ls_95, ll_95, ld_97, ls_97, ll_97, ld_98, ls_98, ll_98, ld_100, ls_100, ll_100, ld_101, ls_101, ll_101, ld_103, ls_103, ld_104, ls_104, ld_105, ls_105, ll_105, ld_106, ls_106, ld_107, ls_107, ll_107, lk_0, lk_1, lk_2, lk_3, lk_g, lk_p, lk_c, lk_l1, lk_l2, lk_s1, lk_s2, hb, hwa]
      exact this
    · rw [if_neg h0] at this
      rw [show (decide (i < wd l) && !(rd_s r l).testBit i) = false by
        by_cases h1 : i < wd l
        · have : (rd_s r l).testBit i = true := by
            cases e : (rd_s r l).testBit i
            · exact absurd ⟨h1, e⟩ h0
            · rfl
          simp [this]
        · simp [h1], if_neg (by decide)] at hb
      simp (disch := first | assumption | omega) only [ly_cI, ly_cIx, ly_cL, ly_cLx, ly_cV, ly_cVx, ly_bI, ly_bL, ly_n0n, ly_n1n, ly_nb, ly_bzn, ly_bon, nI_add, pk_mul, nI_leI, nI_ltI, nI_eq, if_pos, if_neg, ly_uE, ly_b1n, ly_b0n, if_true, if_false, eq_self, Bool.false_eq_true, Bool.true_eq_false, decide_true, decide_false, Nat.zero_add, nl_0, nl_1, nl_2, nl_3, nl_4, nl_5, nl_6, nl_7, nl_8, nl_9, nl_10, nl_11, nl_12, nl_13, nl_14, nl_15, nl_16, nl_17, nl_18, nl_19, nl_20, nl_21, nl_22, nl_23, nl_24, nl_25, nl_26, nl_27, nl_28, nl_29, nl_30, nl_31, nl_32, nl_40, nl_41, nl_42, nl_43, nl_44, nl_45, nl_47, nl_48, nl_57, nl_59, nl_60, nl_80, nl_91, nl_93, nl_96, nl_97, nl_99, nl_100, nl_122, nl_150, nl_160, nl_200, nl_208, nl_224, nl_238, nl_239, nl_255, nl_600, nl_999, nl_1000, nl_9999, nl_100000, nl_12345, nl_1103515245, nl_32767, lr_64_0, lr_64_1, lr_64_2, lr_64_3, lr_64_4, lr_64_5, lr_64_6, lr_64_7, lr_64_8, lr_64_9, lr_64_10, lr_64_11, lr_65_0, lr_67_0, lr_67_1, lr_67_2, lr_71_0, lr_71_1, lr_71_2, lr_75_0, lr_75_1, lr_75_2, lr_79_0, lr_79_1, lr_79_2, lr_83_0, lr_85_0, lr_87_0, lr_87_1, lr_87_2, lr_87_3, lr_87_4, lr_93_0, lr_93_1, lr_93_2, lr_93_3, lr_96_0, lr_96_1, lr_96_2, lr_96_3, lr_99_0, lr_99_1, lr_102_0, lr_102_1, lr_102_2, lr_102_3, lr_102_4, lr_102_5, lg_64, lp_64, lc_64, lg_65, lp_65, lc_65, lg_67, lp_67, lc_67, lg_71, lp_71, lc_71, lg_75, lp_75, lc_75, lg_79, lp_79, lc_79, lg_83, lp_83, lc_83, lg_85, lp_85, lc_85, lg_87, lp_87, lc_87, lg_93, lp_93, lc_93, lg_96, lp_96, lc_96, lg_99, lp_99, lc_99, lg_102, lp_102, lc_102, ld_1, ll_1, ld_2, ll_2, ld_33, ll_33, ld_34, ll_34, ld_35, ll_35, ld_36, ll_36, ld_37, ll_37, ld_38, ll_38, ld_39, ll_39, ld_40, ll_40, ld_41, ll_41, ld_42, ll_42, ld_43, ll_43, ld_44, ll_44, ld_45, ll_45, ld_46, ll_46, ld_47, ll_47, ld_48, ll_48, ld_49, ll_49, ld_50, ll_50, ld_51, ll_51, ld_66, ls_66, ll_66, ld_68, ls_68, ll_68, ld_69, ls_69, ll_69, ld_70, ls_70, ll_70, ld_72, ls_72, ll_72, ld_73, ls_73, ll_73, ld_74, ls_74, ll_74, ld_76, ls_76, ll_76, ld_77, ls_77, ll_77, ld_78, ls_78, ll_78, ld_80, ls_80, ll_80, ld_81, ls_81, ll_81, ld_82, ls_82, ll_82, ld_84, ls_84, ll_84, ld_86, ls_86, ll_86, ld_88, ls_88, ll_88, ld_89, ls_89, ll_89, ld_90, ls_90, ll_90, ld_91, ls_91, ll_91, ld_92, ls_92, ll_92, ld_94, ls_94, ll_94, ld_95, ls_95, ll_95, ld_97, ls_97, ll_97, ld_98, ls_98, ll_98, ld_100, ls_100, ll_100, ld_101, ls_101, ll_101, ld_103, ls_103, ld_104, ls_104, ld_105, ls_105, ll_105, ld_106, ls_106, ld_107, ls_107, ll_107, lk_0, lk_1, lk_2, lk_3, lk_g, lk_p, lk_c, lk_l1, lk_l2, lk_s1, lk_s2, hb]
      exact this
  · intro again y hQ
    subst hQ
    unfold X0_sumOfLeft_L11
    simp (disch := first | assumption | omega) only [ly_cI, ly_cIx, ly_cL, ly_cLx, ly_cV, ly_cVx, ly_bI, ly_bL, ly_n0n, ly_n1n, ly_nb, ly_bzn, ly_bon, nI_add, pk_mul, nI_leI, nI_ltI, nI_eq, if_pos, if_neg, ly_uE, ly_b1n, ly_b0n, if_true, if_false, eq_self, Bool.false_eq_true, Bool.true_eq_false, decide_true, decide_false, Nat.zero_add, nl_0, nl_1, nl_2, nl_3, nl_4, nl_5, nl_6, nl_7, nl_8, nl_9, nl_10, nl_11, nl_12, nl_13, nl_14, nl_15, nl_16, nl_17, nl_18, nl_19, nl_20, nl_21, nl_22, nl_23, nl_24, nl_25, nl_26, nl_27, nl_28, nl_29, nl_30, nl_31, nl_32, nl_40, nl_41, nl_42, nl_43, nl_44, nl_45, nl_47, nl_48, nl_57, nl_59, nl_60, nl_80, nl_91, nl_93, nl_96, nl_97, nl_99, nl_100, nl_122, nl_150, nl_160, nl_200, nl_208, nl_224, nl_238, nl_239, nl_255, nl_600, nl_999, nl_1000, nl_9999, nl_100000, nl_12345, nl_1103515245, nl_32767, lr_64_0, lr_64_1, lr_64_2, lr_64_3, lr_64_4, lr_64_5, lr_64_6, lr_64_7, lr_64_8, lr_64_9, lr_64_10, lr_64_11, lr_65_0, lr_67_0, lr_67_1, lr_67_2, lr_71_0, lr_71_1, lr_71_2, lr_75_0, lr_75_1, lr_75_2, lr_79_0, lr_79_1, lr_79_2, lr_83_0, lr_85_0, lr_87_0, lr_87_1, lr_87_2, lr_87_3, lr_87_4, lr_93_0, lr_93_1, lr_93_2, lr_93_3, lr_96_0, lr_96_1, lr_96_2, lr_96_3, lr_99_0, lr_99_1, lr_102_0, lr_102_1, lr_102_2, lr_102_3, lr_102_4, lr_102_5, lg_64, lp_64, lc_64, lg_65, lp_65, lc_65, lg_67, lp_67, lc_67, lg_71, lp_71, lc_71, lg_75, lp_75, lc_75, lg_79, lp_79, lc_79, lg_83, lp_83, lc_83, lg_85, lp_85, lc_85, lg_87, lp_87, lc_87, lg_93, lp_93, lc_93, lg_96, lp_96, lc_96, lg_99, lp_99, lc_99, lg_102, lp_102, lc_102, ld_1, ll_1, ld_2, ll_2, ld_33, ll_33, ld_34, ll_34, ld_35, ll_35, ld_36, ll_36, ld_37, ll_37, ld_38, ll_38, ld_39, ll_39, ld_40, ll_40, ld_41, ll_41, ld_42, ll_42, ld_43, ll_43, ld_44, ll_44, ld_45, ll_45, ld_46, ll_46, ld_47, ll_47, ld_48, ll_48, ld_49, ll_49, ld_50, ll_50, ld_51, ll_51, ld_66, ls_66, ll_66, ld_68, ls_68, ll_68, ld_69, ls_69, ll_69, ld_70, ls_70, ll_70, ld_72, ls_72, ll_72, ld_73, ls_73, ll_73, ld_74, ls_74, ll_74, ld_76, ls_76, ll_76, ld_77, ls_77, ll_77, ld_78, ls_78, ll_78, ld_80, ls_80, ll_80, ld_81, ls_81, ll_81, ld_82, ls_82, ll_82, ld_84, ls_84, ll_84, ld_86, ls_86, ll_86, ld_88, ls_88, ll_88, ld_89, ls_89, ll_89, ld_90, ls_90, ll_90, ld_91, ls_91, ll_91, ld_92, ls_92, ll_92, ld_94, ls_94, ll_94, ld_95, ls_95, ll_95, ld_97, ls_97, ll_97, ld_98, ls_98, ll_98, ld_100, ls_100, ll_100, ld_101, ls_101, ll_101, ld_103, ls_103, ld_104, ls_104, ld_105, ls_105, ll_105, ld_106, ls_106, ld_107, ls_107, ll_107, lk_0, lk_1, lk_2, lk_3, lk_g, lk_p, lk_c, lk_l1, lk_l2, lk_s1, lk_s2]
/-- what is told of a line -/
def lv (wd : Nat → Nat) (r : Nat → Int32) (q : Nat → Nat → Nat) (l k : Nat) : Int32 :=
  if k = 0 then nI (wd l) else if k = 1 then nI (rd_lf wd (rd_s r) l) else if k = 2 then nI (rd_s r l) else if k = 3 then rd_lw wd (rd_s r) q l 0 else nI (slw wd (rd_s r) q l (wd l))
theorem ca_line (x y : Int32) (h : ly c S) (hJ : JJ I n wd q r a se W G) : ag isI (I 0) c w S (fun k => 1 + k) (X8_line 64 x y (c, w, S, I, K)) (X9_line 108 x y) := by
  obtain ⟨hPC, hPM, hDC, hDM, hr, -⟩ := id hJ
  have hn6 := hPC.1.1
  rcases pk_ix x (n := n) (by omega) with hx | hx | ⟨l, hl, rfl⟩
  case inr.inr =>
    have hw8 := pg_wd hPC.1 l
    by_cases hy : 0 ≤ y ∧ y ≤ 4
    · obtain ⟨k, hk, rfl⟩ := nI_of2 (n := 4) rfl (nI_lt0 hy.1) hy.2
      have hkk : k = 0 ∨ k = 1 ∨ k = 2 ∨ k = 3 ∨ k = 4 := by omega
      refine ag_ro (v := .int (lv wd r q l k)) (I1 := I) (K1 := K) h hJ ⟨_, rfl⟩ ?_ same_r (fun hJ1 K2 => ⟨ly_u I 108 0 0, K2, ?_, z0', s0, rfl⟩)
      · have e1 := hPC.2.2.1 l hl
        have e2 := dk_s hDC hr (show l < 6 by omega)
        unfold X8_line X8_line_j20
        rw [lc_64 h, ml_ok h hPC hl, ly_cV, if_neg (nI_pos (by omega)), if_neg (show ¬ (4 : Int32) < nI k from nI_nlt (b := k) (a := 4) (by omega) (by omega)), lc_64 h, mu_cV1]
        unfold lv
        rcases hkk with rfl | rfl | rfl | rfl | rfl
        all_goals simp (disch := first | assumption | omega) only [ly_cI, ly_cIx, ly_cL, ly_cLx, ly_cV, ly_cVx, ly_bI, ly_bL, ly_n0n, ly_n1n, ly_nb, ly_bzn, ly_bon, nI_add, pk_mul, nI_leI, nI_ltI, nI_eq, if_pos, if_neg, ly_uE, ly_b1n, ly_b0n, if_true, if_false, eq_self, Bool.false_eq_true, Bool.true_eq_false, decide_true, decide_false, Nat.zero_add, nl_0, nl_1, nl_2, nl_3, nl_4, nl_5, nl_6, nl_7, nl_8, nl_9, nl_10, nl_11, nl_12, nl_13, nl_14, nl_15, nl_16, nl_17, nl_18, nl_19, nl_20, nl_21, nl_22, nl_23, nl_24, nl_25, nl_26, nl_27, nl_28, nl_29, nl_30, nl_31, nl_32, nl_40, nl_41, nl_42, nl_43, nl_44, nl_45, nl_47, nl_48, nl_57, nl_59, nl_60, nl_80, nl_91, nl_93, nl_96, nl_97, nl_99, nl_100, nl_122, nl_150, nl_160, nl_200, nl_208, nl_224, nl_238, nl_239, nl_255, nl_600, nl_999, nl_1000, nl_9999, nl_100000, nl_12345, nl_1103515245, nl_32767, lr_64_0, lr_64_1, lr_64_2, lr_64_3, lr_64_4, lr_64_5, lr_64_6, lr_64_7, lr_64_8, lr_64_9, lr_64_10, lr_64_11, lr_65_0, lr_67_0, lr_67_1, lr_67_2, lr_71_0, lr_71_1, lr_71_2, lr_75_0, lr_75_1, lr_75_2, lr_79_0, lr_79_1, lr_79_2, lr_83_0, lr_85_0, lr_87_0, lr_87_1, lr_87_2, lr_87_3, lr_87_4, lr_93_0, lr_93_1, lr_93_2, lr_93_3, lr_96_0, lr_96_1, lr_96_2, lr_96_3, lr_99_0, lr_99_1, lr_102_0, lr_102_1, lr_102_2, lr_102_3, lr_102_4, lr_102_5, lg_64, lp_64, lc_64, lg_65, lp_65, lc_65, lg_67, lp_67, lc_67, lg_71, lp_71, lc_71, lg_75, lp_75, lc_75, lg_79, lp_79, lc_79, lg_83, lp_83, lc_83, lg_85, lp_85, lc_85, lg_87, lp_87, lc_87, lg_93, lp_93, lc_93, lg_96, lp_96, lc_96, lg_99, lp_99, lc_99, lg_102, lp_102, lc_102, ld_1, ll_1, ld_2, ll_2, ld_33, ll_33, ld_34, ll_34, ld_35, ll_35, ld_36, ll_36, ld_37, ll_37, ld_38, ll_38, ld_39, ll_39, ld_40, ll_40, ld_41, ll_41, ld_42, ll_42, ld_43, ll_43, ld_44, ll_44, ld_45, ll_45, ld_46, ll_46, ld_47, ll_47, ld_48, ll_48, ld_49, ll_49, ld_50, ll_50, ld_51, ll_51, ld_66, ls_66, ll_66, ld_68, ls_68, ll_68, ld_69, ls_69, ll_69, ld_70, ls_70, ll_70, ld_72, ls_72, ll_72, ld_73, ls_73, ll_73, ld_74, ls_74, ll_74, ld_76, ls_76, ll_76, ld_77, ls_77, ll_77, ld_78, ls_78, ll_78, ld_80, ls_80, ll_80, ld_81, ls_81, ll_81, ld_82, ls_82, ll_82, ld_84, ls_84, ll_84, ld_86, ls_86, ll_86, ld_88, ls_88, ll_88, ld_89, ls_89, ll_89, ld_90, ls_90, ll_90, ld_91, ls_91, ll_91, ld_92, ls_92, ll_92, ld_94, ls_94, ll_94, ld_95, ls_95, ll_95, ld_97, ls_97, ll_97, ld_98, ls_98, ll_98, ld_100, ls_100, ll_100, ld_101, ls_101, ll_101, ld_103, ls_103, ld_104, ls_104, ld_105, ls_105, ll_105, ld_106, ls_106, ld_107, ls_107, ll_107, lk_0, lk_1, lk_2, lk_3, lk_g, lk_p, lk_c, lk_l1, lk_l2, lk_s1, lk_s2, e1, e2, rd_leftIn h hPC dk_93 hDC hr hl, rd_first h hPC dk_93 hDC hr hl, rd_sumLeft h hPC dk_93 hDC hr hl]
      · have hPM2 : pg_M (ly_u I 108 0 0) n wd q := pg_M_same hPM s0
        have hDM2 : dk_M (ly_u I 108 0 0) 535 r := dk_M_same hDM s0
        have e13 := hPM2.2.1
        have e1 := hPM2.2.2.1 l (by omega)
        have e2 := dm_s hDM2 hr (show l < 6 by omega)
        have hb := rd_sb hPM.1 hr (show l < 6 by omega)
        unfold X9_line X9_line_j19 X9_line_j42
        rw [lp_108 h, lc_108 h, il_ok h e13 hn6 hl, ly_cI, if_neg (by decide), lc_108 h, bad_z h, ly_cI, if_pos (by first | decide | rfl), rm_in, ly_cI, decide_eq_true hy, if_neg (by decide), lc_108 h, bad_z h, ly_cI, i00]
        generalize ly_u I 108 0 0 = J at hPM2 hDM2 e13 e1 e2 ⊢
        refine ly_loop (fun i (y : Nat) => ((nI y, nI i, (c, w, S, J, K2)) : Int32 × Int32 × pmM)) (wd l) (fun i y => y = slw wd (rd_s r) q l i) (fun R => R = pm_oI (lv wd r q l k) (c, w, S, J, K2)) ?_ ?_ pm_N 0 0 rfl (by omega) (by rw [pm_NE]; omega)
        · intro again i y hi hQ hk
          subst hQ
          have := hk _ rfl
          simp only [slw] at this
          have e3 := hPM2.2.2.2 l i hl hi
          have hh := rm_has (m := (c, w, S, J, K2)) hb (show i < 16 by omega)
          unfold X9_line_L57 X9_line_j98
          cases hbb : (rd_s r l).testBit i
          · rw [if_pos ⟨hi, hbb⟩] at this
            simp (disch := first | assumption | omega) only [ly_cI, ly_cIx, ly_cL, ly_cLx, ly_cV, ly_cVx, ly_bI, ly_bL, ly_n0n, ly_n1n, ly_nb, ly_bzn, ly_bon, nI_add, pk_mul, nI_leI, nI_ltI, nI_eq, if_pos, if_neg, ly_uE, ly_b1n, ly_b0n, if_true, if_false, eq_self, Bool.false_eq_true, Bool.true_eq_false, decide_true, decide_false, Nat.zero_add, nl_0, nl_1, nl_2, nl_3, nl_4, nl_5, nl_6, nl_7, nl_8, nl_9, nl_10, nl_11, nl_12, nl_13, nl_14, nl_15, nl_16, nl_17, nl_18, nl_19, nl_20, nl_21, nl_22, nl_23, nl_24, nl_25, nl_26, nl_27, nl_28, nl_29, nl_30, nl_31, nl_32, nl_40, nl_41, nl_42, nl_43, nl_44, nl_45, nl_47, nl_48, nl_57, nl_59, nl_60, nl_80, nl_91, nl_93, nl_96, nl_97, nl_99, nl_100, nl_122, nl_150, nl_160, nl_200, nl_208, nl_224, nl_238, nl_239, nl_255, nl_600, nl_999, nl_1000, nl_9999, nl_100000, nl_12345, nl_1103515245, nl_32767, lr_108_9, lr_108_10, lr_108_14, lr_108_15, lr_108_16, lr_108_17, lr_108_18, lr_108_21, lr_108_22, lr_108_23, lr_108_24, lr_108_25, lr_108_26, lr_108_27, lr_108_29, lr_108_30, lr_108_31, lr_108_32, lr_108_40, lr_108_41, lr_108_42, lr_108_43, lr_108_44, lr_108_45, lr_108_46, lr_108_47, lr_108_48, lr_108_49, lr_108_50, lr_108_51, lr_108_52, lr_108_53, lr_114, ll_114, lr_121, ll_121, lr_128, ll_128, lr_289, ll_289, lr_454, ll_454, lr_537, ll_537, lr_554, ll_554, lr_566, ll_566, lr_582, ll_582, lg_108, lp_108, lc_108, ld_109, ls_109, ll_109, ld_110, ls_110, ll_110, ld_111, ls_111, ll_111, ld_112, ls_112, ll_112, ld_113, ls_113, ll_113, ld_115, ls_115, ll_115, ld_122, ls_122, ll_122, ld_129, ls_129, ll_129, ld_290, ls_290, ll_290, ld_450, ls_450, ll_450, ld_451, ls_451, ll_451, ld_452, ls_452, ll_452, ld_453, ls_453, ll_453, ld_455, ls_455, ll_455, ld_535, ls_535, ll_535, ld_536, ls_536, ll_536, ld_538, ls_538, ll_538, ld_555, ls_555, ll_555, ld_558, ls_558, ll_558, ld_559, ls_559, ll_559, ld_560, ls_560, ll_560, ld_561, ls_561, ll_561, ld_562, ls_562, ll_562, ld_563, ls_563, ld_564, ls_564, ld_565, ls_565, ld_567, ls_567, ld_580, ls_580, ll_580, ld_581, ls_581, ll_581, ld_583, ls_583, ll_583, ld_592, ls_592, ld_593, ls_593, ll_593, ld_594, ls_594, lw_l, lw_s, e1, e2, hh, hbb, e3]
            exact this
          · rw [if_neg (by simp [hbb])] at this
            simp (disch := first | assumption | omega) only [ly_cI, ly_cIx, ly_cL, ly_cLx, ly_cV, ly_cVx, ly_bI, ly_bL, ly_n0n, ly_n1n, ly_nb, ly_bzn, ly_bon, nI_add, pk_mul, nI_leI, nI_ltI, nI_eq, if_pos, if_neg, ly_uE, ly_b1n, ly_b0n, if_true, if_false, eq_self, Bool.false_eq_true, Bool.true_eq_false, decide_true, decide_false, Nat.zero_add, nl_0, nl_1, nl_2, nl_3, nl_4, nl_5, nl_6, nl_7, nl_8, nl_9, nl_10, nl_11, nl_12, nl_13, nl_14, nl_15, nl_16, nl_17, nl_18, nl_19, nl_20, nl_21, nl_22, nl_23, nl_24, nl_25, nl_26, nl_27, nl_28, nl_29, nl_30, nl_31, nl_32, nl_40, nl_41, nl_42, nl_43, nl_44, nl_45, nl_47, nl_48, nl_57, nl_59, nl_60, nl_80, nl_91, nl_93, nl_96, nl_97, nl_99, nl_100, nl_122, nl_150, nl_160, nl_200, nl_208, nl_224, nl_238, nl_239, nl_255, nl_600, nl_999, nl_1000, nl_9999, nl_100000, nl_12345, nl_1103515245, nl_32767, lr_108_9, lr_108_10, lr_108_14, lr_108_15, lr_108_16, lr_108_17, lr_108_18, lr_108_21, lr_108_22, lr_108_23, lr_108_24, lr_108_25, lr_108_26, lr_108_27, lr_108_29, lr_108_30, lr_108_31, lr_108_32, lr_108_40, lr_108_41, lr_108_42, lr_108_43, lr_108_44, lr_108_45, lr_108_46, lr_108_47, lr_108_48, lr_108_49, lr_108_50, lr_108_51, lr_108_52, lr_108_53, lr_114, ll_114, lr_121, ll_121, lr_128, ll_128, lr_289, ll_289, lr_454, ll_454, lr_537, ll_537, lr_554, ll_554, lr_566, ll_566, lr_582, ll_582, lg_108, lp_108, lc_108, ld_109, ls_109, ll_109, ld_110, ls_110, ll_110, ld_111, ls_111, ll_111, ld_112, ls_112, ll_112, ld_113, ls_113, ll_113, ld_115, ls_115, ll_115, ld_122, ls_122, ll_122, ld_129, ls_129, ll_129, ld_290, ls_290, ll_290, ld_450, ls_450, ll_450, ld_451, ls_451, ll_451, ld_452, ls_452, ll_452, ld_453, ls_453, ll_453, ld_455, ls_455, ll_455, ld_535, ls_535, ll_535, ld_536, ls_536, ll_536, ld_538, ls_538, ll_538, ld_555, ls_555, ll_555, ld_558, ls_558, ll_558, ld_559, ls_559, ll_559, ld_560, ls_560, ll_560, ld_561, ls_561, ll_561, ld_562, ls_562, ll_562, ld_563, ls_563, ld_564, ls_564, ld_565, ls_565, ld_567, ls_567, ld_580, ls_580, ll_580, ld_581, ls_581, ll_581, ld_583, ls_583, ll_583, ld_592, ls_592, ld_593, ls_593, ll_593, ld_594, ls_594, lw_l, lw_s, e1, e2, hh, hbb, e3, Nat.add_zero]
            exact this
        · intro again y hQ
          subst hQ
          unfold X9_line_L57 X9_line_j171 lv
          rcases hkk with rfl | rfl | rfl | rfl | rfl
          all_goals simp (disch := first | assumption | omega) only [ly_cI, ly_cIx, ly_cL, ly_cLx, ly_cV, ly_cVx, ly_bI, ly_bL, ly_n0n, ly_n1n, ly_nb, ly_bzn, ly_bon, nI_add, pk_mul, nI_leI, nI_ltI, nI_eq, if_pos, if_neg, ly_uE, ly_b1n, ly_b0n, if_true, if_false, eq_self, Bool.false_eq_true, Bool.true_eq_false, decide_true, decide_false, Nat.zero_add, nl_0, nl_1, nl_2, nl_3, nl_4, nl_5, nl_6, nl_7, nl_8, nl_9, nl_10, nl_11, nl_12, nl_13, nl_14, nl_15, nl_16, nl_17, nl_18, nl_19, nl_20, nl_21, nl_22, nl_23, nl_24, nl_25, nl_26, nl_27, nl_28, nl_29, nl_30, nl_31, nl_32, nl_40, nl_41, nl_42, nl_43, nl_44, nl_45, nl_47, nl_48, nl_57, nl_59, nl_60, nl_80, nl_91, nl_93, nl_96, nl_97, nl_99, nl_100, nl_122, nl_150, nl_160, nl_200, nl_208, nl_224, nl_238, nl_239, nl_255, nl_600, nl_999, nl_1000, nl_9999, nl_100000, nl_12345, nl_1103515245, nl_32767, lr_108_9, lr_108_10, lr_108_14, lr_108_15, lr_108_16, lr_108_17, lr_108_18, lr_108_21, lr_108_22, lr_108_23, lr_108_24, lr_108_25, lr_108_26, lr_108_27, lr_108_29, lr_108_30, lr_108_31, lr_108_32, lr_108_40, lr_108_41, lr_108_42, lr_108_43, lr_108_44, lr_108_45, lr_108_46, lr_108_47, lr_108_48, lr_108_49, lr_108_50, lr_108_51, lr_108_52, lr_108_53, lr_114, ll_114, lr_121, ll_121, lr_128, ll_128, lr_289, ll_289, lr_454, ll_454, lr_537, ll_537, lr_554, ll_554, lr_566, ll_566, lr_582, ll_582, lg_108, lp_108, lc_108, ld_109, ls_109, ll_109, ld_110, ls_110, ll_110, ld_111, ls_111, ll_111, ld_112, ls_112, ll_112, ld_113, ls_113, ll_113, ld_115, ls_115, ll_115, ld_122, ls_122, ll_122, ld_129, ls_129, ll_129, ld_290, ls_290, ll_290, ld_450, ls_450, ll_450, ld_451, ls_451, ll_451, ld_452, ls_452, ll_452, ld_453, ls_453, ll_453, ld_455, ls_455, ll_455, ld_535, ls_535, ll_535, ld_536, ls_536, ll_536, ld_538, ls_538, ll_538, ld_555, ls_555, ll_555, ld_558, ls_558, ll_558, ld_559, ls_559, ll_559, ld_560, ls_560, ll_560, ld_561, ls_561, ll_561, ld_562, ls_562, ll_562, ld_563, ls_563, ld_564, ls_564, ld_565, ls_565, ld_567, ls_567, ld_580, ls_580, ll_580, ld_581, ls_581, ll_581, ld_583, ls_583, ll_583, ld_592, ls_592, ld_593, ls_593, ll_593, ld_594, ls_594, lw_l, lw_s, e1, e2, rm_leftIn h hPM2 rwa_535 hDM2 hr (show l < 6 by omega), rm_leftWord h hPM2 rwa_535 hDM2 hr hl (show 0 < 2 ^ 31 by omega)]
    · refine ag_no (K := K) (k := 1) (b := .int 0) h hJ (by omega) ⟨_, rfl⟩ ?_ (fun c1 w1 S1 I1 K2 h1 hI => ?_)
      · have e : X8_line_j19 64 (nI l) y 64 (c, w, S, I, K) = rX c w S I K 1 := by
          unfold X8_line_j19 X8_line_j20
          rw [lc_64 h, mu_cV h]
        unfold X8_line
        rw [lc_64 h, ml_ok h hPC hl, ly_cV]
        by_cases h1 : y < 0
        · rw [if_pos h1, e]
        · rw [if_neg h1, if_pos (Int32.not_le.mp (fun e9 => hy ⟨Int32.not_lt.mp h1, e9⟩)), e]
      · have e13 : ly_u I1 108 0 0 108 13 = nI n := by rw [u0 (by omega), hI 108 13 (by omega) (by omega)]; exact hPM.2.1
        unfold X9_line X9_line_j19 X9_line_j42 X9_line_j50
        rw [lp_108 h1, lc_108 h1, il_ok h1 e13 hn6 hl, ly_cI, if_neg (by decide), lc_108 h1, bad_z h1, ly_cI, if_pos (by first | decide | rfl), rm_in, ly_cI, decide_eq_false hy, if_pos (by first | decide | rfl), lc_108 h1, bad_21 h1, ly_cI, if_neg (by decide)]
  all_goals
    have hx' : x < 0 ∨ nI n ≤ x := by first | exact Or.inl hx | exact Or.inr hx
    refine ag_no (K := K) (k := 0) (b := .int 0) h hJ (by omega) ⟨_, rfl⟩ ?_ (fun c1 w1 S1 I1 K2 h1 hI => ?_)
    · unfold X8_line
      rw [lc_64 h, ml_no h hPC hx', rx_cV]
    · have e13 : ly_u I1 108 0 0 108 13 = nI n := by rw [u0 (by omega), hI 108 13 (by omega) (by omega)]; exact hPM.2.1
      unfold X9_line X9_line_j19 X9_line_j50
      rw [lp_108 h1, lc_108 h1, il_no h1 e13 hn6 hx', ly_cI, if_pos (by first | decide | rfl), lc_108 h1, bad_10 h1, ly_cI, if_neg (by decide)]
end SIO
