/-! a deed: what it makes of a row -/
section DEE
variable {c w : Nat} {S : Nat → pmS} {I I1 : Nat → Nat → Int32} {K : Nat → Nat → Int64} {n : Nat} {wd : Nat → Nat} {q : Nat → Nat → Nat} {r : Nat → Int32} {d a : Nat}
def rd_z (x : Nat) : Nat := if x % 2 = 1 then 0 else if x / 2 % 2 = 1 then 1 else if x / 4 % 2 = 1 then 2 else if x / 8 % 2 = 1 then 3 else if x / 16 % 2 = 1 then 4 else if x / 32 % 2 = 1 then 5 else if x / 64 % 2 = 1 then 6 else 7
def rd_nx (x : Nat) : Nat := x &&& (x - 1)
theorem rd_z1 : ∀ x, x < 256 → x ≠ 0 → ((nI x &&& -nI x) - nI 1) = nI (2 ^ rd_z x - 1) ∧ rd_pc (2 ^ rd_z x - 1) = rd_z x ∧ rd_z x < 8 ∧ 2 ^ rd_z x - 1 < 256 := by decide +kernel
theorem rd_z2 : ∀ x, x < 256 → (nI x &&& (nI x - nI 1)) = nI (rd_nx x) ∧ rd_nx x < 256 := by decide +kernel
def rd_ov (x : Nat) : Option Nat := if x = 0 then none else some (rd_z x)
theorem rd_z3 : ∀ k, k < 9 → ∀ b, b < 2 ^ k → rd_pf b 0 k 0 0 = rd_ov (2 ^ k - 1 - b) ∧ rd_pf b 1 k 0 0 = rd_ov (rd_nx (2 ^ k - 1 - b)) ∧ rd_pf b 2 k 0 0 = rd_ov (rd_nx (rd_nx (2 ^ k - 1 - b))) ∧ (k - rd_pc b = 0 ↔ 2 ^ k - 1 - b = 0) := by decide +kernel
theorem rd_pfl {b k : Nat} : ∀ (m i t : Nat) {p : Nat}, rd_pf b k m i t = some p → i ≤ p ∧ p < i + m ∧ b.testBit p = false
  | 0, i, t, p, h => by cases h
  | m + 1, i, t, p, h => by
    simp only [rd_pf] at h
    by_cases hb : b.testBit i = true
    · rw [if_pos hb] at h
      have := rd_pfl m (i + 1) t h
      exact ⟨by omega, by omega, this.2.2⟩
    · rw [if_neg hb] at h
      by_cases ht : t = k
      · rw [if_pos ht] at h
        simp only [Option.some.injEq] at h
        subst h
        exact ⟨by omega, by omega, by simpa using hb⟩
      · rw [if_neg ht] at h
        have := rd_pfl m (i + 1) (t + 1) h
        exact ⟨by omega, by omega, this.2.2⟩
theorem rd_lbE : ∀ k, k < 9 → ∀ b, b < 2 ^ k → ((((1 : Int32) <<< (nI k &&& 31)) - 1) &&& (nI b ^^^ (-1))) = nI (2 ^ k - 1 - b) := by decide +kernel
theorem rd_leftBits {l : Nat} (h : ly c S) (hP : pg_C I n wd q) (hd : dk d) (hC : dk_C I d r) (hr : dk_W n wd r) (hl : l < n) : X0_leftBits d (nI l) (c, w, S, I, K) = pm_oI (nI (2 ^ wd l - 1 - rd_s r l)) (c, w, S, I, K) := by
  have hW := hP.1
  have hn6 := hW.1
  have hl6 : l < 6 := by omega
  have h2 := dk_s hC hr hl6
  have h3 := hP.2.2.1 l hl
  have hw8 := pg_wd hW l
  have h4 := rd_lbE (wd l) (by omega) _ (hr.1 l hl6).2
  unfold X0_leftBits X0_leftBits_j37
  rw [← h4]
  simp (disch := first | assumption | omega) only [ly_cI, ly_cIx, ly_cL, ly_cLx, ly_cV, ly_cVx, ly_bI, ly_bL, ly_n0n, ly_n1n, ly_nb, ly_bzn, ly_bon, nI_add, pk_mul, nI_leI, nI_ltI, nI_eq, if_pos, if_neg, ly_uE, ly_b1n, ly_b0n, if_true, if_false, eq_self, Bool.false_eq_true, Bool.true_eq_false, decide_true, decide_false, Nat.zero_add, nl_0, nl_1, nl_2, nl_3, nl_4, nl_5, nl_6, nl_7, nl_8, nl_9, nl_10, nl_11, nl_12, nl_13, nl_14, nl_15, nl_16, nl_17, nl_18, nl_19, nl_20, nl_21, nl_22, nl_23, nl_24, nl_25, nl_26, nl_27, nl_28, nl_29, nl_30, nl_31, nl_32, nl_40, nl_41, nl_42, nl_43, nl_44, nl_45, nl_47, nl_48, nl_57, nl_59, nl_60, nl_80, nl_91, nl_93, nl_96, nl_97, nl_99, nl_100, nl_122, nl_150, nl_160, nl_200, nl_208, nl_224, nl_238, nl_239, nl_255, nl_600, nl_999, nl_1000, nl_9999, nl_100000, nl_12345, nl_1103515245, nl_32767, lr_64_0, lr_64_1, lr_64_2, lr_64_3, lr_64_4, lr_64_5, lr_64_6, lr_64_7, lr_64_8, lr_64_9, lr_64_10, lr_64_11, lr_65_0, lr_67_0, lr_67_1, lr_67_2, lr_71_0, lr_71_1, lr_71_2, lr_75_0, lr_75_1, lr_75_2, lr_79_0, lr_79_1, lr_79_2, lr_83_0, lr_85_0, lr_87_0, lr_87_1, lr_87_2, lr_87_3, lr_87_4, lr_93_0, lr_93_1, lr_93_2, lr_93_3, lr_96_0, lr_96_1, lr_96_2, lr_96_3, lr_99_0, lr_99_1, lr_102_0, lr_102_1, lr_102_2, lr_102_3, lr_102_4, lr_102_5, lg_64, lp_64, lc_64, lg_65, lp_65, lc_65, lg_67, lp_67, lc_67, lg_71, lp_71, lc_71, lg_75, lp_75, lc_75, lg_79, lp_79, lc_79, lg_83, lp_83, lc_83, lg_85, lp_85, lc_85, lg_87, lp_87, lc_87, lg_93, lp_93, lc_93, lg_96, lp_96, lc_96, lg_99, lp_99, lc_99, lg_102, lp_102, lc_102, ld_1, ll_1, ld_2, ll_2, ld_33, ll_33, ld_34, ll_34, ld_35, ll_35, ld_36, ll_36, ld_37, ll_37, ld_38, ll_38, ld_39, ll_39, ld_40, ll_40, ld_41, ll_41, ld_42, ll_42, ld_43, ll_43, ld_44, ll_44, ld_45, ll_45, ld_46, ll_46, ld_47, ll_47, ld_48, ll_48, ld_49, ll_49, ld_50, ll_50, ld_51, ll_51, ld_66, ls_66, ll_66, ld_68, ls_68, ll_68, ld_69, ls_69, ll_69, ld_70, ls_70, ll_70, ld_72, ls_72, ll_72, ld_73, ls_73, ll_73, ld_74, ls_74, ll_74, ld_76, ls_76, ll_76, ld_77, ls_77, ll_77, ld_78, ls_78, ll_78, ld_80, ls_80, ll_80, ld_81, ls_81, ll_81, ld_82, ls_82, ll_82, ld_84, ls_84, ll_84, ld_86, ls_86, ll_86, ld_88, ls_88, ll_88, ld_89, ls_89, ll_89, ld_90, ls_90, ll_90, ld_91, ls_91, ll_91, ld_92, ls_92, ll_92, ld_94, ls_94, ll_94, ld_95, ls_95, ll_95, ld_97, ls_97, ll_97, ld_98, ls_98, ll_98, ld_100, ls_100, ll_100, ld_101, ls_101, ll_101, ld_103, ls_103, ld_104, ls_104, ld_105, ls_105, ll_105, ld_106, ls_106, ld_107, ls_107, ll_107, lk_0, lk_1, lk_2, lk_3, lk_g, lk_p, lk_c, lk_l1, lk_l2, lk_s1, lk_s2, rd_hasLine h hP (show l < 2 ^ 31 by omega), hl, h2, h3]
def rd_wz (q : Nat → Nat → Nat) (l x : Nat) : Nat := if x = 0 then 0 else q l (rd_z x)
theorem rd_lowest {l x : Nat} (h : ly c S) (hP : pg_C I n wd q) (hd : dk d) (hl : l < n) (hx : x < 256) (hz : x ≠ 0 → rd_z x < wd l) : X0_lowestWord d (nI l) (nI x) (c, w, S, I, K) = pm_oI (nI (rd_wz q l x)) (c, w, S, I, K) := by
  have hW := hP.1
  have hn6 := hW.1
  unfold X0_lowestWord X0_lowestWord_j25 rd_wz
  by_cases h0 : x = 0
  · subst h0
    simp (disch := first | assumption | omega) only [ly_cI, ly_cIx, ly_cL, ly_cLx, ly_cV, ly_cVx, ly_bI, ly_bL, ly_n0n, ly_n1n, ly_nb, ly_bzn, ly_bon, nI_add, pk_mul, nI_leI, nI_ltI, nI_eq, if_pos, if_neg, ly_uE, ly_b1n, ly_b0n, if_true, if_false, eq_self, Bool.false_eq_true, Bool.true_eq_false, decide_true, decide_false, Nat.zero_add, nl_0, nl_1, nl_2, nl_3, nl_4, nl_5, nl_6, nl_7, nl_8, nl_9, nl_10, nl_11, nl_12, nl_13, nl_14, nl_15, nl_16, nl_17, nl_18, nl_19, nl_20, nl_21, nl_22, nl_23, nl_24, nl_25, nl_26, nl_27, nl_28, nl_29, nl_30, nl_31, nl_32, nl_40, nl_41, nl_42, nl_43, nl_44, nl_45, nl_47, nl_48, nl_57, nl_59, nl_60, nl_80, nl_91, nl_93, nl_96, nl_97, nl_99, nl_100, nl_122, nl_150, nl_160, nl_200, nl_208, nl_224, nl_238, nl_239, nl_255, nl_600, nl_999, nl_1000, nl_9999, nl_100000, nl_12345, nl_1103515245, nl_32767, lr_64_0, lr_64_1, lr_64_2, lr_64_3, lr_64_4, lr_64_5, lr_64_6, lr_64_7, lr_64_8, lr_64_9, lr_64_10, lr_64_11, lr_65_0, lr_67_0, lr_67_1, lr_67_2, lr_71_0, lr_71_1, lr_71_2, lr_75_0, lr_75_1, lr_75_2, lr_79_0, lr_79_1, lr_79_2, lr_83_0, lr_85_0, lr_87_0, lr_87_1, lr_87_2, lr_87_3, lr_87_4, lr_93_0, lr_93_1, lr_93_2, lr_93_3, lr_96_0, lr_96_1, lr_96_2, lr_96_3, lr_99_0, lr_99_1, lr_102_0, lr_102_1, lr_102_2, lr_102_3, lr_102_4, lr_102_5, lg_64, lp_64, lc_64, lg_65, lp_65, lc_65, lg_67, lp_67, lc_67, lg_71, lp_71, lc_71, lg_75, lp_75, lc_75, lg_79, lp_79, lc_79, lg_83, lp_83, lc_83, lg_85, lp_85, lc_85, lg_87, lp_87, lc_87, lg_93, lp_93, lc_93, lg_96, lp_96, lc_96, lg_99, lp_99, lc_99, lg_102, lp_102, lc_102, ld_1, ll_1, ld_2, ll_2, ld_33, ll_33, ld_34, ll_34, ld_35, ll_35, ld_36, ll_36, ld_37, ll_37, ld_38, ll_38, ld_39, ll_39, ld_40, ll_40, ld_41, ll_41, ld_42, ll_42, ld_43, ll_43, ld_44, ll_44, ld_45, ll_45, ld_46, ll_46, ld_47, ll_47, ld_48, ll_48, ld_49, ll_49, ld_50, ll_50, ld_51, ll_51, ld_66, ls_66, ll_66, ld_68, ls_68, ll_68, ld_69, ls_69, ll_69, ld_70, ls_70, ll_70, ld_72, ls_72, ll_72, ld_73, ls_73, ll_73, ld_74, ls_74, ll_74, ld_76, ls_76, ll_76, ld_77, ls_77, ll_77, ld_78, ls_78, ll_78, ld_80, ls_80, ll_80, ld_81, ls_81, ll_81, ld_82, ls_82, ll_82, ld_84, ls_84, ll_84, ld_86, ls_86, ll_86, ld_88, ls_88, ll_88, ld_89, ls_89, ll_89, ld_90, ls_90, ll_90, ld_91, ls_91, ll_91, ld_92, ls_92, ll_92, ld_94, ls_94, ll_94, ld_95, ls_95, ll_95, ld_97, ls_97, ll_97, ld_98, ls_98, ll_98, ld_100, ls_100, ll_100, ld_101, ls_101, ll_101, ld_103, ls_103, ld_104, ls_104, ld_105, ls_105, ll_105, ld_106, ls_106, ld_107, ls_107, ll_107, lk_0, lk_1, lk_2, lk_3, lk_g, lk_p, lk_c, lk_l1, lk_l2, lk_s1, lk_s2, eq_self]
  · obtain ⟨e1, e2, e3, e4⟩ := rd_z1 x hx h0
    have e5 := rd_wordAt (w := w) (K := K) h hP (show l < 2 ^ 31 by omega) (show rd_z x < 2 ^ 31 by omega)
    unfold rd_q at e5
    rw [if_pos ⟨hl, hz h0⟩] at e5
    simp (disch := first | assumption | omega) only [ly_cI, ly_cIx, ly_cL, ly_cLx, ly_cV, ly_cVx, ly_bI, ly_bL, ly_n0n, ly_n1n, ly_nb, ly_bzn, ly_bon, nI_add, pk_mul, nI_leI, nI_ltI, nI_eq, if_pos, if_neg, ly_uE, ly_b1n, ly_b0n, if_true, if_false, eq_self, Bool.false_eq_true, Bool.true_eq_false, decide_true, decide_false, Nat.zero_add, nl_0, nl_1, nl_2, nl_3, nl_4, nl_5, nl_6, nl_7, nl_8, nl_9, nl_10, nl_11, nl_12, nl_13, nl_14, nl_15, nl_16, nl_17, nl_18, nl_19, nl_20, nl_21, nl_22, nl_23, nl_24, nl_25, nl_26, nl_27, nl_28, nl_29, nl_30, nl_31, nl_32, nl_40, nl_41, nl_42, nl_43, nl_44, nl_45, nl_47, nl_48, nl_57, nl_59, nl_60, nl_80, nl_91, nl_93, nl_96, nl_97, nl_99, nl_100, nl_122, nl_150, nl_160, nl_200, nl_208, nl_224, nl_238, nl_239, nl_255, nl_600, nl_999, nl_1000, nl_9999, nl_100000, nl_12345, nl_1103515245, nl_32767, lr_64_0, lr_64_1, lr_64_2, lr_64_3, lr_64_4, lr_64_5, lr_64_6, lr_64_7, lr_64_8, lr_64_9, lr_64_10, lr_64_11, lr_65_0, lr_67_0, lr_67_1, lr_67_2, lr_71_0, lr_71_1, lr_71_2, lr_75_0, lr_75_1, lr_75_2, lr_79_0, lr_79_1, lr_79_2, lr_83_0, lr_85_0, lr_87_0, lr_87_1, lr_87_2, lr_87_3, lr_87_4, lr_93_0, lr_93_1, lr_93_2, lr_93_3, lr_96_0, lr_96_1, lr_96_2, lr_96_3, lr_99_0, lr_99_1, lr_102_0, lr_102_1, lr_102_2, lr_102_3, lr_102_4, lr_102_5, lg_64, lp_64, lc_64, lg_65, lp_65, lc_65, lg_67, lp_67, lc_67, lg_71, lp_71, lc_71, lg_75, lp_75, lc_75, lg_79, lp_79, lc_79, lg_83, lp_83, lc_83, lg_85, lp_85, lc_85, lg_87, lp_87, lc_87, lg_93, lp_93, lc_93, lg_96, lp_96, lc_96, lg_99, lp_99, lc_99, lg_102, lp_102, lc_102, ld_1, ll_1, ld_2, ll_2, ld_33, ll_33, ld_34, ll_34, ld_35, ll_35, ld_36, ll_36, ld_37, ll_37, ld_38, ll_38, ld_39, ll_39, ld_40, ll_40, ld_41, ll_41, ld_42, ll_42, ld_43, ll_43, ld_44, ll_44, ld_45, ll_45, ld_46, ll_46, ld_47, ll_47, ld_48, ll_48, ld_49, ll_49, ld_50, ll_50, ld_51, ll_51, ld_66, ls_66, ll_66, ld_68, ls_68, ll_68, ld_69, ls_69, ll_69, ld_70, ls_70, ll_70, ld_72, ls_72, ll_72, ld_73, ls_73, ll_73, ld_74, ls_74, ll_74, ld_76, ls_76, ll_76, ld_77, ls_77, ll_77, ld_78, ls_78, ll_78, ld_80, ls_80, ll_80, ld_81, ls_81, ll_81, ld_82, ls_82, ll_82, ld_84, ls_84, ll_84, ld_86, ls_86, ll_86, ld_88, ls_88, ll_88, ld_89, ls_89, ll_89, ld_90, ls_90, ll_90, ld_91, ls_91, ll_91, ld_92, ls_92, ll_92, ld_94, ls_94, ll_94, ld_95, ls_95, ll_95, ld_97, ls_97, ll_97, ld_98, ls_98, ll_98, ld_100, ls_100, ll_100, ld_101, ls_101, ll_101, ld_103, ls_103, ld_104, ls_104, ld_105, ls_105, ll_105, ld_106, ls_106, ld_107, ls_107, ll_107, lk_0, lk_1, lk_2, lk_3, lk_g, lk_p, lk_c, lk_l1, lk_l2, lk_s1, lk_s2, e1, rd_bc e4, e2, e5]
/-- the words of a deed -/
def dd_w (wd s : Nat → Nat) (q : Nat → Nat → Nat) (l k : Nat) : Nat := match rd_pf (s l) k (wd l) 0 0 with
  | some i => q l i
  | none => 0
def dd_ln (wd s : Nat → Nat) : Nat → Nat → Option Nat
  | 0, _ => none
  | k + 1, l => if rd_lf wd s l = 0 then dd_ln wd s k (l + 1) else some l
def dw_r (n : Nat) (wd : Nat → Nat) (r : Nat → Int32) (x y z : Nat) : Nat → Int32 :=
  if x = 0 then r
  else if x = 1 then rup r (6 + y % 4) (nI (min 999 (rd_s r (6 + y % 4) + z)))
  else if x = 2 then rup r (6 + y % 4) (nI (rd_s r (6 + y % 4) - z))
  else if x = 3 then rup r (6 + y % 4) (r (6 + z % 4))
  else if x = 4 then (if rd_s r (6 + y % 4) = 0 then rup r 11 (nI (min z n)) else r)
  else if x = 5 then rup r 11 (nI (min y n))
  else if x = 6 then (if y < n ∧ z < wd y then rup r y (nI (rd_s r y ^^^ 2 ^ z)) else r)
  else if x = 7 then rup r 11 (nI n)
  else rup r (6 + x % 4) (nI (min 999 (rd_s r (6 + x % 4) + 1)))
def dd_1 (r : Nat → Int32) (l : Nat) : Nat → Int32 := rup (rup r 11 (nI (l + 1))) 13 (r 13 + nI 1)
def dd_r (n : Nat) (wd : Nat → Nat) (r : Nat → Int32) (l x y z : Nat) : Nat → Int32 := dw_r n wd (dd_1 r l) x y z
def dd (n : Nat) (wd : Nat → Nat) (q : Nat → Nat → Nat) (r : Nat → Int32) : Bool × (Nat → Int32) := match dd_ln wd (rd_s r) (n - rd_s r 11) (rd_s r 11) with
  | none => (false, rup r 11 (nI n))
  | some l => (true, dd_r n wd r l (dd_w wd (rd_s r) q l 0) (dd_w wd (rd_s r) q l 1) (dd_w wd (rd_s r) q l 2))
/-- nothing but the desk's differ -/
def dfr (d : Nat) (I I1 : Nat → Nat → Int32) : Prop := ∀ i j, ¬ (i = d ∧ 4 ≤ j ∧ j ≤ 7) → i ≠ d + 1 → i ≠ d + 2 → I1 i j = I i j
theorem dfr_r : dfr d I I := fun _ _ _ _ _ => rfl
theorem dfr_t {I2 : Nat → Nat → Int32} (h : dfr d I I1) (h2 : dfr d I1 I2) : dfr d I I2 := fun i j a1 a2 a3 => (h2 i j a1 a2 a3).trans (h i j a1 a2 a3)
theorem dfr_u {b k : Nat} {v : Int32} (h : dfr d I I1) (hb : (b = d ∧ 4 ≤ k ∧ k ≤ 7) ∨ b = d + 1 ∨ b = d + 2) : dfr d I (ly_u I1 b k v) := by
  intro i j a1 a2 a3
  rw [ly_uE, if_neg (by rintro ⟨rfl, rfl⟩; omega)]
  exact h i j a1 a2 a3
theorem dk_lt (hd : dk d) : 93 ≤ d ∧ d ≤ 96 := by rcases hd with rfl | rfl <;> omega
theorem pg_C_dfr (hd : dk d) (h : pg_C I n wd q) (hf : dfr d I I1) : pg_C I1 n wd q := by
  have := dk_lt hd
  obtain ⟨h1, h2, h3, h4, h5⟩ := h
  refine ⟨h1, ?_, fun l hl => ?_, fun l i hl hi => ?_, ?_⟩
  · rw [hf 67 3 (by omega) (by omega) (by omega)]; exact h2
  · rw [hf 68 l (by omega) (by omega) (by omega)]; exact h3 l hl
  · rw [hf 69 _ (by omega) (by omega) (by omega)]; exact h4 l i hl hi
  · rw [hf 67 4 (by omega) (by omega) (by omega)]; exact h5
/-- the desk as a row -/
theorem dk_C_u (hC : dk_C I d r) {k : Nat} {v : Int32} :
    dk_C (ly_u I d 4 v) d (rup r 11 v) ∧ dk_C (ly_u I d 5 v) d (rup r 10 v) ∧ dk_C (ly_u I d 6 v) d (rup r 12 v) ∧ dk_C (ly_u I d 7 v) d (rup r 13 v) ∧ (k < 6 → dk_C (ly_u I (d + 1) k v) d (rup r k v)) ∧ (k < 4 → dk_C (ly_u I (d + 2) k v) d (rup r (6 + k) v)) := by
  obtain ⟨a1, a2, a3, a4, a5, a6⟩ := hC
  refine ⟨?_, ?_, ?_, ?_, fun hk => ?_, fun hk => ?_⟩
  all_goals
    refine ⟨fun l hl => ?_, fun l hl => ?_, ?_, ?_, ?_, ?_⟩
    all_goals
      (simp only [ly_uE, rup, and_self, and_true, true_and, and_false, false_and, if_true, if_false]) <;> (repeat' split) <;> first | rfl | assumption | (exfalso; omega) | (exact a1 _ (by assumption)) | (exact a2 _ (by assumption))
end DEE
