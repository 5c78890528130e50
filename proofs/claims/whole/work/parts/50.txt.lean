/-! texts: where blanks, digits, letters end; the class's reading of them -/
section TXC
variable {c w : Nat} {S : Nat → pmS} {I I1 : Nat → Nat → Int32} {K : Nat → Nat → Int64} {T : Nat → Nat} {L p : Nat} {s v : Int32} {f : Nat → Bool}
theorem ly_wh {σ α : Type} {body : (σ → pmR) → σ → pmR} (μ : α → Nat) (st : α → σ) (Rp : α → pmR → Prop) (hs : ∀ again a, (∀ a', μ a' < μ a → Rp a' (again (st a'))) → Rp a (body again (st a))) : ∀ N a, μ a < N → Rp a (pm_lp N body (st a)) := by
  intro N
  induction N with
  | zero => intro a h; omega
  | succ N ih => intro a h; exact hs (pm_lp N body) a (fun a' ha' => ih a' (by omega))
theorem ng_ple {a b : Nat} (ha : a < 2 ^ 31) (hb : b < 2 ^ 31) : (nI b ≤ -nI a) ↔ b + a ≤ 0 := by rw [Int32.le_iff_toInt_le, ng_toInt ha, nI_toInt hb]; omega
def tx_run (f : Nat → Bool) (T : Nat → Nat) (L : Nat) : Nat → Nat → Nat
  | 0, p => p
  | k + 1, p => if p < L ∧ f (T p) = true then tx_run f T L k (p + 1) else p
/-- the first place from p on at which no such byte stands -/
def tE (f : Nat → Bool) (T : Nat → Nat) (L p : Nat) : Nat := tx_run f T L (L - p) p
theorem tE_s (hp : p < L) (hf : f (T p) = true) : tE f T L p = tE f T L (p + 1) := by
  unfold tE
  rw [show L - p = (L - (p + 1)) + 1 by omega]
  simp only [tx_run]
  rw [if_pos ⟨hp, hf⟩]
theorem tE_n (h : ¬ (p < L ∧ f (T p) = true)) : tE f T L p = p := by
  unfold tE
  cases hk : L - p with
  | zero => rfl
  | succ k => simp only [tx_run]; rw [if_neg h]
theorem tE_le : ∀ (k : Nat) {p : Nat}, L - p = k → p ≤ L → p ≤ tE f T L p ∧ tE f T L p ≤ L ∧ ¬ (tE f T L p < L ∧ f (T (tE f T L p)) = true) := by
  intro k
  induction k with
  | zero =>
    intro p hk hp
    have : p = L := by omega
    subst this
    rw [tE_n (by omega)]
    exact ⟨Nat.le_refl _, Nat.le_refl _, by omega⟩
  | succ k ih =>
    intro p hk hp
    by_cases h : p < L ∧ f (T p) = true
    · rw [tE_s h.1 h.2]
      have := ih (p := p + 1) (by omega) (by omega)
      exact ⟨by omega, this.2⟩
    · rw [tE_n h]
      exact ⟨Nat.le_refl _, hp, h⟩
theorem tE_ge (hp : p ≤ L) : p ≤ tE f T L p := (tE_le (f := f) (T := T) _ rfl hp).1
theorem tE_lL (hp : p ≤ L) : tE f T L p ≤ L := (tE_le (f := f) (T := T) _ rfl hp).2.1
theorem tE_st (hp : p ≤ L) : ¬ (tE f T L p < L ∧ f (T (tE f T L p)) = true) := (tE_le (f := f) (T := T) _ rfl hp).2.2
theorem tE_i (hp : p ≤ L) : tE f T L (tE f T L p) = tE f T L p := tE_n (tE_st hp)
theorem tE_in : ∀ (k : Nat) {p j : Nat}, L - p = k → p ≤ j → j < tE f T L p → j < L ∧ f (T j) = true := by
  intro k
  induction k with
  | zero =>
    intro p j hk hj h
    rw [tE_n (by omega)] at h
    omega
  | succ k ih =>
    intro p j hk hj h
    by_cases hh : p < L ∧ f (T p) = true
    · rw [tE_s hh.1 hh.2] at h
      rcases Nat.lt_or_ge p j with h1 | h1
      · exact ih (p := p + 1) (by omega) (by omega) h
      · have : j = p := by omega
        subst this
        exact hh
    · rw [tE_n hh] at h
      omega
def iBl (b : Nat) : Bool := decide (b = 32)
def iDg (b : Nat) : Bool := decide (48 ≤ b ∧ b ≤ 57)
def iLt (b : Nat) : Bool := decide (97 ≤ b ∧ b ≤ 122)
abbrev tS (T : Nat → Nat) (L p : Nat) : Nat := tE iBl T L p
def tI (f : Nat → Bool) (T : Nat → Nat) (L p : Nat) : Bool := decide (p < L ∧ f (T p) = true)
theorem tE_gt (h : tI f T L p = true) : p + 1 ≤ tE f T L p := by
  have h' := of_decide_eq_true h
  rw [tE_s h'.1 h'.2]
  exact tE_ge (by omega)
/-- the byte there, or -1 at the end -/
def tb (T : Nat → Nat) (L p : Nat) : Int32 := if p < L then nI (T p) else -1
def tV (T : Nat → Nat) (L : Nat) : Nat → Nat → Nat → Nat
  | 0, _, v => v
  | k + 1, p, v => if p < L ∧ iDg (T p) = true then tV T L k (p + 1) (min 100000 (v * 10 + T p - 48)) else v
/-- the number that begins at p -/
def tN (T : Nat → Nat) (L p : Nat) : Nat := tV T L (L - p) p 0
theorem tV_le : ∀ (k p v : Nat), v ≤ 100000 → tV T L k p v ≤ 100000
  | 0, _, _, h => h
  | k + 1, p, v, h => by
    simp only [tV]
    split
    · exact tV_le k (p + 1) _ (Nat.min_le_left _ _)
    · exact h
theorem tN_le : tN T L p ≤ 100000 := tV_le _ _ _ (by omega)
/-- the class's memory with place, beginning and number of its text -/
def tx (I : Nat → Nat → Int32) (p : Nat) (s v : Int32) : Nat → Nat → Int32 := fun i j => if i = 65 then (if j = 3 then nI p else if j = 4 then s else if j = 5 then v else I 65 j) else I i j
theorem tx2 : tx I p s v 65 2 = I 65 2 := rfl
theorem tx3 : tx I p s v 65 3 = nI p := rfl
theorem tx4 : tx I p s v 65 4 = s := rfl
theorem tx5 : tx I p s v 65 5 = v := rfl
theorem tx66 {k : Nat} : tx I p s v 66 k = I 66 k := rfl
theorem tx_n {i j : Nat} (h : i ≠ 65) : tx I p s v i j = I i j := by simp [tx, h]
theorem tx_nj {j : Nat} (h : j < 3 ∨ 5 < j) : tx I p s v 65 j = I 65 j := by
  simp only [tx, if_true]
  rw [if_neg (by omega), if_neg (by omega), if_neg (by omega)]
theorem tx_u3 {q : Nat} : ly_u (tx I p s v) 65 3 (nI q) = tx I q s v := by
  funext i j
  simp only [ly_u, tx]
  by_cases hi : i = 65 <;> by_cases hj : j = 3 <;> simp [hi, hj]
theorem tx_u3s {q : Nat} : ly_u (tx I p s v) 65 3 (nI q + 1) = tx I (q + 1) s v := by
  rw [← nI_succ]; exact tx_u3
theorem tx_u4 {x : Int32} : ly_u (tx I p s v) 65 4 x = tx I p x v := by
  funext i j
  simp only [ly_u, tx]
  by_cases hi : i = 65 <;> by_cases hj : j = 4 <;> simp [hi, hj]
theorem tx_u5 {x : Int32} : ly_u (tx I p s v) 65 5 x = tx I p s x := by
  funext i j
  simp only [ly_u, tx]
  by_cases hi : i = 65 <;> by_cases hj : j = 5 <;> simp [hi, hj]
theorem tx_u6 {x : Int32} : ly_u (tx I p s v) 65 6 x = tx (ly_u I 65 6 x) p s v := by
  funext i j
  simp only [ly_u, tx]
  by_cases hi : i = 65 <;> by_cases hj : j = 6 <;> simp [hi, hj]
theorem tx_u7 {x : Int32} : ly_u (tx I p s v) 65 7 x = tx (ly_u I 65 7 x) p s v := by
  funext i j
  simp only [ly_u, tx]
  by_cases hi : i = 65 <;> by_cases hj : j = 7 <;> simp [hi, hj]
theorem tx_un {a k : Nat} {x : Int32} (h : a ≠ 65) : ly_u (tx I p s v) a k x = tx (ly_u I a k x) p s v := by
  funext i j
  simp only [ly_u, tx]
  by_cases hi : i = 65
  · subst hi
    simp [Ne.symm h]
  · simp [hi]
theorem tx_in (h : I 65 3 = nI p) : I = tx I p (I 65 4) (I 65 5) := by
  funext i j
  simp only [tx]
  by_cases hi : i = 65
  · subst hi
    by_cases h3 : j = 3
    · subst h3; simp [h]
    · by_cases h4 : j = 4
      · subst h4; simp
      · by_cases h5 : j = 5
        · subst h5; simp
        · simp [h3, h4, h5]
  · simp [hi]
/-- the text of the class -/
def tB (I : Nat → Nat → Int32) (T : Nat → Nat) (L : Nat) : Prop := I 65 2 = nI L ∧ L ≤ 600 ∧ ∀ k, k < 600 → I 66 k = nI (T k) ∧ T k < 256
theorem tx_peek (h : ly c S) (hT : tB I T L) (hp : p ≤ L) : X7_peek 65 (c, w, S, tx I p s v, K) = pm_oI (tb T L (tS T L p)) (c, w, S, tx I (tS T L p) s v, K) := by
  obtain ⟨h2, hL, h6⟩ := hT
  unfold X7_peek
  refine ly_wh (fun p => L - p) (fun p => ((c, w, S, tx I p s v, K) : pmM)) (fun p R => p ≤ L → R = pm_oI (tb T L (tS T L p)) (c, w, S, tx I (tS T L p) s v, K)) ?_ pm_N p (by rw [pm_NE]; omega) hp
  intro again p hA hp
  unfold X7_peek_L0 X7_peek_j38 X7_peek_j62
  by_cases hl : p < L
  · obtain ⟨h7, h8⟩ := h6 p (by omega)
    by_cases hb : T p = 32
    · have e : tS T L p = tS T L (p + 1) := tE_s hl (by simp [iBl, hb])
      rw [e, ← hA (p + 1) (by omega) (by omega)]
      simp (disch := first | assumption | omega) only [ly_cI, ly_cIx, ly_cL, ly_cLx, ly_cV, ly_cVx, ly_bI, ly_bL, ly_n0n, ly_n1n, ly_nb, ly_bzn, ly_bon, nI_add, pk_mul, nI_leI, nI_ltI, nI_eq, if_pos, if_neg, ly_uE, ly_b1n, ly_b0n, if_true, if_false, eq_self, Bool.false_eq_true, Bool.true_eq_false, decide_true, decide_false, Nat.zero_add, nl_0, nl_1, nl_2, nl_3, nl_4, nl_5, nl_6, nl_7, nl_8, nl_9, nl_10, nl_11, nl_12, nl_13, nl_14, nl_15, nl_16, nl_17, nl_18, nl_19, nl_20, nl_21, nl_22, nl_23, nl_24, nl_25, nl_26, nl_27, nl_28, nl_29, nl_30, nl_31, nl_32, nl_40, nl_41, nl_42, nl_43, nl_44, nl_45, nl_47, nl_48, nl_57, nl_59, nl_60, nl_80, nl_91, nl_93, nl_96, nl_97, nl_99, nl_100, nl_122, nl_150, nl_160, nl_200, nl_208, nl_224, nl_238, nl_239, nl_255, nl_600, nl_999, nl_1000, nl_9999, nl_100000, nl_12345, nl_1103515245, nl_32767, lr_64_0, lr_64_1, lr_64_2, lr_64_3, lr_64_4, lr_64_5, lr_64_6, lr_64_7, lr_64_8, lr_64_9, lr_64_10, lr_64_11, lr_65_0, lr_67_0, lr_67_1, lr_67_2, lr_71_0, lr_71_1, lr_71_2, lr_75_0, lr_75_1, lr_75_2, lr_79_0, lr_79_1, lr_79_2, lr_83_0, lr_85_0, lr_87_0, lr_87_1, lr_87_2, lr_87_3, lr_87_4, lr_93_0, lr_93_1, lr_93_2, lr_93_3, lr_96_0, lr_96_1, lr_96_2, lr_96_3, lr_99_0, lr_99_1, lr_102_0, lr_102_1, lr_102_2, lr_102_3, lr_102_4, lr_102_5, lg_64, lp_64, lc_64, lg_65, lp_65, lc_65, lg_67, lp_67, lc_67, lg_71, lp_71, lc_71, lg_75, lp_75, lc_75, lg_79, lp_79, lc_79, lg_83, lp_83, lc_83, lg_85, lp_85, lc_85, lg_87, lp_87, lc_87, lg_93, lp_93, lc_93, lg_96, lp_96, lc_96, lg_99, lp_99, lc_99, lg_102, lp_102, lc_102, ld_1, ll_1, ld_2, ll_2, ld_33, ll_33, ld_34, ll_34, ld_35, ll_35, ld_36, ll_36, ld_37, ll_37, ld_38, ll_38, ld_39, ll_39, ld_40, ll_40, ld_41, ll_41, ld_42, ll_42, ld_43, ll_43, ld_44, ll_44, ld_45, ll_45, ld_46, ll_46, ld_47, ll_47, ld_48, ll_48, ld_49, ll_49, ld_50, ll_50, ld_51, ll_51, ld_66, ls_66, ll_66, ld_68, ls_68, ll_68, ld_69, ls_69, ll_69, ld_70, ls_70, ll_70, ld_72, ls_72, ll_72, ld_73, ls_73, ll_73, ld_74, ls_74, ll_74, ld_76, ls_76, ll_76, ld_77, ls_77, ll_77, ld_78, ls_78, ll_78, ld_80, ls_80, ll_80, ld_81, ls_81, ll_81, ld_82, ls_82, ll_82, ld_84, ls_84, ll_84, ld_86, ls_86, ll_86, ld_88, ls_88, ll_88, ld_89, ls_89, ll_89, ld_90, ls_90, ll_90, ld_91, ls_91, ll_91, ld_92, ls_92, ll_92, ld_94, ls_94, ll_94, ld_95, ls_95, ll_95, ld_97, ls_97, ll_97, ld_98, ls_98, ll_98, ld_100, ls_100, ll_100, ld_101, ls_101, ll_101, ld_103, ls_103, ld_104, ls_104, ld_105, ls_105, ll_105, ld_106, ls_106, ld_107, ls_107, ll_107, lk_0, lk_1, lk_2, lk_3, lk_g, lk_p, lk_c, lk_l1, lk_l2, lk_s1, lk_s2, tx2, tx3, tx4, tx5, tx66, tx_n, tx_u3, tx_u3s, tx_u4, tx_u5, tx_u6, tx_u7, tx_un, h2, h7]
    · have e : tS T L p = p := tE_n (by simp [iBl, hb])
      rw [e, show tb T L p = nI (T p) from if_pos hl]
      simp (disch := first | assumption | omega) only [ly_cI, ly_cIx, ly_cL, ly_cLx, ly_cV, ly_cVx, ly_bI, ly_bL, ly_n0n, ly_n1n, ly_nb, ly_bzn, ly_bon, nI_add, pk_mul, nI_leI, nI_ltI, nI_eq, if_pos, if_neg, ly_uE, ly_b1n, ly_b0n, if_true, if_false, eq_self, Bool.false_eq_true, Bool.true_eq_false, decide_true, decide_false, Nat.zero_add, nl_0, nl_1, nl_2, nl_3, nl_4, nl_5, nl_6, nl_7, nl_8, nl_9, nl_10, nl_11, nl_12, nl_13, nl_14, nl_15, nl_16, nl_17, nl_18, nl_19, nl_20, nl_21, nl_22, nl_23, nl_24, nl_25, nl_26, nl_27, nl_28, nl_29, nl_30, nl_31, nl_32, nl_40, nl_41, nl_42, nl_43, nl_44, nl_45, nl_47, nl_48, nl_57, nl_59, nl_60, nl_80, nl_91, nl_93, nl_96, nl_97, nl_99, nl_100, nl_122, nl_150, nl_160, nl_200, nl_208, nl_224, nl_238, nl_239, nl_255, nl_600, nl_999, nl_1000, nl_9999, nl_100000, nl_12345, nl_1103515245, nl_32767, lr_64_0, lr_64_1, lr_64_2, lr_64_3, lr_64_4, lr_64_5, lr_64_6, lr_64_7, lr_64_8, lr_64_9, lr_64_10, lr_64_11, lr_65_0, lr_67_0, lr_67_1, lr_67_2, lr_71_0, lr_71_1, lr_71_2, lr_75_0, lr_75_1, lr_75_2, lr_79_0, lr_79_1, lr_79_2, lr_83_0, lr_85_0, lr_87_0, lr_87_1, lr_87_2, lr_87_3, lr_87_4, lr_93_0, lr_93_1, lr_93_2, lr_93_3, lr_96_0, lr_96_1, lr_96_2, lr_96_3, lr_99_0, lr_99_1, lr_102_0, lr_102_1, lr_102_2, lr_102_3, lr_102_4, lr_102_5, lg_64, lp_64, lc_64, lg_65, lp_65, lc_65, lg_67, lp_67, lc_67, lg_71, lp_71, lc_71, lg_75, lp_75, lc_75, lg_79, lp_79, lc_79, lg_83, lp_83, lc_83, lg_85, lp_85, lc_85, lg_87, lp_87, lc_87, lg_93, lp_93, lc_93, lg_96, lp_96, lc_96, lg_99, lp_99, lc_99, lg_102, lp_102, lc_102, ld_1, ll_1, ld_2, ll_2, ld_33, ll_33, ld_34, ll_34, ld_35, ll_35, ld_36, ll_36, ld_37, ll_37, ld_38, ll_38, ld_39, ll_39, ld_40, ll_40, ld_41, ll_41, ld_42, ll_42, ld_43, ll_43, ld_44, ll_44, ld_45, ll_45, ld_46, ll_46, ld_47, ll_47, ld_48, ll_48, ld_49, ll_49, ld_50, ll_50, ld_51, ll_51, ld_66, ls_66, ll_66, ld_68, ls_68, ll_68, ld_69, ls_69, ll_69, ld_70, ls_70, ll_70, ld_72, ls_72, ll_72, ld_73, ls_73, ll_73, ld_74, ls_74, ll_74, ld_76, ls_76, ll_76, ld_77, ls_77, ll_77, ld_78, ls_78, ll_78, ld_80, ls_80, ll_80, ld_81, ls_81, ll_81, ld_82, ls_82, ll_82, ld_84, ls_84, ll_84, ld_86, ls_86, ll_86, ld_88, ls_88, ll_88, ld_89, ls_89, ll_89, ld_90, ls_90, ll_90, ld_91, ls_91, ll_91, ld_92, ls_92, ll_92, ld_94, ls_94, ll_94, ld_95, ls_95, ll_95, ld_97, ls_97, ll_97, ld_98, ls_98, ll_98, ld_100, ls_100, ll_100, ld_101, ls_101, ll_101, ld_103, ls_103, ld_104, ls_104, ld_105, ls_105, ll_105, ld_106, ls_106, ld_107, ls_107, ll_107, lk_0, lk_1, lk_2, lk_3, lk_g, lk_p, lk_c, lk_l1, lk_l2, lk_s1, lk_s2, tx2, tx3, tx4, tx5, tx66, tx_n, tx_u3, tx_u3s, tx_u4, tx_u5, tx_u6, tx_u7, tx_un, h2, h7]
  · have e : tS T L p = p := tE_n (by omega)
    rw [e, show tb T L p = -1 from if_neg hl]
    simp (disch := first | assumption | omega) only [ly_cI, ly_cIx, ly_cL, ly_cLx, ly_cV, ly_cVx, ly_bI, ly_bL, ly_n0n, ly_n1n, ly_nb, ly_bzn, ly_bon, nI_add, pk_mul, nI_leI, nI_ltI, nI_eq, if_pos, if_neg, ly_uE, ly_b1n, ly_b0n, if_true, if_false, eq_self, Bool.false_eq_true, Bool.true_eq_false, decide_true, decide_false, Nat.zero_add, nl_0, nl_1, nl_2, nl_3, nl_4, nl_5, nl_6, nl_7, nl_8, nl_9, nl_10, nl_11, nl_12, nl_13, nl_14, nl_15, nl_16, nl_17, nl_18, nl_19, nl_20, nl_21, nl_22, nl_23, nl_24, nl_25, nl_26, nl_27, nl_28, nl_29, nl_30, nl_31, nl_32, nl_40, nl_41, nl_42, nl_43, nl_44, nl_45, nl_47, nl_48, nl_57, nl_59, nl_60, nl_80, nl_91, nl_93, nl_96, nl_97, nl_99, nl_100, nl_122, nl_150, nl_160, nl_200, nl_208, nl_224, nl_238, nl_239, nl_255, nl_600, nl_999, nl_1000, nl_9999, nl_100000, nl_12345, nl_1103515245, nl_32767, lr_64_0, lr_64_1, lr_64_2, lr_64_3, lr_64_4, lr_64_5, lr_64_6, lr_64_7, lr_64_8, lr_64_9, lr_64_10, lr_64_11, lr_65_0, lr_67_0, lr_67_1, lr_67_2, lr_71_0, lr_71_1, lr_71_2, lr_75_0, lr_75_1, lr_75_2, lr_79_0, lr_79_1, lr_79_2, lr_83_0, lr_85_0, lr_87_0, lr_87_1, lr_87_2, lr_87_3, lr_87_4, lr_93_0, lr_93_1, lr_93_2, lr_93_3, lr_96_0, lr_96_1, lr_96_2, lr_96_3, lr_99_0, lr_99_1, lr_102_0, lr_102_1, lr_102_2, lr_102_3, lr_102_4, lr_102_5, lg_64, lp_64, lc_64, lg_65, lp_65, lc_65, lg_67, lp_67, lc_67, lg_71, lp_71, lc_71, lg_75, lp_75, lc_75, lg_79, lp_79, lc_79, lg_83, lp_83, lc_83, lg_85, lp_85, lc_85, lg_87, lp_87, lc_87, lg_93, lp_93, lc_93, lg_96, lp_96, lc_96, lg_99, lp_99, lc_99, lg_102, lp_102, lc_102, ld_1, ll_1, ld_2, ll_2, ld_33, ll_33, ld_34, ll_34, ld_35, ll_35, ld_36, ll_36, ld_37, ll_37, ld_38, ll_38, ld_39, ll_39, ld_40, ll_40, ld_41, ll_41, ld_42, ll_42, ld_43, ll_43, ld_44, ll_44, ld_45, ll_45, ld_46, ll_46, ld_47, ll_47, ld_48, ll_48, ld_49, ll_49, ld_50, ll_50, ld_51, ll_51, ld_66, ls_66, ll_66, ld_68, ls_68, ll_68, ld_69, ls_69, ll_69, ld_70, ls_70, ll_70, ld_72, ls_72, ll_72, ld_73, ls_73, ll_73, ld_74, ls_74, ll_74, ld_76, ls_76, ll_76, ld_77, ls_77, ll_77, ld_78, ls_78, ll_78, ld_80, ls_80, ll_80, ld_81, ls_81, ll_81, ld_82, ls_82, ll_82, ld_84, ls_84, ll_84, ld_86, ls_86, ll_86, ld_88, ls_88, ll_88, ld_89, ls_89, ll_89, ld_90, ls_90, ll_90, ld_91, ls_91, ll_91, ld_92, ls_92, ll_92, ld_94, ls_94, ll_94, ld_95, ls_95, ll_95, ld_97, ls_97, ll_97, ld_98, ls_98, ll_98, ld_100, ls_100, ll_100, ld_101, ls_101, ll_101, ld_103, ls_103, ld_104, ls_104, ld_105, ls_105, ll_105, ld_106, ls_106, ld_107, ls_107, ll_107, lk_0, lk_1, lk_2, lk_3, lk_g, lk_p, lk_c, lk_l1, lk_l2, lk_s1, lk_s2, tx2, tx3, tx4, tx5, tx66, tx_n, tx_u3, tx_u3s, tx_u4, tx_u5, tx_u6, tx_u7, tx_un, h2]
theorem tb_lt (h : p < L) : tb T L p = nI (T p) := if_pos h
theorem tb_ge (h : ¬ p < L) : tb T L p = -nI 1 := if_neg h
theorem tx_isAtDigit (h : ly c S) (hT : tB I T L) (hp : p ≤ L) : X7_isAtDigit 65 (c, w, S, tx I p s v, K) = pm_oI (ly_b (tI iDg T L (tS T L p))) (c, w, S, tx I (tS T L p) s v, K) := by
  unfold X7_isAtDigit X7_isAtDigit_j21 X7_isAtDigit_j22
  rw [lc_65 h, tx_peek h hT hp, ly_cI]
  have hq : tS T L p ≤ L := tE_lL hp
  generalize tS T L p = q at *
  unfold tI iDg
  by_cases hl : q < L
  · obtain ⟨h7, h8⟩ := hT.2.2 q (by have := hT.2.1; omega)
    rw [tb_lt hl]
    by_cases h1 : 48 ≤ T q
    · by_cases h3 : T q ≤ 57
      · simp (disch := first | assumption | omega) only [ly_cI, ly_cIx, ly_cL, ly_cLx, ly_cV, ly_cVx, ly_bI, ly_bL, ly_n0n, ly_n1n, ly_nb, ly_bzn, ly_bon, nI_add, pk_mul, nI_leI, nI_ltI, nI_eq, if_pos, if_neg, ly_uE, ly_b1n, ly_b0n, if_true, if_false, eq_self, Bool.false_eq_true, Bool.true_eq_false, decide_true, decide_false, Nat.zero_add, nl_0, nl_1, nl_2, nl_3, nl_4, nl_5, nl_6, nl_7, nl_8, nl_9, nl_10, nl_11, nl_12, nl_13, nl_14, nl_15, nl_16, nl_17, nl_18, nl_19, nl_20, nl_21, nl_22, nl_23, nl_24, nl_25, nl_26, nl_27, nl_28, nl_29, nl_30, nl_31, nl_32, nl_40, nl_41, nl_42, nl_43, nl_44, nl_45, nl_47, nl_48, nl_57, nl_59, nl_60, nl_80, nl_91, nl_93, nl_96, nl_97, nl_99, nl_100, nl_122, nl_150, nl_160, nl_200, nl_208, nl_224, nl_238, nl_239, nl_255, nl_600, nl_999, nl_1000, nl_9999, nl_100000, nl_12345, nl_1103515245, nl_32767]
        simp [hl, h1, h3, ly_b]
        rfl
      · simp (disch := first | assumption | omega) only [ly_cI, ly_cIx, ly_cL, ly_cLx, ly_cV, ly_cVx, ly_bI, ly_bL, ly_n0n, ly_n1n, ly_nb, ly_bzn, ly_bon, nI_add, pk_mul, nI_leI, nI_ltI, nI_eq, if_pos, if_neg, ly_uE, ly_b1n, ly_b0n, if_true, if_false, eq_self, Bool.false_eq_true, Bool.true_eq_false, decide_true, decide_false, Nat.zero_add, nl_0, nl_1, nl_2, nl_3, nl_4, nl_5, nl_6, nl_7, nl_8, nl_9, nl_10, nl_11, nl_12, nl_13, nl_14, nl_15, nl_16, nl_17, nl_18, nl_19, nl_20, nl_21, nl_22, nl_23, nl_24, nl_25, nl_26, nl_27, nl_28, nl_29, nl_30, nl_31, nl_32, nl_40, nl_41, nl_42, nl_43, nl_44, nl_45, nl_47, nl_48, nl_57, nl_59, nl_60, nl_80, nl_91, nl_93, nl_96, nl_97, nl_99, nl_100, nl_122, nl_150, nl_160, nl_200, nl_208, nl_224, nl_238, nl_239, nl_255, nl_600, nl_999, nl_1000, nl_9999, nl_100000, nl_12345, nl_1103515245, nl_32767]
        simp [hl, h1, h3, ly_b]
        rfl
    · simp (disch := first | assumption | omega) only [ly_cI, ly_cIx, ly_cL, ly_cLx, ly_cV, ly_cVx, ly_bI, ly_bL, ly_n0n, ly_n1n, ly_nb, ly_bzn, ly_bon, nI_add, pk_mul, nI_leI, nI_ltI, nI_eq, if_pos, if_neg, ly_uE, ly_b1n, ly_b0n, if_true, if_false, eq_self, Bool.false_eq_true, Bool.true_eq_false, decide_true, decide_false, Nat.zero_add, nl_0, nl_1, nl_2, nl_3, nl_4, nl_5, nl_6, nl_7, nl_8, nl_9, nl_10, nl_11, nl_12, nl_13, nl_14, nl_15, nl_16, nl_17, nl_18, nl_19, nl_20, nl_21, nl_22, nl_23, nl_24, nl_25, nl_26, nl_27, nl_28, nl_29, nl_30, nl_31, nl_32, nl_40, nl_41, nl_42, nl_43, nl_44, nl_45, nl_47, nl_48, nl_57, nl_59, nl_60, nl_80, nl_91, nl_93, nl_96, nl_97, nl_99, nl_100, nl_122, nl_150, nl_160, nl_200, nl_208, nl_224, nl_238, nl_239, nl_255, nl_600, nl_999, nl_1000, nl_9999, nl_100000, nl_12345, nl_1103515245, nl_32767]
      simp [hl, h1, ly_b]
      rfl
  · rw [tb_ge hl]
    simp (disch := first | assumption | omega) only [ly_cI, ly_cIx, ly_cL, ly_cLx, ly_cV, ly_cVx, ly_bI, ly_bL, ly_n0n, ly_n1n, ly_nb, ly_bzn, ly_bon, nI_add, pk_mul, nI_leI, nI_ltI, nI_eq, if_pos, if_neg, ly_uE, ly_b1n, ly_b0n, if_true, if_false, eq_self, Bool.false_eq_true, Bool.true_eq_false, decide_true, decide_false, Nat.zero_add, nl_0, nl_1, nl_2, nl_3, nl_4, nl_5, nl_6, nl_7, nl_8, nl_9, nl_10, nl_11, nl_12, nl_13, nl_14, nl_15, nl_16, nl_17, nl_18, nl_19, nl_20, nl_21, nl_22, nl_23, nl_24, nl_25, nl_26, nl_27, nl_28, nl_29, nl_30, nl_31, nl_32, nl_40, nl_41, nl_42, nl_43, nl_44, nl_45, nl_47, nl_48, nl_57, nl_59, nl_60, nl_80, nl_91, nl_93, nl_96, nl_97, nl_99, nl_100, nl_122, nl_150, nl_160, nl_200, nl_208, nl_224, nl_238, nl_239, nl_255, nl_600, nl_999, nl_1000, nl_9999, nl_100000, nl_12345, nl_1103515245, nl_32767, ng_eq, ng_lt, ng_le, ng_ltp, ng_lep, ng_plt, ng_eqp, ng_peq, ng_ple]
    simp [hl, ly_b]
    rfl
theorem tx_isAtLetter (h : ly c S) (hT : tB I T L) (hp : p ≤ L) : X7_isAtLetter 65 (c, w, S, tx I p s v, K) = pm_oI (ly_b (tI iLt T L (tS T L p))) (c, w, S, tx I (tS T L p) s v, K) := by
  unfold X7_isAtLetter X7_isAtLetter_j21 X7_isAtLetter_j22
  rw [lc_65 h, tx_peek h hT hp, ly_cI]
  have hq : tS T L p ≤ L := tE_lL hp
  generalize tS T L p = q at *
  unfold tI iLt
  by_cases hl : q < L
  · obtain ⟨h7, h8⟩ := hT.2.2 q (by have := hT.2.1; omega)
    rw [tb_lt hl]
    by_cases h1 : 97 ≤ T q
    · by_cases h3 : T q ≤ 122
      · simp (disch := first | assumption | omega) only [ly_cI, ly_cIx, ly_cL, ly_cLx, ly_cV, ly_cVx, ly_bI, ly_bL, ly_n0n, ly_n1n, ly_nb, ly_bzn, ly_bon, nI_add, pk_mul, nI_leI, nI_ltI, nI_eq, if_pos, if_neg, ly_uE, ly_b1n, ly_b0n, if_true, if_false, eq_self, Bool.false_eq_true, Bool.true_eq_false, decide_true, decide_false, Nat.zero_add, nl_0, nl_1, nl_2, nl_3, nl_4, nl_5, nl_6, nl_7, nl_8, nl_9, nl_10, nl_11, nl_12, nl_13, nl_14, nl_15, nl_16, nl_17, nl_18, nl_19, nl_20, nl_21, nl_22, nl_23, nl_24, nl_25, nl_26, nl_27, nl_28, nl_29, nl_30, nl_31, nl_32, nl_40, nl_41, nl_42, nl_43, nl_44, nl_45, nl_47, nl_48, nl_57, nl_59, nl_60, nl_80, nl_91, nl_93, nl_96, nl_97, nl_99, nl_100, nl_122, nl_150, nl_160, nl_200, nl_208, nl_224, nl_238, nl_239, nl_255, nl_600, nl_999, nl_1000, nl_9999, nl_100000, nl_12345, nl_1103515245, nl_32767]
        simp [hl, h1, h3, ly_b]
        rfl
      · simp (disch := first | assumption | omega) only [ly_cI, ly_cIx, ly_cL, ly_cLx, ly_cV, ly_cVx, ly_bI, ly_bL, ly_n0n, ly_n1n, ly_nb, ly_bzn, ly_bon, nI_add, pk_mul, nI_leI, nI_ltI, nI_eq, if_pos, if_neg, ly_uE, ly_b1n, ly_b0n, if_true, if_false, eq_self, Bool.false_eq_true, Bool.true_eq_false, decide_true, decide_false, Nat.zero_add, nl_0, nl_1, nl_2, nl_3, nl_4, nl_5, nl_6, nl_7, nl_8, nl_9, nl_10, nl_11, nl_12, nl_13, nl_14, nl_15, nl_16, nl_17, nl_18, nl_19, nl_20, nl_21, nl_22, nl_23, nl_24, nl_25, nl_26, nl_27, nl_28, nl_29, nl_30, nl_31, nl_32, nl_40, nl_41, nl_42, nl_43, nl_44, nl_45, nl_47, nl_48, nl_57, nl_59, nl_60, nl_80, nl_91, nl_93, nl_96, nl_97, nl_99, nl_100, nl_122, nl_150, nl_160, nl_200, nl_208, nl_224, nl_238, nl_239, nl_255, nl_600, nl_999, nl_1000, nl_9999, nl_100000, nl_12345, nl_1103515245, nl_32767]
        simp [hl, h1, h3, ly_b]
        rfl
    · simp (disch := first | assumption | omega) only [ly_cI, ly_cIx, ly_cL, ly_cLx, ly_cV, ly_cVx, ly_bI, ly_bL, ly_n0n, ly_n1n, ly_nb, ly_bzn, ly_bon, nI_add, pk_mul, nI_leI, nI_ltI, nI_eq, if_pos, if_neg, ly_uE, ly_b1n, ly_b0n, if_true, if_false, eq_self, Bool.false_eq_true, Bool.true_eq_false, decide_true, decide_false, Nat.zero_add, nl_0, nl_1, nl_2, nl_3, nl_4, nl_5, nl_6, nl_7, nl_8, nl_9, nl_10, nl_11, nl_12, nl_13, nl_14, nl_15, nl_16, nl_17, nl_18, nl_19, nl_20, nl_21, nl_22, nl_23, nl_24, nl_25, nl_26, nl_27, nl_28, nl_29, nl_30, nl_31, nl_32, nl_40, nl_41, nl_42, nl_43, nl_44, nl_45, nl_47, nl_48, nl_57, nl_59, nl_60, nl_80, nl_91, nl_93, nl_96, nl_97, nl_99, nl_100, nl_122, nl_150, nl_160, nl_200, nl_208, nl_224, nl_238, nl_239, nl_255, nl_600, nl_999, nl_1000, nl_9999, nl_100000, nl_12345, nl_1103515245, nl_32767]
      simp [hl, h1, ly_b]
      rfl
  · rw [tb_ge hl]
    simp (disch := first | assumption | omega) only [ly_cI, ly_cIx, ly_cL, ly_cLx, ly_cV, ly_cVx, ly_bI, ly_bL, ly_n0n, ly_n1n, ly_nb, ly_bzn, ly_bon, nI_add, pk_mul, nI_leI, nI_ltI, nI_eq, if_pos, if_neg, ly_uE, ly_b1n, ly_b0n, if_true, if_false, eq_self, Bool.false_eq_true, Bool.true_eq_false, decide_true, decide_false, Nat.zero_add, nl_0, nl_1, nl_2, nl_3, nl_4, nl_5, nl_6, nl_7, nl_8, nl_9, nl_10, nl_11, nl_12, nl_13, nl_14, nl_15, nl_16, nl_17, nl_18, nl_19, nl_20, nl_21, nl_22, nl_23, nl_24, nl_25, nl_26, nl_27, nl_28, nl_29, nl_30, nl_31, nl_32, nl_40, nl_41, nl_42, nl_43, nl_44, nl_45, nl_47, nl_48, nl_57, nl_59, nl_60, nl_80, nl_91, nl_93, nl_96, nl_97, nl_99, nl_100, nl_122, nl_150, nl_160, nl_200, nl_208, nl_224, nl_238, nl_239, nl_255, nl_600, nl_999, nl_1000, nl_9999, nl_100000, nl_12345, nl_1103515245, nl_32767, ng_eq, ng_lt, ng_le, ng_ltp, ng_lep, ng_plt, ng_eqp, ng_peq, ng_ple]
    simp [hl, ly_b]
    rfl
/-- the class's memory behind a fault -/
def tf (I : Nat → Nat → Int32) (k q : Nat) : Nat → Nat → Int32 := ly_u (ly_u I 65 6 (nI k)) 65 7 (nI q)
theorem tx_fail {k q : Nat} (h : ly c S) : X7_fail 65 (nI k) (nI q) (c, w, S, tx I p s v, K) = pm_oI 0 (c, w, S, tx (tf I k q) p s v, K) := by
  unfold X7_fail tf
  rw [lp_65 h, lp_65 h, tx_u6, tx_u7]
theorem tx_sign_ok {k : Nat} (h : ly c S) (hT : tB I T L) (hp : p ≤ L) (hk : tb T L (tS T L p) = nI k) : X7_takeSign 65 (nI k) (c, w, S, tx I p s v, K) = pm_oI 1 (c, w, S, tx I (tS T L p + 1) s v, K) := by
  unfold X7_takeSign
  rw [lc_65 h, tx_peek h hT hp, ly_cI, hk, if_pos (by first | decide | rfl), lg_65 h, tx3, lp_65 h, tx_u3s]
theorem tx_sign_no {k : Nat} (h : ly c S) (hT : tB I T L) (hp : p ≤ L) (hk : ¬ tb T L (tS T L p) = nI k) : X7_takeSign 65 (nI k) (c, w, S, tx I p s v, K) = pm_oI 0 (c, w, S, tx (tf I 1 (tS T L p)) (tS T L p) s v, K) := by
  unfold X7_takeSign
  rw [lc_65 h, tx_peek h hT hp, ly_cI, if_neg hk, lg_65 h, tx3, lc_65 h, nl_1, tx_fail h, ly_cI]
  rfl
theorem tx_numL {lo hi : Int32} {q : Nat} (h : ly c S) (hT : tB I T L) : ∀ (p u : Nat), p ≤ L → u ≤ 100000 → pm_lp pm_N (X7_takeNumber_L40 65 lo hi) (c, w, S, tx I p (nI q) (nI u), K) = X7_takeNumber_j121 65 lo hi (c, w, S, tx I (tE iDg T L p) (nI q) (nI (tV T L (L - p) p u)), K) := by
  obtain ⟨h2, hL, h6⟩ := hT
  intro p u hp hu
  refine ly_wh (fun (a : Nat × Nat) => L - a.1) (fun a => ((c, w, S, tx I a.1 (nI q) (nI a.2), K) : pmM)) (fun a R => a.1 ≤ L → a.2 ≤ 100000 → R = X7_takeNumber_j121 65 lo hi (c, w, S, tx I (tE iDg T L a.1) (nI q) (nI (tV T L (L - a.1) a.1 a.2)), K)) ?_ pm_N (p, u) (by rw [pm_NE]; simp only; omega) hp hu
  intro again a hA hp hu
  obtain ⟨p, u⟩ := a
  simp only at hA hp hu ⊢
  unfold X7_takeNumber_L40
  by_cases hl : p < L
  · obtain ⟨h7, h8⟩ := h6 p (by omega)
    by_cases hb : iDg (T p) = true
    · have hb' := of_decide_eq_true hb
      have e : tE iDg T L p = tE iDg T L (p + 1) := tE_s hl hb
      have e2 : tV T L (L - p) p u = tV T L (L - (p + 1)) (p + 1) (min 100000 (u * 10 + T p - 48)) := by
        rw [show L - p = (L - (p + 1)) + 1 by omega]
        simp only [tV]
        rw [if_pos ⟨hl, hb⟩]
      have e3 : (if nI (u * 10 + T p) - nI 48 < nI 100000 then nI (u * 10 + T p) - nI 48 else nI 100000) = nI (min 100000 (u * 10 + T p - 48)) := by
        rw [pk_sub (by omega)]
        by_cases h9 : u * 10 + T p - 48 < 100000
        · rw [if_pos (nI_lt h9 (by omega)), Nat.min_eq_right (by omega)]
        · rw [if_neg (nI_nlt (by omega) (by omega)), Nat.min_eq_left (by omega)]
      rw [e, e2, ← hA (p + 1, min 100000 (u * 10 + T p - 48)) (by simp only; omega) (by simp only; omega) (Nat.min_le_left _ _)]
      simp (disch := first | assumption | omega) only [ly_cI, ly_cIx, ly_cL, ly_cLx, ly_cV, ly_cVx, ly_bI, ly_bL, ly_n0n, ly_n1n, ly_nb, ly_bzn, ly_bon, nI_add, pk_mul, nI_leI, nI_ltI, nI_eq, if_pos, if_neg, ly_uE, ly_b1n, ly_b0n, if_true, if_false, eq_self, Bool.false_eq_true, Bool.true_eq_false, decide_true, decide_false, Nat.zero_add, nl_0, nl_1, nl_2, nl_3, nl_4, nl_5, nl_6, nl_7, nl_8, nl_9, nl_10, nl_11, nl_12, nl_13, nl_14, nl_15, nl_16, nl_17, nl_18, nl_19, nl_20, nl_21, nl_22, nl_23, nl_24, nl_25, nl_26, nl_27, nl_28, nl_29, nl_30, nl_31, nl_32, nl_40, nl_41, nl_42, nl_43, nl_44, nl_45, nl_47, nl_48, nl_57, nl_59, nl_60, nl_80, nl_91, nl_93, nl_96, nl_97, nl_99, nl_100, nl_122, nl_150, nl_160, nl_200, nl_208, nl_224, nl_238, nl_239, nl_255, nl_600, nl_999, nl_1000, nl_9999, nl_100000, nl_12345, nl_1103515245, nl_32767, lr_64_0, lr_64_1, lr_64_2, lr_64_3, lr_64_4, lr_64_5, lr_64_6, lr_64_7, lr_64_8, lr_64_9, lr_64_10, lr_64_11, lr_65_0, lr_67_0, lr_67_1, lr_67_2, lr_71_0, lr_71_1, lr_71_2, lr_75_0, lr_75_1, lr_75_2, lr_79_0, lr_79_1, lr_79_2, lr_83_0, lr_85_0, lr_87_0, lr_87_1, lr_87_2, lr_87_3, lr_87_4, lr_93_0, lr_93_1, lr_93_2, lr_93_3, lr_96_0, lr_96_1, lr_96_2, lr_96_3, lr_99_0, lr_99_1, lr_102_0, lr_102_1, lr_102_2, lr_102_3, lr_102_4, lr_102_5, lg_64, lp_64, lc_64, lg_65, lp_65, lc_65, lg_67, lp_67, lc_67, lg_71, lp_71, lc_71, lg_75, lp_75, lc_75, lg_79, lp_79, lc_79, lg_83, lp_83, lc_83, lg_85, lp_85, lc_85, lg_87, lp_87, lc_87, lg_93, lp_93, lc_93, lg_96, lp_96, lc_96, lg_99, lp_99, lc_99, lg_102, lp_102, lc_102, ld_1, ll_1, ld_2, ll_2, ld_33, ll_33, ld_34, ll_34, ld_35, ll_35, ld_36, ll_36, ld_37, ll_37, ld_38, ll_38, ld_39, ll_39, ld_40, ll_40, ld_41, ll_41, ld_42, ll_42, ld_43, ll_43, ld_44, ll_44, ld_45, ll_45, ld_46, ll_46, ld_47, ll_47, ld_48, ll_48, ld_49, ll_49, ld_50, ll_50, ld_51, ll_51, ld_66, ls_66, ll_66, ld_68, ls_68, ll_68, ld_69, ls_69, ll_69, ld_70, ls_70, ll_70, ld_72, ls_72, ll_72, ld_73, ls_73, ll_73, ld_74, ls_74, ll_74, ld_76, ls_76, ll_76, ld_77, ls_77, ll_77, ld_78, ls_78, ll_78, ld_80, ls_80, ll_80, ld_81, ls_81, ll_81, ld_82, ls_82, ll_82, ld_84, ls_84, ll_84, ld_86, ls_86, ll_86, ld_88, ls_88, ll_88, ld_89, ls_89, ll_89, ld_90, ls_90, ll_90, ld_91, ls_91, ll_91, ld_92, ls_92, ll_92, ld_94, ls_94, ll_94, ld_95, ls_95, ll_95, ld_97, ls_97, ll_97, ld_98, ls_98, ll_98, ld_100, ls_100, ll_100, ld_101, ls_101, ll_101, ld_103, ls_103, ld_104, ls_104, ld_105, ls_105, ll_105, ld_106, ls_106, ld_107, ls_107, ll_107, lk_0, lk_1, lk_2, lk_3, lk_g, lk_p, lk_c, lk_l1, lk_l2, lk_s1, lk_s2, tx2, tx3, tx4, tx5, tx66, tx_n, tx_u3, tx_u3s, tx_u4, tx_u5, tx_u6, tx_u7, tx_un, h2, h7, e3]
    · have hb' : ¬ (48 ≤ T p ∧ T p ≤ 57) := fun e => hb (decide_eq_true e)
      have e : tE iDg T L p = p := tE_n (fun e => hb e.2)
      have e2 : tV T L (L - p) p u = u := by
        rw [show L - p = (L - (p + 1)) + 1 by omega]
        simp only [tV]
        rw [if_neg (fun e => hb e.2)]
      rw [e, e2]
      by_cases h9 : T p < 48
      · simp (disch := first | assumption | omega) only [ly_cI, ly_cIx, ly_cL, ly_cLx, ly_cV, ly_cVx, ly_bI, ly_bL, ly_n0n, ly_n1n, ly_nb, ly_bzn, ly_bon, nI_add, pk_mul, nI_leI, nI_ltI, nI_eq, if_pos, if_neg, ly_uE, ly_b1n, ly_b0n, if_true, if_false, eq_self, Bool.false_eq_true, Bool.true_eq_false, decide_true, decide_false, Nat.zero_add, nl_0, nl_1, nl_2, nl_3, nl_4, nl_5, nl_6, nl_7, nl_8, nl_9, nl_10, nl_11, nl_12, nl_13, nl_14, nl_15, nl_16, nl_17, nl_18, nl_19, nl_20, nl_21, nl_22, nl_23, nl_24, nl_25, nl_26, nl_27, nl_28, nl_29, nl_30, nl_31, nl_32, nl_40, nl_41, nl_42, nl_43, nl_44, nl_45, nl_47, nl_48, nl_57, nl_59, nl_60, nl_80, nl_91, nl_93, nl_96, nl_97, nl_99, nl_100, nl_122, nl_150, nl_160, nl_200, nl_208, nl_224, nl_238, nl_239, nl_255, nl_600, nl_999, nl_1000, nl_9999, nl_100000, nl_12345, nl_1103515245, nl_32767, lr_64_0, lr_64_1, lr_64_2, lr_64_3, lr_64_4, lr_64_5, lr_64_6, lr_64_7, lr_64_8, lr_64_9, lr_64_10, lr_64_11, lr_65_0, lr_67_0, lr_67_1, lr_67_2, lr_71_0, lr_71_1, lr_71_2, lr_75_0, lr_75_1, lr_75_2, lr_79_0, lr_79_1, lr_79_2, lr_83_0, lr_85_0, lr_87_0, lr_87_1, lr_87_2, lr_87_3, lr_87_4, lr_93_0, lr_93_1, lr_93_2, lr_93_3, lr_96_0, lr_96_1, lr_96_2, lr_96_3, lr_99_0, lr_99_1, lr_102_0, lr_102_1, lr_102_2, lr_102_3, lr_102_4, lr_102_5, lg_64, lp_64, lc_64, lg_65, lp_65, lc_65, lg_67, lp_67, lc_67, lg_71, lp_71, lc_71, lg_75, lp_75, lc_75, lg_79, lp_79, lc_79, lg_83, lp_83, lc_83, lg_85, lp_85, lc_85, lg_87, lp_87, lc_87, lg_93, lp_93, lc_93, lg_96, lp_96, lc_96, lg_99, lp_99, lc_99, lg_102, lp_102, lc_102, ld_1, ll_1, ld_2, ll_2, ld_33, ll_33, ld_34, ll_34, ld_35, ll_35, ld_36, ll_36, ld_37, ll_37, ld_38, ll_38, ld_39, ll_39, ld_40, ll_40, ld_41, ll_41, ld_42, ll_42, ld_43, ll_43, ld_44, ll_44, ld_45, ll_45, ld_46, ll_46, ld_47, ll_47, ld_48, ll_48, ld_49, ll_49, ld_50, ll_50, ld_51, ll_51, ld_66, ls_66, ll_66, ld_68, ls_68, ll_68, ld_69, ls_69, ll_69, ld_70, ls_70, ll_70, ld_72, ls_72, ll_72, ld_73, ls_73, ll_73, ld_74, ls_74, ll_74, ld_76, ls_76, ll_76, ld_77, ls_77, ll_77, ld_78, ls_78, ll_78, ld_80, ls_80, ll_80, ld_81, ls_81, ll_81, ld_82, ls_82, ll_82, ld_84, ls_84, ll_84, ld_86, ls_86, ll_86, ld_88, ls_88, ll_88, ld_89, ls_89, ll_89, ld_90, ls_90, ll_90, ld_91, ls_91, ll_91, ld_92, ls_92, ll_92, ld_94, ls_94, ll_94, ld_95, ls_95, ll_95, ld_97, ls_97, ll_97, ld_98, ls_98, ll_98, ld_100, ls_100, ll_100, ld_101, ls_101, ll_101, ld_103, ls_103, ld_104, ls_104, ld_105, ls_105, ll_105, ld_106, ls_106, ld_107, ls_107, ll_107, lk_0, lk_1, lk_2, lk_3, lk_g, lk_p, lk_c, lk_l1, lk_l2, lk_s1, lk_s2, tx2, tx3, tx4, tx5, tx66, tx_n, tx_u3, tx_u3s, tx_u4, tx_u5, tx_u6, tx_u7, tx_un, h2, h7]
      · simp (disch := first | assumption | omega) only [ly_cI, ly_cIx, ly_cL, ly_cLx, ly_cV, ly_cVx, ly_bI, ly_bL, ly_n0n, ly_n1n, ly_nb, ly_bzn, ly_bon, nI_add, pk_mul, nI_leI, nI_ltI, nI_eq, if_pos, if_neg, ly_uE, ly_b1n, ly_b0n, if_true, if_false, eq_self, Bool.false_eq_true, Bool.true_eq_false, decide_true, decide_false, Nat.zero_add, nl_0, nl_1, nl_2, nl_3, nl_4, nl_5, nl_6, nl_7, nl_8, nl_9, nl_10, nl_11, nl_12, nl_13, nl_14, nl_15, nl_16, nl_17, nl_18, nl_19, nl_20, nl_21, nl_22, nl_23, nl_24, nl_25, nl_26, nl_27, nl_28, nl_29, nl_30, nl_31, nl_32, nl_40, nl_41, nl_42, nl_43, nl_44, nl_45, nl_47, nl_48, nl_57, nl_59, nl_60, nl_80, nl_91, nl_93, nl_96, nl_97, nl_99, nl_100, nl_122, nl_150, nl_160, nl_200, nl_208, nl_224, nl_238, nl_239, nl_255, nl_600, nl_999, nl_1000, nl_9999, nl_100000, nl_12345, nl_1103515245, nl_32767, lr_64_0, lr_64_1, lr_64_2, lr_64_3, lr_64_4, lr_64_5, lr_64_6, lr_64_7, lr_64_8, lr_64_9, lr_64_10, lr_64_11, lr_65_0, lr_67_0, lr_67_1, lr_67_2, lr_71_0, lr_71_1, lr_71_2, lr_75_0, lr_75_1, lr_75_2, lr_79_0, lr_79_1, lr_79_2, lr_83_0, lr_85_0, lr_87_0, lr_87_1, lr_87_2, lr_87_3, lr_87_4, lr_93_0, lr_93_1, lr_93_2, lr_93_3, lr_96_0, lr_96_1, lr_96_2, lr_96_3, lr_99_0, lr_99_1, lr_102_0, lr_102_1, lr_102_2, lr_102_3, lr_102_4, lr_102_5, lg_64, lp_64, lc_64, lg_65, lp_65, lc_65, lg_67, lp_67, lc_67, lg_71, lp_71, lc_71, lg_75, lp_75, lc_75, lg_79, lp_79, lc_79, lg_83, lp_83, lc_83, lg_85, lp_85, lc_85, lg_87, lp_87, lc_87, lg_93, lp_93, lc_93, lg_96, lp_96, lc_96, lg_99, lp_99, lc_99, lg_102, lp_102, lc_102, ld_1, ll_1, ld_2, ll_2, ld_33, ll_33, ld_34, ll_34, ld_35, ll_35, ld_36, ll_36, ld_37, ll_37, ld_38, ll_38, ld_39, ll_39, ld_40, ll_40, ld_41, ll_41, ld_42, ll_42, ld_43, ll_43, ld_44, ll_44, ld_45, ll_45, ld_46, ll_46, ld_47, ll_47, ld_48, ll_48, ld_49, ll_49, ld_50, ll_50, ld_51, ll_51, ld_66, ls_66, ll_66, ld_68, ls_68, ll_68, ld_69, ls_69, ll_69, ld_70, ls_70, ll_70, ld_72, ls_72, ll_72, ld_73, ls_73, ll_73, ld_74, ls_74, ll_74, ld_76, ls_76, ll_76, ld_77, ls_77, ll_77, ld_78, ls_78, ll_78, ld_80, ls_80, ll_80, ld_81, ls_81, ll_81, ld_82, ls_82, ll_82, ld_84, ls_84, ll_84, ld_86, ls_86, ll_86, ld_88, ls_88, ll_88, ld_89, ls_89, ll_89, ld_90, ls_90, ll_90, ld_91, ls_91, ll_91, ld_92, ls_92, ll_92, ld_94, ls_94, ll_94, ld_95, ls_95, ll_95, ld_97, ls_97, ll_97, ld_98, ls_98, ll_98, ld_100, ls_100, ll_100, ld_101, ls_101, ll_101, ld_103, ls_103, ld_104, ls_104, ld_105, ls_105, ll_105, ld_106, ls_106, ld_107, ls_107, ll_107, lk_0, lk_1, lk_2, lk_3, lk_g, lk_p, lk_c, lk_l1, lk_l2, lk_s1, lk_s2, tx2, tx3, tx4, tx5, tx66, tx_n, tx_u3, tx_u3s, tx_u4, tx_u5, tx_u6, tx_u7, tx_un, h2, h7]
  · have e : tE iDg T L p = p := tE_n (by omega)
    have e2 : tV T L (L - p) p u = u := by rw [show L - p = 0 by omega]; rfl
    rw [e, e2]
    simp (disch := first | assumption | omega) only [ly_cI, ly_cIx, ly_cL, ly_cLx, ly_cV, ly_cVx, ly_bI, ly_bL, ly_n0n, ly_n1n, ly_nb, ly_bzn, ly_bon, nI_add, pk_mul, nI_leI, nI_ltI, nI_eq, if_pos, if_neg, ly_uE, ly_b1n, ly_b0n, if_true, if_false, eq_self, Bool.false_eq_true, Bool.true_eq_false, decide_true, decide_false, Nat.zero_add, nl_0, nl_1, nl_2, nl_3, nl_4, nl_5, nl_6, nl_7, nl_8, nl_9, nl_10, nl_11, nl_12, nl_13, nl_14, nl_15, nl_16, nl_17, nl_18, nl_19, nl_20, nl_21, nl_22, nl_23, nl_24, nl_25, nl_26, nl_27, nl_28, nl_29, nl_30, nl_31, nl_32, nl_40, nl_41, nl_42, nl_43, nl_44, nl_45, nl_47, nl_48, nl_57, nl_59, nl_60, nl_80, nl_91, nl_93, nl_96, nl_97, nl_99, nl_100, nl_122, nl_150, nl_160, nl_200, nl_208, nl_224, nl_238, nl_239, nl_255, nl_600, nl_999, nl_1000, nl_9999, nl_100000, nl_12345, nl_1103515245, nl_32767, lr_64_0, lr_64_1, lr_64_2, lr_64_3, lr_64_4, lr_64_5, lr_64_6, lr_64_7, lr_64_8, lr_64_9, lr_64_10, lr_64_11, lr_65_0, lr_67_0, lr_67_1, lr_67_2, lr_71_0, lr_71_1, lr_71_2, lr_75_0, lr_75_1, lr_75_2, lr_79_0, lr_79_1, lr_79_2, lr_83_0, lr_85_0, lr_87_0, lr_87_1, lr_87_2, lr_87_3, lr_87_4, lr_93_0, lr_93_1, lr_93_2, lr_93_3, lr_96_0, lr_96_1, lr_96_2, lr_96_3, lr_99_0, lr_99_1, lr_102_0, lr_102_1, lr_102_2, lr_102_3, lr_102_4, lr_102_5, lg_64, lp_64, lc_64, lg_65, lp_65, lc_65, lg_67, lp_67, lc_67, lg_71, lp_71, lc_71, lg_75, lp_75, lc_75, lg_79, lp_79, lc_79, lg_83, lp_83, lc_83, lg_85, lp_85, lc_85, lg_87, lp_87, lc_87, lg_93, lp_93, lc_93, lg_96, lp_96, lc_96, lg_99, lp_99, lc_99, lg_102, lp_102, lc_102, ld_1, ll_1, ld_2, ll_2, ld_33, ll_33, ld_34, ll_34, ld_35, ll_35, ld_36, ll_36, ld_37, ll_37, ld_38, ll_38, ld_39, ll_39, ld_40, ll_40, ld_41, ll_41, ld_42, ll_42, ld_43, ll_43, ld_44, ll_44, ld_45, ll_45, ld_46, ll_46, ld_47, ll_47, ld_48, ll_48, ld_49, ll_49, ld_50, ll_50, ld_51, ll_51, ld_66, ls_66, ll_66, ld_68, ls_68, ll_68, ld_69, ls_69, ll_69, ld_70, ls_70, ll_70, ld_72, ls_72, ll_72, ld_73, ls_73, ll_73, ld_74, ls_74, ll_74, ld_76, ls_76, ll_76, ld_77, ls_77, ll_77, ld_78, ls_78, ll_78, ld_80, ls_80, ll_80, ld_81, ls_81, ll_81, ld_82, ls_82, ll_82, ld_84, ls_84, ll_84, ld_86, ls_86, ll_86, ld_88, ls_88, ll_88, ld_89, ls_89, ll_89, ld_90, ls_90, ll_90, ld_91, ls_91, ll_91, ld_92, ls_92, ll_92, ld_94, ls_94, ll_94, ld_95, ls_95, ll_95, ld_97, ls_97, ll_97, ld_98, ls_98, ll_98, ld_100, ls_100, ll_100, ld_101, ls_101, ll_101, ld_103, ls_103, ld_104, ls_104, ld_105, ls_105, ll_105, ld_106, ls_106, ld_107, ls_107, ll_107, lk_0, lk_1, lk_2, lk_3, lk_g, lk_p, lk_c, lk_l1, lk_l2, lk_s1, lk_s2, tx2, tx3, tx4, tx5, tx66, tx_n, tx_u3, tx_u3s, tx_u4, tx_u5, tx_u6, tx_u7, tx_un, h2]
/-- a digit, by two comparisons of what is peeked at -/
theorem tx_dg {A B : pmR} {u : Nat} (hT : tB I T L) : (if tb T L u < 48 then A else (if tb T L u ≤ 57 then B else A)) = if tI iDg T L u = true then B else A := by
  unfold tI iDg
  by_cases hl : u < L
  · obtain ⟨h7, h8⟩ := hT.2.2 u (by have := hT.2.1; omega)
    rw [tb_lt hl]
    by_cases h1 : 48 ≤ T u
    · rw [if_neg (show ¬ nI (T u) < 48 from nI_nlt (b := 48) h1 (by omega))]
      by_cases h3 : T u ≤ 57
      · rw [if_pos (show nI (T u) ≤ 57 from nI_le (b := 57) h3 (by omega)), if_pos (by simp [hl, h1, h3])]
      · rw [if_neg (show ¬ nI (T u) ≤ 57 from nI_ge (a := 57) (by omega) (by omega)), if_neg (by simp [hl, h1, h3])]
    · rw [if_pos (show nI (T u) < 48 from nI_lt (b := 48) (by omega) (by omega)), if_neg (by simp [hl, h1])]
  · rw [show tb T L u = -1 from if_neg hl, if_pos (show (-1 : Int32) < 48 by decide), if_neg (by simp [hl])]
theorem tx_num0 {lo hi : Int32} (h : ly c S) (hT : tB I T L) (hp : p ≤ L) (hd : tI iDg T L (tS T L p) = false) : X7_takeNumber 65 lo hi (c, w, S, tx I p s v, K) = pm_oI 0 (c, w, S, tx (tf I 1 (tS T L p)) (tS T L p) s v, K) := by
  unfold X7_takeNumber
  rw [lc_65 h, tx_peek h hT hp, ly_cI, tx_dg hT, hd, if_neg Bool.false_ne_true]
  unfold X7_takeNumber_j17
  rw [lg_65 h, tx3, lc_65 h, nl_1, tx_fail h, ly_cI]
  rfl
theorem tx_num1 {lo hi : Int32} (h : ly c S) (hT : tB I T L) (hp : p ≤ L) (hd : tI iDg T L (tS T L p) = true) (hr : lo ≤ nI (tN T L (tS T L p)) ∧ nI (tN T L (tS T L p)) ≤ hi) : X7_takeNumber 65 lo hi (c, w, S, tx I p s v, K) = pm_oI 1 (c, w, S, tx I (tE iDg T L (tS T L p)) (nI (tS T L p)) (nI (tN T L (tS T L p))), K) := by
  unfold X7_takeNumber
  rw [lc_65 h, tx_peek h hT hp, ly_cI, tx_dg hT, hd, if_pos rfl, lg_65 h, tx3, lp_65 h, tx_u4, lp_65 h, tx_u5, nl_0, tx_numL h hT _ _ (tE_lL hp) (by omega)]
  unfold X7_takeNumber_j121 X7_takeNumber_j149 X7_takeNumber_j154
  rw [lg_65 h, tx5]
  show (if nI (tN T L (tS T L p)) < lo then _ else _) = _
  rw [if_neg (Int32.not_lt.mpr hr.1), lg_65 h, tx5]
  show (if nI (tN T L (tS T L p)) ≤ hi then _ else _) = _
  rw [if_pos hr.2]
  rfl
theorem tx_num2 {lo hi : Int32} (h : ly c S) (hT : tB I T L) (hp : p ≤ L) (hd : tI iDg T L (tS T L p) = true) (hr : ¬ (lo ≤ nI (tN T L (tS T L p)) ∧ nI (tN T L (tS T L p)) ≤ hi)) : X7_takeNumber 65 lo hi (c, w, S, tx I p s v, K) = pm_oI 0 (c, w, S, tx (tf I 2 (tS T L p)) (tE iDg T L (tS T L p)) (nI (tS T L p)) (nI (tN T L (tS T L p))), K) := by
  unfold X7_takeNumber
  rw [lc_65 h, tx_peek h hT hp, ly_cI, tx_dg hT, hd, if_pos rfl, lg_65 h, tx3, lp_65 h, tx_u4, lp_65 h, tx_u5, nl_0, tx_numL h hT _ _ (tE_lL hp) (by omega)]
  have e : X7_takeNumber_j137 65 (c, w, S, tx I (tE iDg T L (tS T L p)) (nI (tS T L p)) (nI (tN T L (tS T L p))), K) = pm_oI 0 (c, w, S, tx (tf I 2 (tS T L p)) (tE iDg T L (tS T L p)) (nI (tS T L p)) (nI (tN T L (tS T L p))), K) := by
    unfold X7_takeNumber_j137 X7_takeNumber_j154
    rw [lg_65 h, tx4, lc_65 h, nl_2, tx_fail h, ly_cI, if_pos (by first | decide | rfl)]
    rfl
  unfold X7_takeNumber_j121
  rw [lg_65 h, tx5]
  show (if nI (tN T L (tS T L p)) < lo then _ else _) = _
  by_cases h1 : nI (tN T L (tS T L p)) < lo
  · rw [if_pos h1]; exact e
  · rw [if_neg h1, lg_65 h, tx5]
    show (if nI (tN T L (tS T L p)) ≤ hi then _ else _) = _
    rw [if_neg (fun h2 => hr ⟨Int32.not_lt.mp h1, h2⟩)]
    exact e
theorem tx_ltL {q : Int32} (h : ly c S) (hT : tB I T L) (hp : p ≤ L) : pm_lp pm_N (X7_takeLetters_L25 65) (c, w, S, tx I p q v, K) = pm_oI 1 (c, w, S, tx I (tE iLt T L p) q v, K) := by
  obtain ⟨h2, hL, h6⟩ := hT
  refine ly_wh (fun p => L - p) (fun p => ((c, w, S, tx I p q v, K) : pmM)) (fun p R => p ≤ L → R = pm_oI 1 (c, w, S, tx I (tE iLt T L p) q v, K)) ?_ pm_N p (by rw [pm_NE]; omega) hp
  intro again p hA hp
  unfold X7_takeLetters_L25 X7_takeLetters_j77
  by_cases hl : p < L
  · obtain ⟨h7, h8⟩ := h6 p (by omega)
    by_cases hb : iLt (T p) = true
    · have hb' := of_decide_eq_true hb
      have e : tE iLt T L p = tE iLt T L (p + 1) := tE_s hl hb
      rw [e, ← hA (p + 1) (by omega) (by omega)]
      simp (disch := first | assumption | omega) only [ly_cI, ly_cIx, ly_cL, ly_cLx, ly_cV, ly_cVx, ly_bI, ly_bL, ly_n0n, ly_n1n, ly_nb, ly_bzn, ly_bon, nI_add, pk_mul, nI_leI, nI_ltI, nI_eq, if_pos, if_neg, ly_uE, ly_b1n, ly_b0n, if_true, if_false, eq_self, Bool.false_eq_true, Bool.true_eq_false, decide_true, decide_false, Nat.zero_add, nl_0, nl_1, nl_2, nl_3, nl_4, nl_5, nl_6, nl_7, nl_8, nl_9, nl_10, nl_11, nl_12, nl_13, nl_14, nl_15, nl_16, nl_17, nl_18, nl_19, nl_20, nl_21, nl_22, nl_23, nl_24, nl_25, nl_26, nl_27, nl_28, nl_29, nl_30, nl_31, nl_32, nl_40, nl_41, nl_42, nl_43, nl_44, nl_45, nl_47, nl_48, nl_57, nl_59, nl_60, nl_80, nl_91, nl_93, nl_96, nl_97, nl_99, nl_100, nl_122, nl_150, nl_160, nl_200, nl_208, nl_224, nl_238, nl_239, nl_255, nl_600, nl_999, nl_1000, nl_9999, nl_100000, nl_12345, nl_1103515245, nl_32767, lr_64_0, lr_64_1, lr_64_2, lr_64_3, lr_64_4, lr_64_5, lr_64_6, lr_64_7, lr_64_8, lr_64_9, lr_64_10, lr_64_11, lr_65_0, lr_67_0, lr_67_1, lr_67_2, lr_71_0, lr_71_1, lr_71_2, lr_75_0, lr_75_1, lr_75_2, lr_79_0, lr_79_1, lr_79_2, lr_83_0, lr_85_0, lr_87_0, lr_87_1, lr_87_2, lr_87_3, lr_87_4, lr_93_0, lr_93_1, lr_93_2, lr_93_3, lr_96_0, lr_96_1, lr_96_2, lr_96_3, lr_99_0, lr_99_1, lr_102_0, lr_102_1, lr_102_2, lr_102_3, lr_102_4, lr_102_5, lg_64, lp_64, lc_64, lg_65, lp_65, lc_65, lg_67, lp_67, lc_67, lg_71, lp_71, lc_71, lg_75, lp_75, lc_75, lg_79, lp_79, lc_79, lg_83, lp_83, lc_83, lg_85, lp_85, lc_85, lg_87, lp_87, lc_87, lg_93, lp_93, lc_93, lg_96, lp_96, lc_96, lg_99, lp_99, lc_99, lg_102, lp_102, lc_102, ld_1, ll_1, ld_2, ll_2, ld_33, ll_33, ld_34, ll_34, ld_35, ll_35, ld_36, ll_36, ld_37, ll_37, ld_38, ll_38, ld_39, ll_39, ld_40, ll_40, ld_41, ll_41, ld_42, ll_42, ld_43, ll_43, ld_44, ll_44, ld_45, ll_45, ld_46, ll_46, ld_47, ll_47, ld_48, ll_48, ld_49, ll_49, ld_50, ll_50, ld_51, ll_51, ld_66, ls_66, ll_66, ld_68, ls_68, ll_68, ld_69, ls_69, ll_69, ld_70, ls_70, ll_70, ld_72, ls_72, ll_72, ld_73, ls_73, ll_73, ld_74, ls_74, ll_74, ld_76, ls_76, ll_76, ld_77, ls_77, ll_77, ld_78, ls_78, ll_78, ld_80, ls_80, ll_80, ld_81, ls_81, ll_81, ld_82, ls_82, ll_82, ld_84, ls_84, ll_84, ld_86, ls_86, ll_86, ld_88, ls_88, ll_88, ld_89, ls_89, ll_89, ld_90, ls_90, ll_90, ld_91, ls_91, ll_91, ld_92, ls_92, ll_92, ld_94, ls_94, ll_94, ld_95, ls_95, ll_95, ld_97, ls_97, ll_97, ld_98, ls_98, ll_98, ld_100, ls_100, ll_100, ld_101, ls_101, ll_101, ld_103, ls_103, ld_104, ls_104, ld_105, ls_105, ll_105, ld_106, ls_106, ld_107, ls_107, ll_107, lk_0, lk_1, lk_2, lk_3, lk_g, lk_p, lk_c, lk_l1, lk_l2, lk_s1, lk_s2, tx2, tx3, tx4, tx5, tx66, tx_n, tx_u3, tx_u3s, tx_u4, tx_u5, tx_u6, tx_u7, tx_un, h2, h7]
    · have hb' : ¬ (97 ≤ T p ∧ T p ≤ 122) := fun e => hb (decide_eq_true e)
      have e : tE iLt T L p = p := tE_n (fun e => hb e.2)
      rw [e]
      by_cases h9 : T p < 97
      · simp (disch := first | assumption | omega) only [ly_cI, ly_cIx, ly_cL, ly_cLx, ly_cV, ly_cVx, ly_bI, ly_bL, ly_n0n, ly_n1n, ly_nb, ly_bzn, ly_bon, nI_add, pk_mul, nI_leI, nI_ltI, nI_eq, if_pos, if_neg, ly_uE, ly_b1n, ly_b0n, if_true, if_false, eq_self, Bool.false_eq_true, Bool.true_eq_false, decide_true, decide_false, Nat.zero_add, nl_0, nl_1, nl_2, nl_3, nl_4, nl_5, nl_6, nl_7, nl_8, nl_9, nl_10, nl_11, nl_12, nl_13, nl_14, nl_15, nl_16, nl_17, nl_18, nl_19, nl_20, nl_21, nl_22, nl_23, nl_24, nl_25, nl_26, nl_27, nl_28, nl_29, nl_30, nl_31, nl_32, nl_40, nl_41, nl_42, nl_43, nl_44, nl_45, nl_47, nl_48, nl_57, nl_59, nl_60, nl_80, nl_91, nl_93, nl_96, nl_97, nl_99, nl_100, nl_122, nl_150, nl_160, nl_200, nl_208, nl_224, nl_238, nl_239, nl_255, nl_600, nl_999, nl_1000, nl_9999, nl_100000, nl_12345, nl_1103515245, nl_32767, lr_64_0, lr_64_1, lr_64_2, lr_64_3, lr_64_4, lr_64_5, lr_64_6, lr_64_7, lr_64_8, lr_64_9, lr_64_10, lr_64_11, lr_65_0, lr_67_0, lr_67_1, lr_67_2, lr_71_0, lr_71_1, lr_71_2, lr_75_0, lr_75_1, lr_75_2, lr_79_0, lr_79_1, lr_79_2, lr_83_0, lr_85_0, lr_87_0, lr_87_1, lr_87_2, lr_87_3, lr_87_4, lr_93_0, lr_93_1, lr_93_2, lr_93_3, lr_96_0, lr_96_1, lr_96_2, lr_96_3, lr_99_0, lr_99_1, lr_102_0, lr_102_1, lr_102_2, lr_102_3, lr_102_4, lr_102_5, lg_64, lp_64, lc_64, lg_65, lp_65, lc_65, lg_67, lp_67, lc_67, lg_71, lp_71, lc_71, lg_75, lp_75, lc_75, lg_79, lp_79, lc_79, lg_83, lp_83, lc_83, lg_85, lp_85, lc_85, lg_87, lp_87, lc_87, lg_93, lp_93, lc_93, lg_96, lp_96, lc_96, lg_99, lp_99, lc_99, lg_102, lp_102, lc_102, ld_1, ll_1, ld_2, ll_2, ld_33, ll_33, ld_34, ll_34, ld_35, ll_35, ld_36, ll_36, ld_37, ll_37, ld_38, ll_38, ld_39, ll_39, ld_40, ll_40, ld_41, ll_41, ld_42, ll_42, ld_43, ll_43, ld_44, ll_44, ld_45, ll_45, ld_46, ll_46, ld_47, ll_47, ld_48, ll_48, ld_49, ll_49, ld_50, ll_50, ld_51, ll_51, ld_66, ls_66, ll_66, ld_68, ls_68, ll_68, ld_69, ls_69, ll_69, ld_70, ls_70, ll_70, ld_72, ls_72, ll_72, ld_73, ls_73, ll_73, ld_74, ls_74, ll_74, ld_76, ls_76, ll_76, ld_77, ls_77, ll_77, ld_78, ls_78, ll_78, ld_80, ls_80, ll_80, ld_81, ls_81, ll_81, ld_82, ls_82, ll_82, ld_84, ls_84, ll_84, ld_86, ls_86, ll_86, ld_88, ls_88, ll_88, ld_89, ls_89, ll_89, ld_90, ls_90, ll_90, ld_91, ls_91, ll_91, ld_92, ls_92, ll_92, ld_94, ls_94, ll_94, ld_95, ls_95, ll_95, ld_97, ls_97, ll_97, ld_98, ls_98, ll_98, ld_100, ls_100, ll_100, ld_101, ls_101, ll_101, ld_103, ls_103, ld_104, ls_104, ld_105, ls_105, ll_105, ld_106, ls_106, ld_107, ls_107, ll_107, lk_0, lk_1, lk_2, lk_3, lk_g, lk_p, lk_c, lk_l1, lk_l2, lk_s1, lk_s2, tx2, tx3, tx4, tx5, tx66, tx_n, tx_u3, tx_u3s, tx_u4, tx_u5, tx_u6, tx_u7, tx_un, h2, h7]
      · simp (disch := first | assumption | omega) only [ly_cI, ly_cIx, ly_cL, ly_cLx, ly_cV, ly_cVx, ly_bI, ly_bL, ly_n0n, ly_n1n, ly_nb, ly_bzn, ly_bon, nI_add, pk_mul, nI_leI, nI_ltI, nI_eq, if_pos, if_neg, ly_uE, ly_b1n, ly_b0n, if_true, if_false, eq_self, Bool.false_eq_true, Bool.true_eq_false, decide_true, decide_false, Nat.zero_add, nl_0, nl_1, nl_2, nl_3, nl_4, nl_5, nl_6, nl_7, nl_8, nl_9, nl_10, nl_11, nl_12, nl_13, nl_14, nl_15, nl_16, nl_17, nl_18, nl_19, nl_20, nl_21, nl_22, nl_23, nl_24, nl_25, nl_26, nl_27, nl_28, nl_29, nl_30, nl_31, nl_32, nl_40, nl_41, nl_42, nl_43, nl_44, nl_45, nl_47, nl_48, nl_57, nl_59, nl_60, nl_80, nl_91, nl_93, nl_96, nl_97, nl_99, nl_100, nl_122, nl_150, nl_160, nl_200, nl_208, nl_224, nl_238, nl_239, nl_255, nl_600, nl_999, nl_1000, nl_9999, nl_100000, nl_12345, nl_1103515245, nl_32767, lr_64_0, lr_64_1, lr_64_2, lr_64_3, lr_64_4, lr_64_5, lr_64_6, lr_64_7, lr_64_8, lr_64_9, lr_64_10, lr_64_11, lr_65_0, lr_67_0, lr_67_1, lr_67_2, lr_71_0, lr_71_1, lr_71_2, lr_75_0, lr_75_1, lr_75_2, lr_79_0, lr_79_1, lr_79_2, lr_83_0, lr_85_0, lr_87_0, lr_87_1, lr_87_2, lr_87_3, lr_87_4, lr_93_0, lr_93_1, lr_93_2, lr_93_3, lr_96_0, lr_96_1, lr_96_2, lr_96_3, lr_99_0, lr_99_1, lr_102_0, lr_102_1, lr_102_2, lr_102_3, lr_102_4, lr_102_5, lg_64, lp_64, lc_64, lg_65, lp_65, lc_65, lg_67, lp_67, lc_67, lg_71, lp_71, lc_71, lg_75, lp_75, lc_75, lg_79, lp_79, lc_79, lg_83, lp_83, lc_83, lg_85, lp_85, lc_85, lg_87, lp_87, lc_87, lg_93, lp_93, lc_93, lg_96, lp_96, lc_96, lg_99, lp_99, lc_99, lg_102, lp_102, lc_102, ld_1, ll_1, ld_2, ll_2, ld_33, ll_33, ld_34, ll_34, ld_35, ll_35, ld_36, ll_36, ld_37, ll_37, ld_38, ll_38, ld_39, ll_39, ld_40, ll_40, ld_41, ll_41, ld_42, ll_42, ld_43, ll_43, ld_44, ll_44, ld_45, ll_45, ld_46, ll_46, ld_47, ll_47, ld_48, ll_48, ld_49, ll_49, ld_50, ll_50, ld_51, ll_51, ld_66, ls_66, ll_66, ld_68, ls_68, ll_68, ld_69, ls_69, ll_69, ld_70, ls_70, ll_70, ld_72, ls_72, ll_72, ld_73, ls_73, ll_73, ld_74, ls_74, ll_74, ld_76, ls_76, ll_76, ld_77, ls_77, ll_77, ld_78, ls_78, ll_78, ld_80, ls_80, ll_80, ld_81, ls_81, ll_81, ld_82, ls_82, ll_82, ld_84, ls_84, ll_84, ld_86, ls_86, ll_86, ld_88, ls_88, ll_88, ld_89, ls_89, ll_89, ld_90, ls_90, ll_90, ld_91, ls_91, ll_91, ld_92, ls_92, ll_92, ld_94, ls_94, ll_94, ld_95, ls_95, ll_95, ld_97, ls_97, ll_97, ld_98, ls_98, ll_98, ld_100, ls_100, ll_100, ld_101, ls_101, ll_101, ld_103, ls_103, ld_104, ls_104, ld_105, ls_105, ll_105, ld_106, ls_106, ld_107, ls_107, ll_107, lk_0, lk_1, lk_2, lk_3, lk_g, lk_p, lk_c, lk_l1, lk_l2, lk_s1, lk_s2, tx2, tx3, tx4, tx5, tx66, tx_n, tx_u3, tx_u3s, tx_u4, tx_u5, tx_u6, tx_u7, tx_un, h2, h7]
  · have e : tE iLt T L p = p := tE_n (by omega)
    rw [e]
    simp (disch := first | assumption | omega) only [ly_cI, ly_cIx, ly_cL, ly_cLx, ly_cV, ly_cVx, ly_bI, ly_bL, ly_n0n, ly_n1n, ly_nb, ly_bzn, ly_bon, nI_add, pk_mul, nI_leI, nI_ltI, nI_eq, if_pos, if_neg, ly_uE, ly_b1n, ly_b0n, if_true, if_false, eq_self, Bool.false_eq_true, Bool.true_eq_false, decide_true, decide_false, Nat.zero_add, nl_0, nl_1, nl_2, nl_3, nl_4, nl_5, nl_6, nl_7, nl_8, nl_9, nl_10, nl_11, nl_12, nl_13, nl_14, nl_15, nl_16, nl_17, nl_18, nl_19, nl_20, nl_21, nl_22, nl_23, nl_24, nl_25, nl_26, nl_27, nl_28, nl_29, nl_30, nl_31, nl_32, nl_40, nl_41, nl_42, nl_43, nl_44, nl_45, nl_47, nl_48, nl_57, nl_59, nl_60, nl_80, nl_91, nl_93, nl_96, nl_97, nl_99, nl_100, nl_122, nl_150, nl_160, nl_200, nl_208, nl_224, nl_238, nl_239, nl_255, nl_600, nl_999, nl_1000, nl_9999, nl_100000, nl_12345, nl_1103515245, nl_32767, lr_64_0, lr_64_1, lr_64_2, lr_64_3, lr_64_4, lr_64_5, lr_64_6, lr_64_7, lr_64_8, lr_64_9, lr_64_10, lr_64_11, lr_65_0, lr_67_0, lr_67_1, lr_67_2, lr_71_0, lr_71_1, lr_71_2, lr_75_0, lr_75_1, lr_75_2, lr_79_0, lr_79_1, lr_79_2, lr_83_0, lr_85_0, lr_87_0, lr_87_1, lr_87_2, lr_87_3, lr_87_4, lr_93_0, lr_93_1, lr_93_2, lr_93_3, lr_96_0, lr_96_1, lr_96_2, lr_96_3, lr_99_0, lr_99_1, lr_102_0, lr_102_1, lr_102_2, lr_102_3, lr_102_4, lr_102_5, lg_64, lp_64, lc_64, lg_65, lp_65, lc_65, lg_67, lp_67, lc_67, lg_71, lp_71, lc_71, lg_75, lp_75, lc_75, lg_79, lp_79, lc_79, lg_83, lp_83, lc_83, lg_85, lp_85, lc_85, lg_87, lp_87, lc_87, lg_93, lp_93, lc_93, lg_96, lp_96, lc_96, lg_99, lp_99, lc_99, lg_102, lp_102, lc_102, ld_1, ll_1, ld_2, ll_2, ld_33, ll_33, ld_34, ll_34, ld_35, ll_35, ld_36, ll_36, ld_37, ll_37, ld_38, ll_38, ld_39, ll_39, ld_40, ll_40, ld_41, ll_41, ld_42, ll_42, ld_43, ll_43, ld_44, ll_44, ld_45, ll_45, ld_46, ll_46, ld_47, ll_47, ld_48, ll_48, ld_49, ll_49, ld_50, ll_50, ld_51, ll_51, ld_66, ls_66, ll_66, ld_68, ls_68, ll_68, ld_69, ls_69, ll_69, ld_70, ls_70, ll_70, ld_72, ls_72, ll_72, ld_73, ls_73, ll_73, ld_74, ls_74, ll_74, ld_76, ls_76, ll_76, ld_77, ls_77, ll_77, ld_78, ls_78, ll_78, ld_80, ls_80, ll_80, ld_81, ls_81, ll_81, ld_82, ls_82, ll_82, ld_84, ls_84, ll_84, ld_86, ls_86, ll_86, ld_88, ls_88, ll_88, ld_89, ls_89, ll_89, ld_90, ls_90, ll_90, ld_91, ls_91, ll_91, ld_92, ls_92, ll_92, ld_94, ls_94, ll_94, ld_95, ls_95, ll_95, ld_97, ls_97, ll_97, ld_98, ls_98, ll_98, ld_100, ls_100, ll_100, ld_101, ls_101, ll_101, ld_103, ls_103, ld_104, ls_104, ld_105, ls_105, ll_105, ld_106, ls_106, ld_107, ls_107, ll_107, lk_0, lk_1, lk_2, lk_3, lk_g, lk_p, lk_c, lk_l1, lk_l2, lk_s1, lk_s2, tx2, tx3, tx4, tx5, tx66, tx_n, tx_u3, tx_u3s, tx_u4, tx_u5, tx_u6, tx_u7, tx_un, h2]
theorem tx_let0 (h : ly c S) (hT : tB I T L) (hp : p ≤ L) (hd : tI iLt T L (tS T L p) = false) : X7_takeLetters 65 (c, w, S, tx I p s v, K) = pm_oI 0 (c, w, S, tx (tf I 1 (tS T L p)) (tS T L p) s v, K) := by
  unfold X7_takeLetters
  rw [lc_65 h, tx_isAtLetter h hT hp, ly_cI, hd, if_pos (by first | decide | rfl), lg_65 h, tx3, lc_65 h, nl_1, tx_fail h, ly_cI]
  rfl
theorem tx_let1 (h : ly c S) (hT : tB I T L) (hp : p ≤ L) (hd : tI iLt T L (tS T L p) = true) : X7_takeLetters 65 (c, w, S, tx I p s v, K) = pm_oI 1 (c, w, S, tx I (tE iLt T L (tS T L p)) (nI (tS T L p)) v, K) := by
  unfold X7_takeLetters
  rw [lc_65 h, tx_isAtLetter h hT hp, ly_cI, hd, if_neg (by decide), lg_65 h, tx3, lp_65 h, tx_u4, tx_ltL h hT (tE_lL hp)]
end TXC
