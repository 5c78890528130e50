/-! what a stroke costs by the law: class and model -/
section LWW
variable {c w : Nat} {S : Nat → pmS} {I I1 : Nat → Nat → Int32} {K : Nat → Nat → Int64}
/-- nothing but one cell's ints differ -/
def but (a : Nat) (I I1 : Nat → Nat → Int32) : Prop := ∀ i j, i ≠ a → I1 i j = I i j
theorem but_r {a : Nat} : but a I I := fun _ _ _ => rfl
theorem but_u {a k : Nat} {v : Int32} (h : but a I I1) : but a I (ly_u I1 a k v) := by
  intro i j hi
  rw [ly_uE, if_neg (by rintro ⟨rfl, -⟩; exact hi rfl)]
  exact h i j hi
/-- no less than nothing, no more than the most -/
def lw_cap (x : Int32) : Int32 := if (0 : Int32) < (if x < 60 then x else 60) then (if x < 60 then x else 60) else 0
theorem ld_i0 {kd b : Nat} {m : pmM} {f : Int32 → pmR} : pm_ld kd b 0 m f = pm_ld kd b (nI 0) m f := rfl
theorem lw_worked {m : Nat} {y z kn : Nat → Int32} (h : ly c S) (hm : m ≤ 150) (h0 : 0 < m) (h3 : I 75 3 = nI m) (hp : ∀ k, k < m → jl_p (I 76 k) (y k) (z k)) (hh : jl_h y m = some 1) (hk : ∀ j, j < 7 → I 78 j = kn j) :
    ∃ I1, pm_lp pm_N (X1_priceFor_L60 75) (0, 0, (c, w, S, I, K)) = pm_oI (lw_cap ((lw_st y z kn m).1 0)) (c, w, S, I1, K) ∧ but 77 I I1 := by
  refine ly_loop (fun k (a : (Nat → Nat → Int32) × Nat) => ((nI a.2, nI k, (c, w, S, a.1, K)) : Int32 × Int32 × pmM)) m (fun k a => but 77 I a.1 ∧ jl_h y k = some a.2 ∧ ∀ j, j < a.2 → a.1 77 j = (lw_st y z kn k).1 j) (fun R => ∃ I1, R = pm_oI (lw_cap ((lw_st y z kn m).1 0)) (c, w, S, I1, K) ∧ but 77 I I1) ?_ ?_ pm_N 0 (I, 0) ⟨but_r, rfl, fun j hj => by omega⟩ (by omega) (by rw [pm_NE]; omega)
  · intro again k a hkm hQ hn
    obtain ⟨A, t⟩ := a
    obtain ⟨hb, ht, hs⟩ := hQ
    simp only at hb ht hs
    obtain ⟨u, hu⟩ := lw_pre hh (k + 1) (by omega)
    obtain ⟨hst, ht22⟩ := lw_h (z := z) (kn := kn) ht
    have e3 : A 75 3 = nI m := (hb 75 3 (by omega)).trans h3
    have e6 : A 76 k = I 76 k := hb 76 k (by omega)
    unfold X1_priceFor_L60
    rcases hp k hkm with ⟨v, hv, x1, y1, z1⟩ | ⟨v, hv, x1, y1, z1⟩ | ⟨v, hv, hv8, x1, y1⟩
    · obtain ⟨ht2, hu2⟩ := jl_n1 ht hu (Or.inl y1)
      have := hn (ly_u A 77 t (nI v), t + 1) ⟨but_u hb, by rw [hu, hu2], fun j hj => by
        rw [lw_s0 hst y1]
        simp only [rup, z1, ly_uE]
        by_cases hjt : j = t
        · simp [hjt]
        · simp only [hjt, and_false, if_false]
          exact hs j (by simp only at hj; omega)⟩
      unfold X1_priceFor_j127 X1_priceFor_j166 X1_priceFor_j170
      simp (disch := first | assumption | omega) only [ly_cI, ly_cIx, ly_cL, ly_cLx, ly_cV, ly_cVx, ly_bI, ly_bL, ly_n0n, ly_n1n, ly_nb, ly_bzn, ly_bon, nI_add, pk_mul, nI_leI, nI_ltI, nI_eq, if_pos, if_neg, ly_uE, ly_b1n, ly_b0n, if_true, if_false, eq_self, Bool.false_eq_true, Bool.true_eq_false, decide_true, decide_false, Nat.zero_add, nl_0, nl_1, nl_2, nl_3, nl_4, nl_5, nl_6, nl_7, nl_8, nl_9, nl_10, nl_11, nl_12, nl_13, nl_14, nl_15, nl_16, nl_17, nl_18, nl_19, nl_20, nl_21, nl_22, nl_23, nl_24, nl_25, nl_26, nl_27, nl_28, nl_29, nl_30, nl_31, nl_32, nl_40, nl_41, nl_42, nl_43, nl_44, nl_45, nl_47, nl_48, nl_57, nl_59, nl_60, nl_80, nl_91, nl_93, nl_96, nl_97, nl_99, nl_100, nl_122, nl_150, nl_160, nl_200, nl_208, nl_224, nl_238, nl_239, nl_255, nl_600, nl_999, nl_1000, nl_9999, nl_100000, nl_12345, nl_1103515245, nl_32767, lr_64_0, lr_64_1, lr_64_2, lr_64_3, lr_64_4, lr_64_5, lr_64_6, lr_64_7, lr_64_8, lr_64_9, lr_64_10, lr_64_11, lr_65_0, lr_67_0, lr_67_1, lr_67_2, lr_71_0, lr_71_1, lr_71_2, lr_75_0, lr_75_1, lr_75_2, lr_79_0, lr_79_1, lr_79_2, lr_83_0, lr_85_0, lr_87_0, lr_87_1, lr_87_2, lr_87_3, lr_87_4, lr_93_0, lr_93_1, lr_93_2, lr_93_3, lr_96_0, lr_96_1, lr_96_2, lr_96_3, lr_99_0, lr_99_1, lr_102_0, lr_102_1, lr_102_2, lr_102_3, lr_102_4, lr_102_5, lg_64, lp_64, lc_64, lg_65, lp_65, lc_65, lg_67, lp_67, lc_67, lg_71, lp_71, lc_71, lg_75, lp_75, lc_75, lg_79, lp_79, lc_79, lg_83, lp_83, lc_83, lg_85, lp_85, lc_85, lg_87, lp_87, lc_87, lg_93, lp_93, lc_93, lg_96, lp_96, lc_96, lg_99, lp_99, lc_99, lg_102, lp_102, lc_102, ld_1, ll_1, ld_2, ll_2, ld_33, ll_33, ld_34, ll_34, ld_35, ll_35, ld_36, ll_36, ld_37, ll_37, ld_38, ll_38, ld_39, ll_39, ld_40, ll_40, ld_41, ll_41, ld_42, ll_42, ld_43, ll_43, ld_44, ll_44, ld_45, ll_45, ld_46, ll_46, ld_47, ll_47, ld_48, ll_48, ld_49, ll_49, ld_50, ll_50, ld_51, ll_51, ld_66, ls_66, ll_66, ld_68, ls_68, ll_68, ld_69, ls_69, ll_69, ld_70, ls_70, ll_70, ld_72, ls_72, ll_72, ld_73, ls_73, ll_73, ld_74, ls_74, ll_74, ld_76, ls_76, ll_76, ld_77, ls_77, ll_77, ld_78, ls_78, ll_78, ld_80, ls_80, ll_80, ld_81, ls_81, ll_81, ld_82, ls_82, ll_82, ld_84, ls_84, ll_84, ld_86, ls_86, ll_86, ld_88, ls_88, ll_88, ld_89, ls_89, ll_89, ld_90, ls_90, ll_90, ld_91, ls_91, ll_91, ld_92, ls_92, ll_92, ld_94, ls_94, ll_94, ld_95, ls_95, ll_95, ld_97, ls_97, ll_97, ld_98, ls_98, ll_98, ld_100, ls_100, ll_100, ld_101, ls_101, ll_101, ld_103, ls_103, ld_104, ls_104, ld_105, ls_105, ll_105, ld_106, ls_106, ld_107, ls_107, ll_107, lk_0, lk_1, lk_2, lk_3, lk_g, lk_p, lk_c, lk_l1, lk_l2, lk_s1, lk_s2, e3, e6, x1, ng_lep, ng_plt]
      exact this
    · obtain ⟨ht2, hu2⟩ := jl_n1 ht hu (Or.inr y1)
      have e8 : A 78 v = kn v := (hb 78 v (by omega)).trans (hk v hv)
      have := hn (ly_u A 77 t (kn v), t + 1) ⟨but_u hb, by rw [hu, hu2], fun j hj => by
        rw [lw_s1 hst y1]
        simp only [rup, z1, ly_uE, nI_clamp (show v < 2 ^ 31 by omega)]
        by_cases hjt : j = t
        · simp [hjt]
        · simp only [hjt, and_false, if_false]
          exact hs j (by simp only at hj; omega)⟩
      unfold X1_priceFor_j127 X1_priceFor_j166 X1_priceFor_j170
      simp (disch := first | assumption | omega) only [ly_cI, ly_cIx, ly_cL, ly_cLx, ly_cV, ly_cVx, ly_bI, ly_bL, ly_n0n, ly_n1n, ly_nb, ly_bzn, ly_bon, nI_add, pk_mul, nI_leI, nI_ltI, nI_eq, if_pos, if_neg, ly_uE, ly_b1n, ly_b0n, if_true, if_false, eq_self, Bool.false_eq_true, Bool.true_eq_false, decide_true, decide_false, Nat.zero_add, nl_0, nl_1, nl_2, nl_3, nl_4, nl_5, nl_6, nl_7, nl_8, nl_9, nl_10, nl_11, nl_12, nl_13, nl_14, nl_15, nl_16, nl_17, nl_18, nl_19, nl_20, nl_21, nl_22, nl_23, nl_24, nl_25, nl_26, nl_27, nl_28, nl_29, nl_30, nl_31, nl_32, nl_40, nl_41, nl_42, nl_43, nl_44, nl_45, nl_47, nl_48, nl_57, nl_59, nl_60, nl_80, nl_91, nl_93, nl_96, nl_97, nl_99, nl_100, nl_122, nl_150, nl_160, nl_200, nl_208, nl_224, nl_238, nl_239, nl_255, nl_600, nl_999, nl_1000, nl_9999, nl_100000, nl_12345, nl_1103515245, nl_32767, lr_64_0, lr_64_1, lr_64_2, lr_64_3, lr_64_4, lr_64_5, lr_64_6, lr_64_7, lr_64_8, lr_64_9, lr_64_10, lr_64_11, lr_65_0, lr_67_0, lr_67_1, lr_67_2, lr_71_0, lr_71_1, lr_71_2, lr_75_0, lr_75_1, lr_75_2, lr_79_0, lr_79_1, lr_79_2, lr_83_0, lr_85_0, lr_87_0, lr_87_1, lr_87_2, lr_87_3, lr_87_4, lr_93_0, lr_93_1, lr_93_2, lr_93_3, lr_96_0, lr_96_1, lr_96_2, lr_96_3, lr_99_0, lr_99_1, lr_102_0, lr_102_1, lr_102_2, lr_102_3, lr_102_4, lr_102_5, lg_64, lp_64, lc_64, lg_65, lp_65, lc_65, lg_67, lp_67, lc_67, lg_71, lp_71, lc_71, lg_75, lp_75, lc_75, lg_79, lp_79, lc_79, lg_83, lp_83, lc_83, lg_85, lp_85, lc_85, lg_87, lp_87, lc_87, lg_93, lp_93, lc_93, lg_96, lp_96, lc_96, lg_99, lp_99, lc_99, lg_102, lp_102, lc_102, ld_1, ll_1, ld_2, ll_2, ld_33, ll_33, ld_34, ll_34, ld_35, ll_35, ld_36, ll_36, ld_37, ll_37, ld_38, ll_38, ld_39, ll_39, ld_40, ll_40, ld_41, ll_41, ld_42, ll_42, ld_43, ll_43, ld_44, ll_44, ld_45, ll_45, ld_46, ll_46, ld_47, ll_47, ld_48, ll_48, ld_49, ll_49, ld_50, ll_50, ld_51, ll_51, ld_66, ls_66, ll_66, ld_68, ls_68, ll_68, ld_69, ls_69, ll_69, ld_70, ls_70, ll_70, ld_72, ls_72, ll_72, ld_73, ls_73, ll_73, ld_74, ls_74, ll_74, ld_76, ls_76, ll_76, ld_77, ls_77, ll_77, ld_78, ls_78, ll_78, ld_80, ls_80, ll_80, ld_81, ls_81, ll_81, ld_82, ls_82, ll_82, ld_84, ls_84, ll_84, ld_86, ls_86, ll_86, ld_88, ls_88, ll_88, ld_89, ls_89, ll_89, ld_90, ls_90, ll_90, ld_91, ls_91, ll_91, ld_92, ls_92, ll_92, ld_94, ls_94, ll_94, ld_95, ls_95, ll_95, ld_97, ls_97, ll_97, ld_98, ls_98, ll_98, ld_100, ls_100, ll_100, ld_101, ls_101, ll_101, ld_103, ls_103, ld_104, ls_104, ld_105, ls_105, ll_105, ld_106, ls_106, ld_107, ls_107, ll_107, lk_0, lk_1, lk_2, lk_3, lk_g, lk_p, lk_c, lk_l1, lk_l2, lk_s1, lk_s2, e3, e6, x1, ng_le, ng_lt, ng_ltp, ng_sub1, e8]
      exact this
    · obtain ⟨ht2, hu2⟩ := jl_n2 ht hu hv hv8 y1
      have := hn (ly_u A 77 (t - 2) (lw_by v (A 77 (t - 2)) (A 77 (t - 1))), t - 1) ⟨but_u hb, by rw [hu, hu2], fun j hj => by
        rw [lw_s2 hst hv hv8 y1]
        simp only [rup, ly_uE]
        rw [hs (t - 2) (by omega), hs (t - 1) (by omega)]
        by_cases hjt : j = t - 2
        · simp [hjt]
        · simp only [hjt, and_false, if_false]
          exact hs j (by simp only at hj; omega)⟩
      unfold X1_priceFor_j170
      simp (disch := first | assumption | omega) only [ly_cI, ly_cIx, ly_cL, ly_cLx, ly_cV, ly_cVx, ly_bI, ly_bL, ly_n0n, ly_n1n, ly_nb, ly_bzn, ly_bon, nI_add, pk_mul, nI_leI, nI_ltI, nI_eq, if_pos, if_neg, ly_uE, ly_b1n, ly_b0n, if_true, if_false, eq_self, Bool.false_eq_true, Bool.true_eq_false, decide_true, decide_false, Nat.zero_add, nl_0, nl_1, nl_2, nl_3, nl_4, nl_5, nl_6, nl_7, nl_8, nl_9, nl_10, nl_11, nl_12, nl_13, nl_14, nl_15, nl_16, nl_17, nl_18, nl_19, nl_20, nl_21, nl_22, nl_23, nl_24, nl_25, nl_26, nl_27, nl_28, nl_29, nl_30, nl_31, nl_32, nl_40, nl_41, nl_42, nl_43, nl_44, nl_45, nl_47, nl_48, nl_57, nl_59, nl_60, nl_80, nl_91, nl_93, nl_96, nl_97, nl_99, nl_100, nl_122, nl_150, nl_160, nl_200, nl_208, nl_224, nl_238, nl_239, nl_255, nl_600, nl_999, nl_1000, nl_9999, nl_100000, nl_12345, nl_1103515245, nl_32767, lr_64_0, lr_64_1, lr_64_2, lr_64_3, lr_64_4, lr_64_5, lr_64_6, lr_64_7, lr_64_8, lr_64_9, lr_64_10, lr_64_11, lr_65_0, lr_67_0, lr_67_1, lr_67_2, lr_71_0, lr_71_1, lr_71_2, lr_75_0, lr_75_1, lr_75_2, lr_79_0, lr_79_1, lr_79_2, lr_83_0, lr_85_0, lr_87_0, lr_87_1, lr_87_2, lr_87_3, lr_87_4, lr_93_0, lr_93_1, lr_93_2, lr_93_3, lr_96_0, lr_96_1, lr_96_2, lr_96_3, lr_99_0, lr_99_1, lr_102_0, lr_102_1, lr_102_2, lr_102_3, lr_102_4, lr_102_5, lg_64, lp_64, lc_64, lg_65, lp_65, lc_65, lg_67, lp_67, lc_67, lg_71, lp_71, lc_71, lg_75, lp_75, lc_75, lg_79, lp_79, lc_79, lg_83, lp_83, lc_83, lg_85, lp_85, lc_85, lg_87, lp_87, lc_87, lg_93, lp_93, lc_93, lg_96, lp_96, lc_96, lg_99, lp_99, lc_99, lg_102, lp_102, lc_102, ld_1, ll_1, ld_2, ll_2, ld_33, ll_33, ld_34, ll_34, ld_35, ll_35, ld_36, ll_36, ld_37, ll_37, ld_38, ll_38, ld_39, ll_39, ld_40, ll_40, ld_41, ll_41, ld_42, ll_42, ld_43, ll_43, ld_44, ll_44, ld_45, ll_45, ld_46, ll_46, ld_47, ll_47, ld_48, ll_48, ld_49, ll_49, ld_50, ll_50, ld_51, ll_51, ld_66, ls_66, ll_66, ld_68, ls_68, ll_68, ld_69, ls_69, ll_69, ld_70, ls_70, ll_70, ld_72, ls_72, ll_72, ld_73, ls_73, ll_73, ld_74, ls_74, ll_74, ld_76, ls_76, ll_76, ld_77, ls_77, ll_77, ld_78, ls_78, ll_78, ld_80, ls_80, ll_80, ld_81, ls_81, ll_81, ld_82, ls_82, ll_82, ld_84, ls_84, ll_84, ld_86, ls_86, ll_86, ld_88, ls_88, ll_88, ld_89, ls_89, ll_89, ld_90, ls_90, ll_90, ld_91, ls_91, ll_91, ld_92, ls_92, ll_92, ld_94, ls_94, ll_94, ld_95, ls_95, ll_95, ld_97, ls_97, ll_97, ld_98, ls_98, ll_98, ld_100, ls_100, ll_100, ld_101, ls_101, ll_101, ld_103, ls_103, ld_104, ls_104, ld_105, ls_105, ll_105, ld_106, ls_106, ld_107, ls_107, ll_107, lk_0, lk_1, lk_2, lk_3, lk_g, lk_p, lk_c, lk_l1, lk_l2, lk_s1, lk_s2, e3, e6, x1, ng_le, nI_m1, pk_sub, lw_joined hv hv8, Nat.sub_sub, Nat.reduceAdd]
      exact this
  · intro again a hQ
    obtain ⟨A, t⟩ := a
    obtain ⟨hb, ht, hs⟩ := hQ
    simp only at hb ht hs
    rw [hh] at ht
    simp only [Option.some.injEq] at ht
    subst ht
    have e3 : A 75 3 = nI m := (hb 75 3 (by omega)).trans h3
    unfold X1_priceFor_L60
    simp only
    rw [lg_75 h, e3, if_pos (nI_le (Nat.le_refl _) (by omega)), lr_75_1 h, ld_i0, ld_77 h (by omega), hs 0 (by omega)]
    exact ⟨A, rfl, hb⟩
theorem lw_plain {kn : Nat → Int32} (h : ly c S) (h3 : I 75 3 = nI 5) (hp : ∀ j, j < 5 → I 76 j = ([1, -1, 2, -11, -8] : List Int32).getD j 0) (hk : I 78 0 = kn 0) :
    ∃ I1, pm_lp pm_N (X1_priceFor_L60 75) (0, 0, (c, w, S, I, K)) = pm_oI (lw_cap (1 + kn 0 / 2)) (c, w, S, I1, K) ∧ but 77 I I1 := by
  have e0 : I 76 0 = nI 1 := hp 0 (by omega)
  have e1 : I 76 1 = -nI (1 + 0) := hp 1 (by omega)
  have e2 : I 76 2 = nI 2 := hp 2 (by omega)
  have e3 : I 76 3 = -nI (6 + 5) := hp 3 (by omega)
  have e4 : I 76 4 = -nI (6 + 2) := hp 4 (by omega)
  obtain ⟨I1, g1, g2⟩ := lw_worked (w := w) (K := K) (y := fun k => ([nI 0, nI 1, nI 0, nI 5, nI 2] : List Int32).getD k 0) (z := fun k => ([nI 1, nI 0, nI 2] : List Int32).getD k 0) (kn := fun j => I 78 j) (m := 5) h (by omega) (by omega) h3 (fun k hk => by
    have : k = 0 ∨ k = 1 ∨ k = 2 ∨ k = 3 ∨ k = 4 := by omega
    rcases this with rfl | rfl | rfl | rfl | rfl
    · exact Or.inl ⟨1, by omega, e0, rfl, rfl⟩
    · exact Or.inr (Or.inl ⟨0, by omega, e1, rfl, rfl⟩)
    · exact Or.inl ⟨2, by omega, e2, rfl, rfl⟩
    · exact Or.inr (Or.inr ⟨5, by omega, by omega, e3, rfl⟩)
    · exact Or.inr (Or.inr ⟨2, by omega, by omega, e4, rfl⟩)) (by decide +kernel) (fun j _ => rfl)
  refine ⟨I1, ?_, g2⟩
  rw [g1, ← hk]
  rfl
end LWW
