/-! what a stroke costs: both -/
section PRC
variable {c w : Nat} {S : Nat → pmS} {I I1 I2 J : Nat → Nat → Int32} {K K1 : Nat → Nat → Int64} {n : Nat} {wd : Nat → Nat} {q : Nat → Nat → Nat} {r : Nat → Int32} {a : Nat} {se : Nat → Nat} {W G d : Nat}
theorem st_i {kd b : Nat} {v i : Int32} {m : pmM} {f : pmM → pmR} (k : Nat) (hi : i = nI k) : pm_st kd b i v m f = pm_st kd b (nI k) v m f := by rw [hi]
theorem ld_i {kd b : Nat} {i : Int32} {m : pmM} {f : Int32 → pmR} (k : Nat) (hi : i = nI k) : pm_ld kd b i m f = pm_ld kd b (nI k) m f := by rw [hi]
def clp (x : Int32) : Nat := min 60 x.toNatClampNeg
theorem clp_n {x : Int32} (h : x < 0) : clp x = 0 := by
  unfold clp
  have e0 : (0 : Int32).toInt = 0 := by decide
  have : x.toInt < 0 := by rw [Int32.lt_iff_toInt_lt, e0] at h; exact h
  have : x.toNatClampNeg = 0 := by
    show x.toInt.toNat = 0
    omega
  omega
theorem clp_p {j : Nat} (h : j < 2 ^ 31) : clp (nI j) = min 60 j := by unfold clp; rw [nI_clamp h]
theorem clpC (x : Int32) : (if (0 : Int32) < (if x < 60 then x else 60) then (if x < 60 then x else 60) else 0) = nI (clp x) := by
  by_cases h : x < 0
  · rw [clp_n h, if_pos (Int32.lt_trans h (by decide)), if_neg (Int32.lt_asymm h)]
    rfl
  · obtain ⟨j, hj, rfl⟩ := nI_of h
    rw [clp_p hj]
    by_cases h6 : j < 60
    · rw [if_pos (show nI j < 60 from nI_lt (b := 60) h6 (by omega)), Nat.min_eq_right (by omega)]
      by_cases h0 : j = 0
      · subst h0; decide
      · rw [if_pos (show (0 : Int32) < nI j from nI_lt (a := 0) (by omega) hj)]
    · rw [if_neg (show ¬ nI j < 60 from nI_nlt (b := 60) (by omega) hj), Nat.min_eq_left (by omega)]
      decide
theorem capC (x : Int32) : lw_cap x = nI (clp x) := clpC x
theorem clpM (x : Int32) (m : pmM) : (pm_cI (X9_more 0 x m) fun x9 m8 => pm_cI (X9_less 60 x9 m8) fun x11 m10 => pm_oI x11 m10) = pm_oI (nI (clp x)) m := by
  rw [rm_more, ly_cI, rm_less, ly_cI]
  by_cases h : x < 0
  · rw [clp_n h, if_neg (Int32.not_le.mpr h), if_pos (show (0 : Int32) ≤ 60 by decide)]
    rfl
  · obtain ⟨j, hj, rfl⟩ := nI_of h
    rw [clp_p hj, if_pos (Int32.not_lt.mp h)]
    by_cases h6 : j < 60
    · rw [if_pos (show nI j ≤ 60 from nI_le (b := 60) (by omega) (by omega)), Nat.min_eq_right (by omega)]
    · by_cases h7 : j = 60
      · subst h7
        rw [if_pos (show nI 60 ≤ 60 by decide)]
        rfl
      · rw [if_neg (show ¬ nI j ≤ 60 from nI_ge (a := 60) (by omega) hj), Nat.min_eq_left (by omega)]
        rfl
/-- what the law makes of such known things -/
def lwp (I : Nat → Nat → Int32) (kn : Nat → Int32) : Int32 := if I 108 19 = nI 0 then 1 + kn 0 / 2 else (lw_st (fun k => I (129 + k) 0) (fun k => I (129 + k) 1) kn (nz (I 108 19))).1 0
def kn7 (a0 a1 a2 a3 a4 a5 a6 : Int32) (j : Nat) : Int32 := if j = 0 then a0 else if j = 1 then a1 else if j = 2 then a2 else if j = 3 then a3 else if j = 4 then a4 else if j = 5 then a5 else a6
theorem lw_st_eq {y y1 z z1 kn : Nat → Int32} : ∀ {m : Nat}, (∀ k, k < m → y1 k = y k ∧ z1 k = z k) → lw_st y1 z1 kn m = lw_st y z kn m
  | 0, _ => rfl
  | m + 1, h => by
    simp only [lw_st]
    rw [lw_st_eq (m := m) (fun k hk => h k (by omega)), (h m (by omega)).1, (h m (by omega)).2]
theorem lwp_c {kn : Nat → Int32} (hm : nz (I 108 19) ≤ 160) (hs : ∀ i j, dL i j → I1 i j = I i j) : lwp I1 kn = lwp I kn := by
  unfold lwp
  rw [hs 108 19 (by unfold dL; omega), lw_st_eq (y := fun k => I (129 + k) 0) (z := fun k => I (129 + k) 1) (fun k hk => ⟨hs _ _ (by unfold dL; omega), hs _ _ (by unfold dL; omega)⟩)]
theorem jl_m (h : jl I) : nz (I 108 19) ≤ 150 := by
  obtain ⟨m, hm, h2, -⟩ := h
  rw [h2]
  unfold nz
  rw [nI_clamp (by omega)]
  exact hm
def P78 (i _j : Nat) : Prop := i = 77 ∨ i = 78
def P45 (i _j : Nat) : Prop := i = 450 ∨ i = 451
theorem pc_C {a0 a1 a2 a3 a4 a5 a6 : Int32} (h : ly c S) (hL : jl I) : ∃ I1, X1_priceFor 75 a0 a1 a2 a3 a4 a5 a6 (c, w, S, I, K) = pm_oI (nI (clp (lwp I (kn7 a0 a1 a2 a3 a4 a5 a6)))) (c, w, S, I1, K) ∧ only P78 I I1 := by
  obtain ⟨m, hm, h19, hcase⟩ := hL
  unfold X1_priceFor
  rw [lr_75_2 h, st_i (i := 0) 0 rfl, ls_78 h (by omega), lr_75_2 h, st_i (i := 1) 1 rfl, ls_78 h (by omega), lr_75_2 h, st_i (i := 2) 2 rfl, ls_78 h (by omega), lr_75_2 h, st_i (i := 3) 3 rfl, ls_78 h (by omega), lr_75_2 h, st_i (i := 4) 4 rfl, ls_78 h (by omega), lr_75_2 h, st_i (i := 5) 5 rfl, ls_78 h (by omega), lr_75_2 h, st_i (i := 6) 6 rfl, ls_78 h (by omega)]
  generalize hI' : ly_u (ly_u (ly_u (ly_u (ly_u (ly_u (ly_u I 78 0 a0) 78 1 a1) 78 2 a2) 78 3 a3) 78 4 a4) 78 5 a5) 78 6 a6 = I'
  have ho : only P78 I I' := by
    rw [← hI']
    exact only_u (only_u (only_u (only_u (only_u (only_u (only_u only_r (by unfold P78; omega)) (by unfold P78; omega)) (by unfold P78; omega)) (by unfold P78; omega)) (by unfold P78; omega)) (by unfold P78; omega)) (by unfold P78; omega)
  have hk : ∀ j, j < 7 → I' 78 j = kn7 a0 a1 a2 a3 a4 a5 a6 j := by
    intro j hj
    have : j = 0 ∨ j = 1 ∨ j = 2 ∨ j = 3 ∨ j = 4 ∨ j = 5 ∨ j = 6 := by omega
    rw [← hI']
    rcases this with rfl | rfl | rfl | rfl | rfl | rfl | rfl <;> simp [ly_uE, kn7]
  have n77 : ∀ i j, i ≠ 77 → i ≠ 78 → ¬ P78 i j := fun i j e1 e2 => by unfold P78; omega
  rcases hcase with ⟨hm0, h3, hp⟩ | ⟨h0, h3, hp, hh⟩
  · obtain ⟨I1, g1, g2⟩ := lw_plain (w := w) (K := K) (I := I') (kn := kn7 a0 a1 a2 a3 a4 a5 a6) h (by rw [ho 75 3 (n77 _ _ (by omega) (by omega))]; exact h3) (fun j hj => by rw [ho 76 j (n77 _ _ (by omega) (by omega))]; exact hp j hj) (hk 0 (by omega))
    rw [g1, capC]
    refine ⟨I1, ?_, only_t ho (fun i j hn => g2 i j (fun e => hn (Or.inl e)))⟩
    unfold lwp
    rw [if_pos (by rw [h19, hm0])]
  · obtain ⟨I1, g1, g2⟩ := lw_worked (w := w) (K := K) (I := I') (m := m) (y := fun k => I (129 + k) 0) (z := fun k => I (129 + k) 1) (kn := kn7 a0 a1 a2 a3 a4 a5 a6) h hm h0 (by rw [ho 75 3 (n77 _ _ (by omega) (by omega))]; exact h3) (fun k hk => by rw [ho 76 k (n77 _ _ (by omega) (by omega))]; exact hp k hk) hh hk
    rw [g1, capC]
    refine ⟨I1, ?_, only_t ho (fun i j hn => g2 i j (fun e => hn (Or.inl e)))⟩
    unfold lwp
    rw [if_neg (by rw [h19]; exact fun e => by have := (nI_eq (by omega) (by omega)).mp e; omega), h19, show nz (nI m) = m from nI_clamp (by omega)]
theorem bl_M {m : Nat} {kn : Nat → Int32} (h : ly c S) (hm : m ≤ 150) (h19 : I 108 19 = nI m) (hz : ∀ k, k < m → (∃ v, v ≤ 999 ∧ I (129 + k) 0 = nI 0 ∧ I (129 + k) 1 = nI v) ∨ (∃ v, v < 7 ∧ I (129 + k) 0 = nI 1 ∧ I (129 + k) 1 = nI v) ∨ (∃ v, 2 ≤ v ∧ v ≤ 8 ∧ I (129 + k) 0 = nI v)) (hh : m = 0 ∨ jl_h (fun k => I (129 + k) 0) m = some 1) (hk : ∀ j, j < 7 → I 451 j = kn j) :
    ∃ I1, X9_byLaw 108 (c, w, S, I, K) = pm_oI (nI (clp (lwp I kn))) (c, w, S, I1, K) ∧ but 450 I I1 := by
  unfold X9_byLaw
  rw [lr_108_23 h, lr_108_24 h, ld_i (i := 0) 0 rfl, ld_451 h (by omega), hk 0 (by omega), if_neg (by decide), st_i (i := 0) 0 rfl, ls_450 h (by omega)]
  refine ly_loop (fun k (a : (Nat → Nat → Int32) × Nat) => ((nI a.2, nI k, (c, w, S, a.1, K)) : Int32 × Int32 × pmM)) m (fun k a => but 450 I a.1 ∧ jl_h (fun k => I (129 + k) 0) k = some a.2 ∧ (k = 0 → a.1 450 0 = 1 + kn 0 / 2) ∧ ∀ j, j < a.2 → a.1 450 j = (lw_st (fun k => I (129 + k) 0) (fun k => I (129 + k) 1) kn k).1 j) (fun R => ∃ I1, R = pm_oI (nI (clp (lwp I kn))) (c, w, S, I1, K) ∧ but 450 I I1) ?_ ?_ pm_N 0 (ly_u I 450 0 (1 + kn 0 / 2), 0) ⟨but_u but_r, rfl, fun _ => by simp only; rw [ly_uE, if_pos ⟨rfl, rfl⟩], fun j hj => by simp only at hj; omega⟩ (by omega) (by rw [pm_NE]; omega)
  · intro again k a hkm hQ hn
    obtain ⟨A, t⟩ := a
    obtain ⟨hb, ht, -, hs⟩ := hQ
    simp only at hb ht hs
    have hh' := hh.resolve_left (by omega)
    obtain ⟨u, hu⟩ := lw_pre hh' (k + 1) (by omega)
    obtain ⟨hst, ht22⟩ := lw_h (z := fun k => I (129 + k) 1) (kn := kn) ht
    have e19 : A 108 19 = nI m := (hb 108 19 (by omega)).trans h19
    have e0 : A (129 + k) 0 = I (129 + k) 0 := hb _ _ (by omega)
    have e1 : A (129 + k) 1 = I (129 + k) 1 := hb _ _ (by omega)
    unfold X9_byLaw_L20 X9_byLaw_j80 X9_byLaw_j123
    simp only
    rw [lg_108 h, e19, if_neg (nI_ge hkm (by omega)), lr_108_21 h, lr_128 h (by omega), ld_i (i := 0) 0 rfl, ld_129 h (by omega) (by omega), e0]
    rcases hz k hkm with ⟨v, hv, y1, z1⟩ | ⟨v, hv, y1, z1⟩ | ⟨v, hv, hv8, y1⟩
    · obtain ⟨ht2, hu2⟩ := jl_n1 (y := fun k => I (129 + k) 0) ht hu (Or.inl y1)
      rw [y1, if_neg (show ¬ (2 : Int32) ≤ nI 0 by decide), lr_108_23 h, lr_108_21 h, lr_128 h (by omega), ld_i (i := 0) 0 rfl, ld_129 h (by omega) (by omega), e0, y1, n00, lr_108_21 h, lr_128 h (by omega), ld_i (i := 1) 1 rfl, ld_129 h (by omega) (by omega), e1, z1, ls_450 h (by omega), ly_bI, ly_bI, nI_1, nI_1]
      refine hn (ly_u A 450 t (nI v), t + 1) ⟨but_u hb, by rw [hu, hu2], fun e => by omega, fun j hj => ?_⟩
      rw [lw_s0 hst y1]
      simp only [rup, z1, ly_uE]
      by_cases hjt : j = t
      · simp [hjt]
      · simp only [hjt, and_false, if_false]
        exact hs j (by simp only at hj; omega)
    · obtain ⟨ht2, hu2⟩ := jl_n1 (y := fun k => I (129 + k) 0) ht hu (Or.inr y1)
      have e8 : A 451 v = kn v := (hb 451 v (by omega)).trans (hk v hv)
      rw [y1, if_neg (show ¬ (2 : Int32) ≤ nI 1 by decide), lr_108_23 h, lr_108_21 h, lr_128 h (by omega), ld_i (i := 0) 0 rfl, ld_129 h (by omega) (by omega), e0, y1, if_neg (show ¬ nI 1 = 0 by decide), lr_108_24 h, lr_108_21 h, lr_128 h (by omega), ld_i (i := 1) 1 rfl, ld_129 h (by omega) (by omega), e1, z1, ld_451 h (by omega), e8, ls_450 h (by omega), ly_bI, ly_bI, nI_1, nI_1]
      refine hn (ly_u A 450 t (kn v), t + 1) ⟨but_u hb, by rw [hu, hu2], fun e => by omega, fun j hj => ?_⟩
      rw [lw_s1 hst y1]
      simp only [rup, z1, ly_uE, nI_clamp (show v < 2 ^ 31 by omega)]
      by_cases hjt : j = t
      · simp [hjt]
      · simp only [hjt, and_false, if_false]
        exact hs j (by simp only at hj; omega)
    · obtain ⟨ht2, hu2⟩ := jl_n2 (y := fun k => I (129 + k) 0) ht hu hv hv8 y1
      rw [y1, if_pos (show (2 : Int32) ≤ nI v from nI_le (a := 2) hv (by omega)), ly_bI, show nI t + (-1 : Int32) = nI (t - 1) from nI_m1 (by omega), lr_108_23 h, lr_108_21 h, lr_128 h (by omega), ld_i (i := 0) 0 rfl, ld_129 h (by omega) (by omega), e0, y1, lr_108_23 h, show nI (t - 1) - (1 : Int32) = nI (t - 2) from by rw [show (1 : Int32) = nI 1 from rfl, pk_sub (by omega)]; rfl, ld_450 h (by omega), lr_108_23 h, ld_450 h (by omega), lw_byM hv hv8, ly_cI, ls_450 h (by omega), ly_bI, nI_1]
      refine hn (ly_u A 450 (t - 2) (lw_by v (A 450 (t - 2)) (A 450 (t - 1))), t - 1) ⟨but_u hb, by rw [hu, hu2], fun e => by omega, fun j hj => ?_⟩
      rw [lw_s2 hst hv hv8 y1]
      simp only [rup, ly_uE]
      rw [hs (t - 2) (by omega), hs (t - 1) (by omega)]
      by_cases hjt : j = t - 2
      · simp [hjt]
      · simp only [hjt, and_false, if_false]
        exact hs j (by simp only at hj; omega)
  · intro again a hQ
    obtain ⟨A, t⟩ := a
    obtain ⟨hb, ht, hz0, hs⟩ := hQ
    simp only at hb ht hs hz0
    have e19 : A 108 19 = nI m := (hb 108 19 (by omega)).trans h19
    unfold X9_byLaw_L20
    simp only
    rw [lg_108 h, e19, if_pos (nI_le (Nat.le_refl _) (by omega)), lr_108_23 h, ld_i (i := 0) 0 rfl, ld_450 h (by omega), clpM]
    refine ⟨A, ?_, hb⟩
    unfold lwp
    rcases hh with e | e
    · rw [if_pos (by rw [h19, e]), hz0 e]
    · have hm0 : m ≠ 0 := fun e9 => by subst e9; cases e
      rw [e] at ht
      simp only [Option.some.injEq] at ht
      rw [if_neg (by rw [h19]; exact fun e9 => hm0 ((nI_eq (by omega) (by omega)).mp e9)), h19, show nz (nI m) = m from nI_clamp (by omega), hs 0 (by omega)]
theorem pc_M {a0 a1 a2 a3 a4 a5 a6 : Int32} (h : ly c S) (hL : jl I) : ∃ I1, X9_costBy 108 a0 a1 a2 a3 a4 a5 a6 (c, w, S, I, K) = pm_oI (nI (clp (lwp I (kn7 a0 a1 a2 a3 a4 a5 a6)))) (c, w, S, I1, K) ∧ only P45 I I1 := by
  have hm150 := jl_m hL
  obtain ⟨m, hm, h19, hcase⟩ := hL
  unfold X9_costBy
  rw [lr_108_24 h, st_i (i := 0) 0 rfl, ls_451 h (by omega), lr_108_24 h, st_i (i := 1) 1 rfl, ls_451 h (by omega), lr_108_24 h, st_i (i := 2) 2 rfl, ls_451 h (by omega), lr_108_24 h, st_i (i := 3) 3 rfl, ls_451 h (by omega), lr_108_24 h, st_i (i := 4) 4 rfl, ls_451 h (by omega), lr_108_24 h, st_i (i := 5) 5 rfl, ls_451 h (by omega), lr_108_24 h, st_i (i := 6) 6 rfl, ls_451 h (by omega), lc_108 h]
  generalize hI' : ly_u (ly_u (ly_u (ly_u (ly_u (ly_u (ly_u I 451 0 a0) 451 1 a1) 451 2 a2) 451 3 a3) 451 4 a4) 451 5 a5) 451 6 a6 = I'
  have ho : only P45 I I' := by
    rw [← hI']
    exact only_u (only_u (only_u (only_u (only_u (only_u (only_u only_r (by unfold P45; omega)) (by unfold P45; omega)) (by unfold P45; omega)) (by unfold P45; omega)) (by unfold P45; omega)) (by unfold P45; omega)) (by unfold P45; omega)
  have hk : ∀ j, j < 7 → I' 451 j = kn7 a0 a1 a2 a3 a4 a5 a6 j := by
    intro j hj
    have : j = 0 ∨ j = 1 ∨ j = 2 ∨ j = 3 ∨ j = 4 ∨ j = 5 ∨ j = 6 := by omega
    rw [← hI']
    rcases this with rfl | rfl | rfl | rfl | rfl | rfl | rfl <;> simp [ly_uE, kn7]
  have hd : ∀ i j, dL i j → I' i j = I i j := fun i j e => ho i j (by unfold dL at e; unfold P45; omega)
  have e19 : I' 108 19 = nI m := (hd 108 19 (by unfold dL; omega)).trans h19
  have hlw : lwp I' (kn7 a0 a1 a2 a3 a4 a5 a6) = lwp I (kn7 a0 a1 a2 a3 a4 a5 a6) := lwp_c (by omega) hd
  have hfin : ∃ I1, X9_byLaw 108 (c, w, S, I', K) = pm_oI (nI (clp (lwp I' (kn7 a0 a1 a2 a3 a4 a5 a6)))) (c, w, S, I1, K) ∧ but 450 I' I1 := by
    rcases hcase with ⟨hm0, h3, hp⟩ | ⟨h0, h3, hp, hh⟩
    · exact bl_M h hm e19 (fun k hk => by omega) (Or.inl hm0) hk
    · refine bl_M h hm e19 (fun k hk => ?_) (Or.inr ?_) hk
      · rw [hd (129 + k) 0 (by unfold dL; omega), hd (129 + k) 1 (by unfold dL; omega)]
        rcases hp k hk with ⟨v, hv, x1, y1, z1⟩ | ⟨v, hv, x1, y1, z1⟩ | ⟨v, hv, hv8, x1, y1⟩
        · exact Or.inl ⟨v, hv, y1, z1⟩
        · exact Or.inr (Or.inl ⟨v, hv, y1, z1⟩)
        · exact Or.inr (Or.inr ⟨v, hv, hv8, y1⟩)
      · rw [jl_h_eq (y := fun k => I (129 + k) 0) (fun k hk => hd _ _ (by unfold dL; omega))]
        exact hh
  obtain ⟨I1, g1, g2⟩ := hfin
  rw [g1, ly_cI, hlw]
  exact ⟨I1, rfl, only_t ho (fun i j hn => g2 i j (fun e => hn (Or.inl e)))⟩
end PRC
