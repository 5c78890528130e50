/-! what a stroke costs by the law -/
section LWV
variable {c w : Nat} {S : Nat → pmS} {I I1 : Nat → Nat → Int32} {K : Nat → Nat → Int64}
theorem ly_S {σ : Type} {n : Nat} {body : (σ → pmR) → σ → pmR} {s : σ} : pm_lp (n + 1) body s = body (pm_lp n body) s := rfl
theorem ng_toInt {a : Nat} (h : a < 2 ^ 31) : (-nI a).toInt = -(a : Int) := by
  rw [Int32.toInt_neg, nI_toInt h]
  exact Int.bmod_eq_of_le (by omega) (by omega)
theorem ng_eq {a b : Nat} (ha : a < 2 ^ 31) (hb : b < 2 ^ 31) : (-nI a = -nI b) ↔ a = b := by rw [Int32.neg_inj, nI_eq ha hb]
theorem ng_lt {a b : Nat} (ha : a < 2 ^ 31) (hb : b < 2 ^ 31) : (-nI a < -nI b) ↔ b < a := by rw [Int32.lt_iff_toInt_lt, ng_toInt ha, ng_toInt hb]; omega
theorem ng_le {a b : Nat} (ha : a < 2 ^ 31) (hb : b < 2 ^ 31) : (-nI a ≤ -nI b) ↔ b ≤ a := by rw [Int32.le_iff_toInt_le, ng_toInt ha, ng_toInt hb]; omega
theorem ng_ltp {a b : Nat} (ha : a < 2 ^ 31) (hb : b < 2 ^ 31) : (-nI a < nI b) ↔ 0 < a + b := by rw [Int32.lt_iff_toInt_lt, ng_toInt ha, nI_toInt hb]; omega
theorem ng_lep {a b : Nat} (ha : a < 2 ^ 31) (hb : b < 2 ^ 31) : (-nI a ≤ nI b) ↔ 0 ≤ a + b := by rw [Int32.le_iff_toInt_le, ng_toInt ha, nI_toInt hb]; omega
theorem ng_plt {a b : Nat} (ha : a < 2 ^ 31) (hb : b < 2 ^ 31) : (nI b < -nI a) ↔ b + a < 0 := by rw [Int32.lt_iff_toInt_lt, ng_toInt ha, nI_toInt hb]; omega
theorem ng_eqp {a b : Nat} (ha : a < 2 ^ 31) (hb : b < 2 ^ 31) : (nI b = -nI a) ↔ b + a = 0 := by rw [← Int32.toInt_inj, ng_toInt ha, nI_toInt hb]; omega
theorem ng_peq {a b : Nat} (ha : a < 2 ^ 31) (hb : b < 2 ^ 31) : (-nI a = nI b) ↔ b + a = 0 := by rw [← Int32.toInt_inj, ng_toInt ha, nI_toInt hb]; omega
theorem ng_sub1 (v : Nat) : -nI 1 - -nI (1 + v) = nI v := by
  rw [Int32.sub_neg, ← nI_add 1 v, ← Int32.add_assoc, Int32.add_left_neg]
  exact Int32.zero_add _
theorem nI_m1 {a : Nat} (h : 1 ≤ a) : nI a + -nI 1 = nI (a - 1) := by
  have := pk_m1 (a - 1)
  rw [show a - 1 + 1 = a by omega] at this
  exact this
theorem lw_dm (a : Int32) : a / -1 = -a := Int32.toInt_inj.mp (by
  have : (-1 : Int32).toInt = -1 := by decide
  rw [Int32.toInt_div, this, Int.tdiv_neg, Int.tdiv_one, Int32.toInt_neg])
def lw_by (y : Nat) (u v : Int32) : Int32 := if y = 2 then u + v else if y = 3 then u - v else if y = 4 then u * v else if y = 5 then (if v = 0 then 0 else u / v) else if y = 6 then (if v = 0 then 0 else u - u / v * v) else if y = 7 then (if v ≤ u then v else u) else (if u ≤ v then v else u)
theorem lw_joined {v : Nat} (h2 : 2 ≤ v) (h8 : v ≤ 8) (a b : Int32) (m : pmM) : X1_joined (-nI (6 + v)) a b m = pm_oI (lw_by v a b) m := by
  have hv : v = 2 ∨ v = 3 ∨ v = 4 ∨ v = 5 ∨ v = 6 ∨ v = 7 ∨ v = 8 := by omega
  unfold X1_joined X1_joined_j75 X1_joined_j63 lw_by
  rcases hv with rfl | rfl | rfl | rfl | rfl | rfl | rfl
  all_goals simp only [show ∀ k, (-nI (6 + k) = -13) ↔ (-nI (6 + k) = -nI 13) from fun _ => Iff.rfl, show ∀ k, (-nI (6 + k) = -12) ↔ (-nI (6 + k) = -nI 12) from fun _ => Iff.rfl, show ∀ k, (-nI (6 + k) = -11) ↔ (-nI (6 + k) = -nI 11) from fun _ => Iff.rfl, show ∀ k, (-nI (6 + k) = -10) ↔ (-nI (6 + k) = -nI 10) from fun _ => Iff.rfl, show ∀ k, (-nI (6 + k) = -9) ↔ (-nI (6 + k) = -nI 9) from fun _ => Iff.rfl, show ∀ k, (-nI (6 + k) = -8) ↔ (-nI (6 + k) = -nI 8) from fun _ => Iff.rfl]
  all_goals simp (disch := omega) only [ng_eq]
  all_goals simp
  · by_cases h : b = 0 <;> simp [h]
  · by_cases h : b = 0 <;> simp [h]
  · by_cases h : b < a
    · simp [h, Int32.le_of_lt h]
    · have := Int32.not_lt.mp h
      by_cases h3 : b ≤ a
      · have := Int32.le_antisymm this h3
        simp [h, h3, this]
      · simp [h, h3]
  · by_cases h : a < b
    · simp [h, Int32.le_of_lt h]
    · have := Int32.not_lt.mp h
      by_cases h3 : a ≤ b
      · have := Int32.le_antisymm this h3
        simp [h, h3, this]
      · simp [h, h3]
theorem lw_byM {v : Nat} (h2 : 2 ≤ v) (h8 : v ≤ 8) (a b : Int32) (m : pmM) : X9_by (nI v) a b m = pm_oI (lw_by v a b) m := by
  have hv : v = 2 ∨ v = 3 ∨ v = 4 ∨ v = 5 ∨ v = 6 ∨ v = 7 ∨ v = 8 := by omega
  have hm : ∀ x : Int32, x - -x * -1 = 0 := by
    intro x
    rw [Int32.mul_neg, Int32.neg_mul, Int32.neg_neg]
    simp
  unfold X9_by X9_by_j73 X9_by_j83 X9_by_j90 lw_by
  rcases hv with rfl | rfl | rfl | rfl | rfl | rfl | rfl
  all_goals simp (disch := omega) only [nl_2, nl_3, nl_4, nl_5, nl_6, nl_7, nI_eq]
  all_goals simp [rm_less, rm_more, ly_cI]
  · by_cases h : b = 0
    · simp [h]
    · by_cases h1 : b = -1
      · simp [h1, lw_dm]
      · simp [h, h1]
  · by_cases h : b = 0
    · simp [h]
    · by_cases h1 : b = -1
      · simp [h1, lw_dm, hm]
      · simp [h, h1]
def rup (r : Nat → Int32) (k : Nat) (v : Int32) : Nat → Int32 := fun j => if j = k then v else r j
def lw_st (y z kn : Nat → Int32) : Nat → (Nat → Int32) × Nat
  | 0 => (fun _ => 0, 0)
  | k + 1 => if y k = nI 0 then (rup (lw_st y z kn k).1 (lw_st y z kn k).2 (z k), (lw_st y z kn k).2 + 1) else if y k = nI 1 then (rup (lw_st y z kn k).1 (lw_st y z kn k).2 (kn (z k).toNatClampNeg), (lw_st y z kn k).2 + 1) else (rup (lw_st y z kn k).1 ((lw_st y z kn k).2 - 2) (lw_by (y k).toNatClampNeg ((lw_st y z kn k).1 ((lw_st y z kn k).2 - 2)) ((lw_st y z kn k).1 ((lw_st y z kn k).2 - 1))), (lw_st y z kn k).2 - 1)
theorem lw_h {y z kn : Nat → Int32} : ∀ {k t : Nat}, jl_h y k = some t → (lw_st y z kn k).2 = t ∧ t ≤ 22
  | 0, t, h => by
    simp only [jl_h, Option.some.injEq] at h
    subst h
    exact ⟨rfl, by omega⟩
  | k + 1, t, h => by
    simp only [jl_h] at h
    cases hk : jl_h y k with
    | none => rw [hk] at h; cases h
    | some u =>
      rw [hk] at h
      have ih := lw_h (z := z) (kn := kn) hk
      simp only at h
      by_cases h1 : y k = nI 0 ∨ y k = nI 1
      · rw [if_pos h1] at h
        by_cases h2 : u < 22
        · rw [if_pos h2] at h
          simp only [Option.some.injEq] at h
          rcases h1 with h3 | h3
          · simp only [lw_st, h3, if_true]; omega
          · have : ¬ (nI 1 = nI 0) := by decide
            simp only [lw_st, h3, if_true, if_neg this]; omega
        · rw [if_neg h2] at h; cases h
      · rw [if_neg h1] at h
        by_cases h2 : 2 ≤ u
        · rw [if_pos h2] at h
          simp only [Option.some.injEq] at h
          have n0 : ¬ y k = nI 0 := fun e => h1 (Or.inl e)
          have n1 : ¬ y k = nI 1 := fun e => h1 (Or.inr e)
          simp only [lw_st, if_neg n0, if_neg n1]; omega
        · rw [if_neg h2] at h; cases h
theorem lw_pre {y : Nat → Int32} : ∀ {m t : Nat}, jl_h y m = some t → ∀ k, k ≤ m → ∃ u, jl_h y k = some u
  | 0, t, h, k, hk => by
    have : k = 0 := by omega
    subst this
    exact ⟨t, h⟩
  | m + 1, t, h, k, hk => by
    rcases Nat.lt_or_ge m k with h1 | h1
    · have : k = m + 1 := by omega
      subst this
      exact ⟨t, h⟩
    · cases hm : jl_h y m with
      | none => simp only [jl_h, hm] at h; cases h
      | some u => exact lw_pre hm k h1
theorem lw_s0 {y z kn : Nat → Int32} {k t : Nat} (ht : (lw_st y z kn k).2 = t) (hy : y k = nI 0) : lw_st y z kn (k + 1) = (rup (lw_st y z kn k).1 t (z k), t + 1) := by
  simp only [lw_st, hy, if_true, ht]
theorem lw_s1 {y z kn : Nat → Int32} {k t : Nat} (ht : (lw_st y z kn k).2 = t) (hy : y k = nI 1) : lw_st y z kn (k + 1) = (rup (lw_st y z kn k).1 t (kn (z k).toNatClampNeg), t + 1) := by
  have : ¬ (nI 1 = nI 0) := by decide
  simp only [lw_st, hy, if_true, ht, if_neg this]
theorem lw_s2 {y z kn : Nat → Int32} {k t v : Nat} (ht : (lw_st y z kn k).2 = t) (hv : 2 ≤ v) (hv8 : v ≤ 8) (hy : y k = nI v) : lw_st y z kn (k + 1) = (rup (lw_st y z kn k).1 (t - 2) (lw_by v ((lw_st y z kn k).1 (t - 2)) ((lw_st y z kn k).1 (t - 1))), t - 1) := by
  have n0 : ¬ (nI v = nI 0) := by rw [nI_eq (by omega) (by omega)]; omega
  have n1 : ¬ (nI v = nI 1) := by rw [nI_eq (by omega) (by omega)]; omega
  simp only [lw_st, hy, ht, if_neg n0, if_neg n1, nI_clamp (show v < 2 ^ 31 by omega)]
theorem jl_n1 {y : Nat → Int32} {k t u : Nat} (h : jl_h y k = some t) (h1 : jl_h y (k + 1) = some u) (hy : y k = nI 0 ∨ y k = nI 1) : t < 22 ∧ u = t + 1 := by
  simp only [jl_h, h, if_pos hy] at h1
  by_cases ht : t < 22
  · rw [if_pos ht] at h1
    simp only [Option.some.injEq] at h1
    omega
  · rw [if_neg ht] at h1; cases h1
theorem jl_n2 {y : Nat → Int32} {k t u v : Nat} (h : jl_h y k = some t) (h1 : jl_h y (k + 1) = some u) (hv : 2 ≤ v) (hv8 : v ≤ 8) (hy : y k = nI v) : 2 ≤ t ∧ u = t - 1 := by
  have n0 : ¬ (nI v = nI 0) := by rw [nI_eq (by omega) (by omega)]; omega
  have n1 : ¬ (nI v = nI 1) := by rw [nI_eq (by omega) (by omega)]; omega
  have n2 : ¬ (y k = nI 0 ∨ y k = nI 1) := by
    rw [hy]
    rintro (e | e)
    · exact n0 e
    · exact n1 e
  simp only [jl_h, h, if_neg n2] at h1
  by_cases ht : 2 ≤ t
  · rw [if_pos ht] at h1
    simp only [Option.some.injEq] at h1
    omega
  · rw [if_neg ht] at h1; cases h1
end LWV
