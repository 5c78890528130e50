/-! chance -/
section CHN
variable {c w : Nat} {S : Nat → pmS} {I I1 I2 J A D : Nat → Nat → Int32} {K K1 K2 : Nat → Nat → Int64} {n : Nat} {wd : Nat → Nat} {q : Nat → Nat → Nat} {r : Nat → Int32} {a : Nat} {se : Nat → Nat} {W G d : Nat} {m : pmM} {p0 q0 : Nat}
def cb : Nat → Nat → Nat
  | _, 0 => 1
  | 0, _ + 1 => 0
  | e + 1, i + 1 => cb e (i + 1) + cb e i
def ex (p q : Nat) : Nat → Nat → Nat
  | 0, 0 => 1
  | 0, _ + 1 => 0
  | e + 1, 0 => ex p q e 0 * q
  | e + 1, i + 1 => ex p q e (i + 1) * q + ex p q e i * p
def chs (n : Nat) : Nat → Nat
  | 0 => 1
  | i + 1 => chs n i * (n - i) / (i + 1)
theorem chs_f : ∀ n, n < 13 → ∀ i, i < 14 → chs n i = cb n i ∧ chs n i < 1000 := by decide +kernel
theorem cb_0 : ∀ {e i : Nat}, e < i → cb e i = 0
  | _, 0, h => absurd h (Nat.not_lt_zero _)
  | 0, _ + 1, _ => rfl
  | e + 1, i + 1, h => by
    show cb e (i + 1) + cb e i = 0
    rw [cb_0 (by omega), cb_0 (by omega)]
theorem ex_c : ∀ (e i : Nat), ex p0 q0 e i = cb e i * p0 ^ i * q0 ^ (e - i)
  | 0, 0 => by simp [ex, cb]
  | 0, _ + 1 => by simp [ex, cb]
  | e + 1, 0 => by
    show ex p0 q0 e 0 * q0 = _
    rw [ex_c e 0]
    simp only [cb, Nat.pow_zero, Nat.mul_one, Nat.one_mul, Nat.sub_zero, Nat.pow_succ]
  | e + 1, i + 1 => by
    show ex p0 q0 e (i + 1) * q0 + ex p0 q0 e i * p0 = (cb e (i + 1) + cb e i) * p0 ^ (i + 1) * q0 ^ (e + 1 - (i + 1))
    rw [ex_c e (i + 1), ex_c e i, show e + 1 - (i + 1) = e - i by omega, Nat.add_mul, Nat.add_mul]
    have h2 : cb e i * p0 ^ i * q0 ^ (e - i) * p0 = cb e i * p0 ^ (i + 1) * q0 ^ (e - i) := by
      rw [Nat.mul_assoc, Nat.mul_comm (q0 ^ (e - i)) p0, ← Nat.mul_assoc, Nat.mul_assoc (cb e i), ← Nat.pow_succ]
    have h1 : cb e (i + 1) * p0 ^ (i + 1) * q0 ^ (e - (i + 1)) * q0 = cb e (i + 1) * p0 ^ (i + 1) * q0 ^ (e - i) := by
      by_cases h : i + 1 ≤ e
      · rw [Nat.mul_assoc, ← Nat.pow_succ, show (e - (i + 1)).succ = e - i by omega]
      · rw [cb_0 (by omega)]; simp
    rw [h1, h2]
def us (f : Nat → Nat) (k : Nat) : Nat → Nat
  | 0 => 0
  | m + 1 => us f k m + (if k ≤ m then f m else 0)
theorem us_s {f : Nat → Nat} {k m : Nat} : us f k (m + 1) = us f k m + (if k ≤ m then f m else 0) := rfl
theorem us_z {f : Nat → Nat} {k : Nat} : ∀ {m : Nat}, m ≤ k → us f k m = 0
  | 0, _ => rfl
  | m + 1, h => by rw [us_s, us_z (by omega), if_neg (by omega)]
theorem us_c {f g : Nat → Nat} {k : Nat} : ∀ {m : Nat}, (∀ i, i < m → f i = g i) → us f k m = us g k m
  | 0, _ => rfl
  | m + 1, h => by rw [us_s, us_s, us_c (fun i hi => h i (by omega)), h m (by omega)]
theorem us_e {f : Nat → Nat} {k m : Nat} (h : ∀ i, m ≤ i → f i = 0) : ∀ {t : Nat}, us f k (m + t) = us f k m
  | 0 => rfl
  | t + 1 => by
    rw [show m + (t + 1) = m + t + 1 by omega, us_s, us_e h, h (m + t) (by omega)]
    split <;> rfl
theorem us_le {f : Nat → Nat} {k : Nat} : ∀ {m : Nat}, us f k m ≤ us f 0 m
  | 0 => Nat.le_refl _
  | m + 1 => by
    have := us_le (f := f) (k := k) (m := m)
    rw [us_s, us_s, if_pos (Nat.zero_le m)]
    split <;> omega
theorem us0 {f : Nat → Nat} {m : Nat} : us f 0 (m + 1) = us f 0 m + f m := by rw [us_s, if_pos (Nat.zero_le m)]
theorem ux_s {e : Nat} : ∀ (m : Nat), us (ex p0 q0 (e + 1)) 0 (m + 1) = us (ex p0 q0 e) 0 (m + 1) * q0 + us (ex p0 q0 e) 0 m * p0
  | 0 => by
    rw [us0, us0]
    show 0 + ex p0 q0 e 0 * q0 = (0 + ex p0 q0 e 0) * q0 + 0 * p0
    simp
  | m + 1 => by
    rw [us0, ux_s m, us0 (f := ex p0 q0 e) (m := m + 1), us0 (f := ex p0 q0 e) (m := m), show ex p0 q0 (e + 1) (m + 1) = ex p0 q0 e (m + 1) * q0 + ex p0 q0 e m * p0 from rfl]
    simp only [Nat.add_mul]
    omega
theorem ux_b (h : p0 + q0 = 16) : ∀ (e m : Nat), us (ex p0 q0 e) 0 m ≤ 16 ^ e
  | 0, m => by
    have h1 : ∀ m, us (ex p0 q0 0) 0 m = if m = 0 then 0 else 1 := by
      intro m
      induction m with
      | zero => rfl
      | succ m ih =>
        rw [us0, ih]
        cases m with
        | zero => rfl
        | succ m => rfl
    rw [h1]
    split <;> decide
  | e + 1, 0 => Nat.zero_le _
  | e + 1, m + 1 => by
    have h1 := ux_b h e (m + 1)
    have h2 := ux_b h e m
    rw [ux_s]
    refine Nat.le_trans (Nat.add_le_add (Nat.mul_le_mul_right _ h1) (Nat.mul_le_mul_right _ h2)) ?_
    rw [← Nat.mul_add, show q0 + p0 = 16 by omega, Nat.pow_succ]
    exact Nat.le_refl _
/-- shortened by halving -/
def rdc : Nat → Nat → Nat × Nat
  | x, 0 => (x, 1)
  | x, j + 1 => if x % 2 = 0 then rdc (x / 2) j else (x, 2 ^ (j + 1))
theorem odd_1 : ∀ (j d : Nat), d ∣ 2 ^ j → d % 2 = 1 → d = 1
  | 0, d, h, _ => Nat.dvd_one.mp h
  | j + 1, d, h, ho => by
    obtain ⟨k, hk⟩ := h
    have h1 : (d * k) % 2 = 0 := by rw [← hk, Nat.pow_succ]; exact Nat.mul_mod_left _ _
    have h2 : k % 2 = 0 := by
      rw [Nat.mul_mod, ho, Nat.one_mul, Nat.mod_mod] at h1
      exact h1
    refine odd_1 j d ⟨k / 2, ?_⟩ ho
    have h3 : k = 2 * (k / 2) := by omega
    rw [h3, Nat.pow_succ, ← Nat.mul_assoc, Nat.mul_comm d 2, Nat.mul_assoc] at hk
    omega
theorem rdc_g : ∀ (j x : Nat), rdc x j = (x / Nat.gcd (2 ^ j) x, 2 ^ j / Nat.gcd (2 ^ j) x)
  | 0, x => by
    show (x, 1) = _
    rw [Nat.pow_zero, Nat.gcd_one_left, Nat.div_one, Nat.div_one]
  | j + 1, x => by
    show (if x % 2 = 0 then rdc (x / 2) j else (x, 2 ^ (j + 1))) = _
    by_cases h : x % 2 = 0
    · obtain ⟨y, hy⟩ : ∃ y, x = 2 * y := ⟨x / 2, by omega⟩
      rw [if_pos h, rdc_g j (x / 2), hy, Nat.mul_div_cancel_left _ (by decide), Nat.pow_succ, Nat.mul_comm (2 ^ j) 2, Nat.gcd_mul_left, Nat.mul_div_mul_left _ _ (by decide), Nat.mul_div_mul_left _ _ (by decide)]
    · rw [if_neg h]
      have h1 : Nat.gcd (2 ^ (j + 1)) x = 1 := by
        refine odd_1 (j + 1) _ (Nat.gcd_dvd_left _ _) ?_
        obtain ⟨k, hk⟩ := Nat.gcd_dvd_right (2 ^ (j + 1)) x
        rcases Nat.mod_two_eq_zero_or_one (Nat.gcd (2 ^ (j + 1)) x) with e | e
        · exact absurd (by rw [hk, Nat.mul_mod, e, Nat.zero_mul]) h
        · exact e
      rw [h1, Nat.div_one, Nat.div_one]
theorem pr_C {b t : Nat} (hb : b < 2 ^ 31) (ht : t < 1000) : X8_power (nI b) (nI t) m = pm_oL (lN (b ^ t)) m := by
  unfold X8_power
  refine ly_loop (fun i (_ : Unit) => ((lN (b ^ i), nI i, m) : Int64 × Int32 × pmM)) t (fun _ _ => True) (fun R => R = pm_oL (lN (b ^ t)) m) ?_ ?_ pm_N 0 () trivial (by omega) (by rw [pm_NE]; omega)
  · intro again i _ hi _ hn
    unfold X8_power_L5
    simp only
    rw [if_neg (nI_ge hi (by omega)), nI_l hb, lN_mul, ← Nat.pow_succ, ly_bL, ly_bI, nI_1]
    exact hn () trivial
  · intro again _ _
    unfold X8_power_L5
    simp only
    rw [if_pos (nI_le (Nat.le_refl _) (by omega))]
theorem hv_C {v : Int32} : ∀ (j N x : Nat), j < N → j ≤ 60 → x < 2 ^ 63 → pm_lp N (X8_chance_L136 v) (lN x, lN (2 ^ j), m) = X8_chance_j173 v (lN (rdc x j).1) (lN (rdc x j).2) m
  | 0, N, x, hN, _, hx => by
    obtain ⟨N, rfl⟩ : ∃ M, N = M + 1 := ⟨N - 1, by omega⟩
    rw [ly_S]
    generalize pm_lp N (X8_chance_L136 v) = ag1
    unfold X8_chance_L136
    simp only
    rw [if_pos (show lg_cmp (lN (2 ^ 0)) 1 ≤ 0 from (lg_cmp_le _ _).mpr (show lN 1 ≤ lN 1 from Int64.le_refl _))]
    rfl
  | j + 1, N, x, hN, hj, hx => by
    obtain ⟨N, rfl⟩ : ∃ M, N = M + 1 := ⟨N - 1, by omega⟩
    have hp : 2 ^ (j + 1) < 2 ^ 63 := Nat.pow_lt_pow_right (by decide) (by omega)
    have hp1 : 1 < 2 ^ (j + 1) := Nat.one_lt_two_pow (by omega)
    have ih := hv_C (v := v) j N (x / 2) (by omega) (by omega) (by omega)
    rw [ly_S]
    generalize pm_lp N (X8_chance_L136 v) = ag1 at ih ⊢
    unfold X8_chance_L136
    simp only
    rw [if_neg (fun e => by
      have := (pk_lLE (a := 2 ^ (j + 1)) (b := 1) hp (by omega)).mp ((lg_cmp_le _ _).mp e)
      omega), if_neg (show ¬ (2 : Int64) = 0 by decide), show lN x - lN x / 2 * 2 = lN (x % 2) from pk_lRem (b := 2) hx (by omega) (by omega)]
    show _ = X8_chance_j173 v (lN (if x % 2 = 0 then rdc (x / 2) j else (x, 2 ^ (j + 1))).1) (lN (if x % 2 = 0 then rdc (x / 2) j else (x, 2 ^ (j + 1))).2) m
    by_cases h : x % 2 = 0
    · rw [h, if_pos (show lg_cmp (lN 0) 0 = 0 from (lg_cmp_eq _ _).mpr rfl), if_neg (show ¬ (2 : Int64) = 0 by decide), ly_bL, if_neg (show ¬ (2 : Int64) = 0 by decide), ly_bL, if_pos rfl, show lN x / 2 = lN (x / 2) from pk_lDiv (b := 2) hx (by omega) (by omega), show lN (2 ^ (j + 1)) / 2 = lN (2 ^ (j + 1) / 2) from pk_lDiv (b := 2) hp (by omega) (by omega), show 2 ^ (j + 1) / 2 = 2 ^ j by rw [Nat.pow_succ]; omega]
      exact ih
    · rw [if_neg h, if_neg (fun e => by
        have := (pk_lEQ (a := x % 2) (b := 0) (by omega) (by omega)).mp ((lg_cmp_eq _ _).mp e)
        omega)]
/-- the one's sum -/
def cF (n Q : Nat) (i : Nat) : Nat := chs n i * (16 - Q) ^ i * Q ^ (n - i)
theorem cF_x {Q i : Nat} (hn : n < 13) (hi : i < 14) : cF n Q i = ex (16 - Q) Q n i := by
  unfold cF
  rw [ex_c, (chs_f n hn i hi).1]
def cv (v x y : Nat) : Int64 := if v = 0 then lN x else lN y
theorem ch_C {k Q v : Nat} (hn : n ≤ 12) (hk : k ≤ 13) (hQ : Q ≤ 16) (hv : v ≤ 1) : pm_lp pm_N (X8_chance_L68 (nI n) (nI k) (nI Q) (nI v)) (0, 1, 0, m) = pm_oL (cv v (rdc (us (cF n Q) k (n + 1)) (4 * n)).1 (rdc (us (cF n Q) k (n + 1)) (4 * n)).2) m := by
  have hup : us (cF n Q) k (n + 1) < 2 ^ 63 := by
    have h1 : us (cF n Q) k (n + 1) = us (ex (16 - Q) Q n) k (n + 1) := us_c (fun i hi => cF_x (by omega) (by omega))
    have h2 := us_le (f := ex (16 - Q) Q n) (k := k) (m := n + 1)
    have h3 := ux_b (p0 := 16 - Q) (q0 := Q) (by omega) n (n + 1)
    have h4 : 16 ^ n ≤ 16 ^ 12 := Nat.pow_le_pow_right (by decide) hn
    rw [h1]
    omega
  refine ly_loop (fun i (_ : Unit) => ((lN (us (cF n Q) k i), lN (chs n i), nI i, m) : Int64 × Int64 × Int32 × pmM)) (n + 1) (fun _ _ => True) (fun R => R = pm_oL (cv v (rdc (us (cF n Q) k (n + 1)) (4 * n)).1 (rdc (us (cF n Q) k (n + 1)) (4 * n)).2) m) ?_ ?_ pm_N 0 () trivial (by omega) (by rw [pm_NE]; omega)
  · intro again i _ hi _ hnx
    have hnx := hnx () trivial
    have hc := (chs_f n (by omega) i (by omega)).2
    have hm : chs n i * (n - i) < 2 ^ 63 := by
      have := Nat.mul_le_mul (Nat.le_of_lt hc) (show n - i ≤ 12 by omega)
      omega
    have j106 : ∀ z : Nat, z = us (cF n Q) k (i + 1) → X8_chance_j106 again (nI n) (nI k) (nI Q) (nI v) (lN z) (lN (chs n i)) (nI i) m = pm_oL (cv v (rdc (us (cF n Q) k (n + 1)) (4 * n)).1 (rdc (us (cF n Q) k (n + 1)) (4 * n)).2) m := fun z hz => by
      unfold X8_chance_j106
      rw [nI_1, nI_l (by omega), if_neg (fun e => by
        have := (pk_lEQ (a := i + 1) (b := 0) (by omega) (by omega)).mp e
        omega), pk_sub (by omega), nI_l (by omega), lN_mul, pk_lDiv hm (by omega) (by omega), ly_bL, ly_bI, hz]
      exact hnx
    unfold X8_chance_L68
    simp only
    rw [if_neg (nI_nlt (by omega) (by omega))]
    by_cases h : i < k
    · rw [if_pos (nI_lt h (by omega))]
      exact j106 _ (by rw [us_s, if_neg (by omega)]; rfl)
    · rw [if_neg (nI_nlt (by omega) (by omega)), show (16 : Int32) - nI Q = nI (16 - Q) from pk_sub (a := 16) hQ, pr_C (by omega) (by omega), ly_cL, pk_sub (by omega), pr_C (by omega) (by omega), ly_cL, lN_mul, lN_mul, lN_add, ly_bL]
      exact j106 _ (by rw [us_s, if_pos (by omega)]; rfl)
  · intro again _ _
    unfold X8_chance_L68
    simp only
    rw [if_pos (nI_lt (by omega) (by omega)), show X8_power 16 (nI n) m = X8_power (nI 16) (nI n) m from rfl, pr_C (by omega) (by omega), ly_cL, show (16 : Nat) ^ n = 2 ^ (4 * n) from (Nat.pow_mul 2 4 n).symm, hv_C (4 * n) pm_N _ (by rw [pm_NE]; omega) (by omega) hup]
    unfold X8_chance_j173 X8_chance_j185 cv
    rcases (show v = 0 ∨ v = 1 by omega) with rfl | rfl
    · rw [n00, if_pos rfl]
    · rw [if_neg (show ¬ nI 1 = 0 by decide), if_neg (by decide)]
/-- the other's -/
theorem gd_M {v up wh g a0 b0 : Nat} (hv : v ≤ 1) (hu : up < 2 ^ 62) (hw : wh < 2 ^ 62) (hba : b0 ≤ a0) (ha : a0 < 2 ^ 49) (ha0 : 0 < a0) (hg : Nat.gcd a0 b0 = g) : pm_lp pm_N (X9_chance_L212 (nI v) (lN up) (lN wh)) (lN a0, lN b0, m) = pm_oL (cv v (up / g) (wh / g)) m := by
  have h0 : a0 * b0 < 2 ^ 98 := by
    have h1 : a0 * b0 ≤ a0 * a0 := Nat.mul_le_mul_left _ hba
    have h2 : a0 * a0 < 2 ^ 49 * 2 ^ 49 := Nat.mul_lt_mul'' ha ha
    omega
  have fin : ∀ (again : Int64 × Int64 × pmM → pmR) (x : Nat), 0 < x → x < 2 ^ 49 → Nat.gcd x 0 = g → X9_chance_L212 (nI v) (lN up) (lN wh) again (lN x, lN 0, m) = pm_oL (cv v (up / g) (wh / g)) m := fun again x hx0 hx hg => by
    rw [Nat.gcd_zero_right] at hg
    subst hg
    have hxn : ¬ lN x = 0 := fun e => by
      have := (pk_lEQ (a := x) (b := 0) (by omega) (by omega)).mp e
      omega
    unfold X9_chance_L212 X9_chance_j255 cv
    simp only
    rw [if_pos (show lg_cmp (lN 0) 0 = 0 from (lg_cmp_eq _ _).mpr rfl)]
    rcases (show v = 0 ∨ v = 1 by omega) with rfl | rfl
    · rw [n00, if_neg hxn, if_pos rfl, pk_lDiv (by omega) hx0 (by omega)]
    · rw [if_neg (show ¬ nI 1 = 0 by decide), if_neg hxn, if_neg (by decide), pk_lDiv (by omega) hx0 (by omega)]
  refine ly_loop (fun _ (p : Nat × Nat) => ((lN p.1, lN p.2, m) : Int64 × Int64 × pmM)) 98 (fun i p => p.2 ≤ p.1 ∧ p.1 < 2 ^ 49 ∧ 0 < p.1 ∧ p.1 * p.2 < 2 ^ (98 - i) ∧ Nat.gcd p.1 p.2 = g) (fun R => R = pm_oL (cv v (up / g) (wh / g)) m) ?_ ?_ pm_N 0 (a0, b0) ⟨hba, ha, ha0, h0, hg⟩ (by omega) (by rw [pm_NE]; omega)
  · intro again i p hi hQ hn
    obtain ⟨x, y⟩ := p
    obtain ⟨q1, q2, q3, q4, q5⟩ := hQ
    simp only at q1 q2 q3 q4 q5 ⊢
    by_cases hy : y = 0
    · subst hy
      exact fin again x q3 q2 q5
    · unfold X9_chance_L212
      simp only
      rw [if_neg (fun e => by
        have := (pk_lEQ (a := y) (b := 0) (by omega) (by omega)).mp ((lg_cmp_eq _ _).mp e)
        omega), if_neg (fun e => by
        have := (pk_lEQ (a := y) (b := 0) (by omega) (by omega)).mp e
        omega), pk_lRem (by omega) (by omega) (by omega), ly_bL]
      have hlt : x % y < y := Nat.mod_lt _ (by omega)
      refine hn (y, x % y) ⟨by simp only; omega, by simp only; omega, by simp only; omega, ?_, ?_⟩
      · simp only
        have h1 : 2 * (x % y) ≤ x := by
          have h2 := Nat.div_add_mod x y
          have h3 : 1 ≤ x / y := Nat.div_pos q1 (by omega)
          have h4 : y * 1 ≤ y * (x / y) := Nat.mul_le_mul_left _ h3
          omega
        have h5 : y * (2 * (x % y)) ≤ y * x := Nat.mul_le_mul_left _ h1
        have h6 : y * (2 * (x % y)) = 2 * (y * (x % y)) := by rw [← Nat.mul_assoc, Nat.mul_comm y 2, Nat.mul_assoc]
        have h7 : y * x = x * y := Nat.mul_comm _ _
        have h8 : 2 ^ (98 - i) = 2 ^ (98 - (i + 1)) * 2 := by rw [← Nat.pow_succ, show (98 - (i + 1)).succ = 98 - i by omega]
        omega
      · simp only
        rw [← q5, Nat.gcd_comm x y, Nat.gcd_rec y x, Nat.gcd_comm]
  · intro again p hQ
    obtain ⟨x, y⟩ := p
    obtain ⟨q1, q2, q3, q4, q5⟩ := hQ
    simp only at q1 q2 q3 q4 q5 ⊢
    have hy : y = 0 := by
      rcases Nat.eq_zero_or_pos y with e | e
      · exact e
      · have := Nat.mul_pos q3 e
        rw [show (98 : Nat) - 98 = 0 from rfl, Nat.pow_zero] at q4
        omega
    subst hy
    exact fin again x q3 q2 q5
theorem sh_f : ∀ n, n < 13 → ((1 : Int64) <<< (((4 : Int32) * nI n).toInt64 &&& 63)) = lN (2 ^ (4 * n)) := by decide +kernel
theorem xr_M {Q e : Nat} {Rp : pmR → Prop} {a97 : Int32 × pmM → pmR} {x1 x2 x4 : Int32} (h : ly c S) (hQ : Q ≤ 16) (hK : (∀ i, i < 14 → K 592 i = lN (ex (16 - Q) Q e i)) ∧ K 594 0 = K2 594 0) (hR : ∀ K', (∀ i, i < 14 → K' 592 i = lN (ex (16 - Q) Q (e + 1) i)) ∧ K' 594 0 = K2 594 0 → Rp (a97 (nI (e + 1), (c, w, S, D, K')))) : Rp (pm_lp pm_N (X9_chance_L107 a97 108 x1 x2 (nI Q) x4 (nI e)) (13, (c, w, S, D, K))) := by
  rw [show ((13, (c, w, S, D, K)) : Int32 × pmM) = (dn 13 0, (c, w, S, D, K)) from rfl]
  refine ly_loop (fun t (K' : Nat → Nat → Int64) => ((dn 13 t, (c, w, S, D, K')) : Int32 × pmM)) 14 (fun t K' => (∀ i, i < 14 → K' 592 i = lN (if 13 < i + t then ex (16 - Q) Q (e + 1) i else ex (16 - Q) Q e i)) ∧ K' 594 0 = K2 594 0) Rp ?_ ?_ pm_N 0 K ⟨fun i hi => by rw [hK.1 i hi, if_neg (by omega)], hK.2⟩ (by omega) (by rw [pm_NE]; omega)
  · intro again t K' ht hQ2 hn
    obtain ⟨q1, q2⟩ := hQ2
    obtain ⟨i, hi⟩ : ∃ i, i = 13 - t := ⟨_, rfl⟩
    have e1 : K' 592 i = lN (ex (16 - Q) Q e i) := by rw [q1 i (by omega), if_neg (by omega)]
    have fin : ∀ z y : Nat, y + z = ex (16 - Q) Q (e + 1) i → Rp (X9_chance_j152 a97 again 108 x1 x2 (nI Q) x4 (nI e) (nI i) (lN z) (lN y) (nI i) 592 (c, w, S, D, K')) := fun z y hz => by
      unfold X9_chance_j152
      rw [ls_592 h (by omega), lN_add, hz, ly_bI]
      have hs : nI i + (-1) = dn 13 (t + 1) := by rw [hi]; exact dn_s (by omega)
      rw [hs]
      refine hn _ ⟨fun j hj => ?_, by rw [ly_vE, if_neg (by omega)]; exact q2⟩
      rw [ly_vE]
      by_cases e : j = i
      · rw [if_pos ⟨rfl, e⟩, if_pos (by omega), e]
      · rw [if_neg (fun e2 => e e2.2), q1 j hj]
        by_cases e3 : 13 < j + t
        · rw [if_pos e3, if_pos (by omega)]
        · rw [if_neg e3, if_neg (by omega)]
    unfold X9_chance_L107
    simp only
    rw [dn_i (by omega), ← hi, if_neg (nI_pos (by omega)), lr_108_52 h, lr_108_52 h, ld_592 h (by omega), e1, nI_l (by omega), lN_mul]
    cases i with
    | zero =>
      rw [if_pos (show nI 0 ≤ 0 by decide)]
      exact fin 0 _ (Nat.add_zero _)
    | succ i =>
      have e2 : K' 592 i = lN (ex (16 - Q) Q e i) := by rw [q1 i (by omega), if_neg (by omega)]
      rw [if_neg (show ¬ nI (i + 1) ≤ 0 from (show ¬ nI (i + 1) ≤ nI 0 from nI_ge (by omega) (by omega))), lr_108_52 h, nI_pred, ld_592 h (by omega), e2, show (16 : Int32) - nI Q = nI (16 - Q) from pk_sub (a := 16) hQ, nI_l (by omega), lN_mul]
      exact fin _ _ rfl
  · intro again K' hQ2
    unfold X9_chance_L107
    simp only
    rw [show dn 13 14 = -1 from rfl, if_pos (by decide), ly_bI, nI_1]
    exact hR K' ⟨fun i hi => by rw [hQ2.1 i hi, if_pos (by omega)], hQ2.2⟩
theorem ch_M {k Q v : Nat} (h : ly c S) (hn : n ≤ 12) (hk : k ≤ 13) (hQ : Q ≤ 16) (hv : v ≤ 1) : ∃ K', pm_lp pm_N (X9_chance_L64 108 (nI n) (nI k) (nI Q) (nI v)) (0, (c, w, S, D, K)) = pm_oL (cv v (us (ex (16 - Q) Q n) k 14 / Nat.gcd (2 ^ (4 * n)) (us (ex (16 - Q) Q n) k 14)) (2 ^ (4 * n) / Nat.gcd (2 ^ (4 * n)) (us (ex (16 - Q) Q n) k 14))) (c, w, S, D, K') ∧ K' 594 0 = K 594 0 := by
  have hp : 2 ^ (4 * n) ≤ 2 ^ 48 := Nat.pow_le_pow_right (by decide) (by omega)
  have hp0 : 0 < 2 ^ (4 * n) := Nat.two_pow_pos _
  have hup : us (ex (16 - Q) Q n) k 14 ≤ 2 ^ (4 * n) := by
    have h2 := us_le (f := ex (16 - Q) Q n) (k := k) (m := 14)
    have h3 := ux_b (p0 := 16 - Q) (q0 := Q) (by omega) n 14
    rw [show (16 : Nat) ^ n = 2 ^ (4 * n) from (Nat.pow_mul 2 4 n).symm] at h3
    omega
  generalize hU : us (ex (16 - Q) Q n) k 14 = U at hup ⊢
  refine ly_loop (fun i (K' : Nat → Nat → Int64) => ((nI i, (c, w, S, D, K')) : Int32 × pmM)) 14 (fun i K' => (∀ j, j < i → K' 592 j = lN (ex (16 - Q) Q 0 j)) ∧ K' 594 0 = K 594 0) (fun R => ∃ K', R = pm_oL (cv v (U / Nat.gcd (2 ^ (4 * n)) U) (2 ^ (4 * n) / Nat.gcd (2 ^ (4 * n)) U)) (c, w, S, D, K') ∧ K' 594 0 = K 594 0) ?_ ?_ pm_N 0 K ⟨fun j hj => by omega, rfl⟩ (by omega) (by rw [pm_NE]; omega)
  · intro again i K' hi hQ2 hnx
    have fin : ∀ z : Int64, z = lN (ex (16 - Q) Q 0 i) → ∃ K3, X9_chance_j87 again 108 (nI n) (nI k) (nI Q) (nI v) (nI i) z (nI i) 592 (c, w, S, D, K') = pm_oL (cv v (U / Nat.gcd (2 ^ (4 * n)) U) (2 ^ (4 * n) / Nat.gcd (2 ^ (4 * n)) U)) (c, w, S, D, K3) ∧ K3 594 0 = K 594 0 := fun z hz => by
      unfold X9_chance_j87
      rw [ls_592 h (by omega), ly_bI, nI_1]
      refine hnx _ ⟨fun j hj => ?_, by rw [ly_vE, if_neg (by omega)]; exact hQ2.2⟩
      rw [ly_vE]
      by_cases e : j = i
      · rw [if_pos ⟨rfl, e⟩, hz, e]
      · rw [if_neg (fun e2 => e e2.2)]; exact hQ2.1 j (by omega)
    unfold X9_chance_L64
    simp only
    rw [if_neg (show ¬ (14 : Int32) ≤ nI i from nI_ge (b := 14) hi (by omega)), lr_108_52 h]
    cases i with
    | zero => rw [n00]; exact fin 1 rfl
    | succ i =>
      rw [if_neg (nI_ne0 (by omega) (by omega))]
      exact fin 0 rfl
  · intro again K' hQ2
    unfold X9_chance_L64
    simp only
    rw [if_pos (show (14 : Int32) ≤ nI 14 by decide)]
    refine ly_loop (fun e (K' : Nat → Nat → Int64) => ((nI e, (c, w, S, D, K')) : Int32 × pmM)) n (fun e K' => (∀ j, j < 14 → K' 592 j = lN (ex (16 - Q) Q e j)) ∧ K' 594 0 = K 594 0) (fun R => ∃ K', R = pm_oL (cv v (U / Nat.gcd (2 ^ (4 * n)) U) (2 ^ (4 * n) / Nat.gcd (2 ^ (4 * n)) U)) (c, w, S, D, K') ∧ K' 594 0 = K 594 0) ?_ ?_ pm_N 0 K' hQ2 (by omega) (by rw [pm_NE]; omega)
    · intro again2 e K3 he hQ3 hn3
      unfold X9_chance_L97
      simp only
      rw [if_neg (nI_ge he (by omega))]
      exact xr_M (K2 := K) (Rp := fun R => ∃ K', R = pm_oL (cv v (U / Nat.gcd (2 ^ (4 * n)) U) (2 ^ (4 * n) / Nat.gcd (2 ^ (4 * n)) U)) (c, w, S, D, K') ∧ K' 594 0 = K 594 0) h hQ hQ3 (fun K4 hK4 => hn3 K4 hK4)
    · intro again2 K3 hQ3
      unfold X9_chance_L97
      simp only
      rw [if_pos (nI_le (Nat.le_refl _) (by omega)), sh_f n (by omega), ly_bL, show ((0, nI k, (c, w, S, D, K3)) : Int64 × Int32 × pmM) = (lN (us (ex (16 - Q) Q n) k k), nI k, (c, w, S, D, K3)) by rw [us_z (Nat.le_refl _)]; rfl]
      refine ly_loop (fun i (_ : Unit) => ((lN (us (ex (16 - Q) Q n) k i), nI i, (c, w, S, D, K3)) : Int64 × Int32 × pmM)) 14 (fun i _ => k ≤ i) (fun R => ∃ K', R = pm_oL (cv v (U / Nat.gcd (2 ^ (4 * n)) U) (2 ^ (4 * n) / Nat.gcd (2 ^ (4 * n)) U)) (c, w, S, D, K') ∧ K' 594 0 = K 594 0) ?_ ?_ pm_N k () (Nat.le_refl _) (by omega) (by rw [pm_NE]; omega)
      · intro again3 i _ hi hki hn4
        have hn4 := hn4 () (by omega)
        rw [us_s, if_pos hki] at hn4
        unfold X9_chance_L179
        simp only
        rw [if_neg (show ¬ (14 : Int32) ≤ nI i from nI_ge (b := 14) hi (by omega)), lr_108_52 h, ld_592 h (by omega), hQ3.1 i hi, lN_add, ly_bL, ly_bI, nI_1]
        exact hn4
      · intro again3 _ _
        unfold X9_chance_L179
        simp only
        rw [if_pos (show (14 : Int32) ≤ nI 14 by decide), hU, gd_M (g := Nat.gcd (2 ^ (4 * n)) U) hv (by omega) (by omega) hup (by omega) hp0 rfl]
        exact ⟨K3, rfl, hQ3.2⟩
theorem ca_chance (x y z v : Int32) (h : ly c S) (hJ : JJ I n wd q r a se W G) : ag isL (I 0) c w S (fun k => k) (X8_chance 64 x y z v (c, w, S, I, K)) (X9_chance 108 x y z v) := by
  by_cases ok : (0 ≤ x ∧ x ≤ 12) ∧ (0 ≤ y ∧ y ≤ 13) ∧ (0 ≤ z ∧ z ≤ 16) ∧ (0 ≤ v ∧ v ≤ 1)
  case neg =>
    refine ag_no (K := K) (k := 1) (b := .long 0) h hJ (by omega) ⟨_, rfl⟩ ?_ (fun c1 w1 S1 I1 K2 h1 hI => ?_)
    · have e : X8_chance_j35 64 x y z v 64 (c, w, S, I, K) = rX c w S I K 1 := by
        unfold X8_chance_j35 X8_chance_j36
        rw [lc_64 h, mu_cV h]
      have e56 : X8_chance_j56 x y z v 0 64 (c, w, S, I, K) = rX c w S I K 1 := by
        unfold X8_chance_j56
        rw [lc_64 h, mu_cV h]
      unfold X8_chance
      by_cases h1 : x < 0
      · rw [if_pos h1, e]
      · rw [if_neg h1]
        by_cases h2 : (12 : Int32) < x
        · rw [if_pos h2, e]
        · rw [if_neg h2]
          by_cases h3 : y < 0
          · rw [if_pos h3, e]
          · rw [if_neg h3]
            by_cases h4 : (13 : Int32) < y
            · rw [if_pos h4, e]
            · rw [if_neg h4]
              by_cases h5 : z < 0
              · rw [if_pos h5, e]
              · rw [if_neg h5]
                by_cases h6 : (16 : Int32) < z
                · rw [if_pos h6, e]
                · rw [if_neg h6]
                  unfold X8_chance_j36
                  rw [lc_64 h, mu_cV1]
                  have hv : ¬ (0 ≤ v ∧ v ≤ 1) := fun e7 => ok ⟨⟨Int32.not_lt.mp h1, Int32.not_lt.mp h2⟩, ⟨Int32.not_lt.mp h3, Int32.not_lt.mp h4⟩, ⟨Int32.not_lt.mp h5, Int32.not_lt.mp h6⟩, e7⟩
                  rw [if_neg (bool_no hv).1, if_neg (bool_no hv).2, e56]
    · have e : X9_chance_j46 108 x y z v 108 (c1, w1, S1, ly_u I1 108 0 0, K2) = pm_oL 0 (c1, w1, S1, bI I1 1 1, K2) := by
        unfold X9_chance_j46 X9_chance_j51
        rw [lc_108 h1, bad_11 h1, ly_cI, i10]
      unfold X9_chance
      rw [lp_108 h1, rm_in, ly_cI]
      by_cases e1 : 0 ≤ x ∧ x ≤ 12
      · rw [decide_eq_true e1, ib1, rm_in, ly_cI]
        by_cases e2 : 0 ≤ y ∧ y ≤ 13
        · rw [decide_eq_true e2, ib1, rm_in, ly_cI]
          by_cases e3 : 0 ≤ z ∧ z ≤ 16
          · rw [decide_eq_true e3, ib1, rm_in, ly_cI]
            by_cases e4 : 0 ≤ v ∧ v ≤ 1
            · exact absurd ⟨e1, e2, e3, e4⟩ ok
            · rw [decide_eq_false e4, ib0, e]
          · rw [decide_eq_false e3, ib0, e]
        · rw [decide_eq_false e2, ib0, e]
      · rw [decide_eq_false e1, ib0, e]
  obtain ⟨hx, hy, hz, hv⟩ := ok
  obtain ⟨m, hm, rfl⟩ := nI_of2 (n := 12) rfl (nI_lt0 hx.1) hx.2
  obtain ⟨k, hk, rfl⟩ := nI_of2 (n := 13) rfl (nI_lt0 hy.1) hy.2
  obtain ⟨Q, hQ, rfl⟩ := nI_of2 (n := 16) rfl (nI_lt0 hz.1) hz.2
  obtain ⟨v, hv1, rfl⟩ := nI_of2 (n := 1) rfl (nI_lt0 hv.1) hv.2
  have hU : us (cF m Q) k (m + 1) = us (ex (16 - Q) Q m) k 14 := by
    rw [us_c (g := ex (16 - Q) Q m) (fun i hi => cF_x (by omega) (by omega))]
    have := us_e (f := ex (16 - Q) Q m) (k := k) (m := m + 1) (fun i hi => by rw [ex_c, cb_0 (by omega)]; simp) (t := 14 - (m + 1))
    rw [show m + 1 + (14 - (m + 1)) = 14 by omega] at this
    exact this.symm
  refine ag_ro (v := .long (cv v (us (ex (16 - Q) Q m) k 14 / Nat.gcd (2 ^ (4 * m)) (us (ex (16 - Q) Q m) k 14)) (2 ^ (4 * m) / Nat.gcd (2 ^ (4 * m)) (us (ex (16 - Q) Q m) k 14)))) (I1 := I) (K1 := K) h hJ ⟨_, rfl⟩ ?_ same_r (fun hJ1 K2 => ?_)
  · have key := ch_C (m := (c, w, S, I, K)) hm hk hQ hv1
    rw [hU, rdc_g] at key
    unfold X8_chance X8_chance_j36 X8_chance_j51 X8_chance_j56
    rw [if_neg (Int32.not_lt.mpr hx.1), if_neg (Int32.not_lt.mpr hx.2), if_neg (Int32.not_lt.mpr hy.1), if_neg (Int32.not_lt.mpr hy.2), if_neg (Int32.not_lt.mpr hz.1), if_neg (Int32.not_lt.mpr hz.2), lc_64 h, mu_cV1]
    rcases (show v = 0 ∨ v = 1 by omega) with rfl | rfl
    · rw [n00, lc_64 h, mu_cV1, key]
    · rw [if_neg (show ¬ nI 1 = 0 by decide), if_pos (show nI 1 = 1 from rfl), lc_64 h, mu_cV1, key]
  · obtain ⟨K3, k1, k2⟩ := ch_M (w := w) (D := ly_u I 108 0 0) (K := K2) h hm hk hQ hv1
    refine ⟨ly_u I 108 0 0, K3, ?_, z0', s0, k2⟩
    unfold X9_chance X9_chance_j51
    rw [lp_108 h, rm_in, ly_cI, decide_eq_true hx, ib1, rm_in, ly_cI, decide_eq_true hy, ib1, rm_in, ly_cI, decide_eq_true hz, ib1, rm_in, ly_cI, decide_eq_true hv, ib1, lc_108 h, bad_z h, ly_cI, i00, k1]
end CHN
