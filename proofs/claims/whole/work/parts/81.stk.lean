/-! strokes, best: the model -/
section STM
variable {c w : Nat} {S : Nat → pmS} {I I1 I2 J A D : Nat → Nat → Int32} {K K1 K2 : Nat → Nat → Int64} {n : Nat} {wd : Nat → Nat} {q : Nat → Nat → Nat} {r : Nat → Int32} {a : Nat} {se : Nat → Nat} {W G d : Nat} {N b ai ak : Nat} {y t hd : Nat} {f g : Nat → vS}
def P562 (i _j : Nat) : Prop := i = 562
def bK (x : Nat) (K K' : Nat → Nat → Int64) : Prop := ∀ i k, i ≠ x → K' i k = K i k
theorem co_M {j z : Nat} {s : Int64} (h : ly c S) (hj : j < 26) (hg : TT 9999 562 564 g b I K) (hz : z ≤ b) (hb : b ≤ 60) : ∃ I' K', X9_comes 108 (nI j) (nI z) s (c, w, S, I, K) = pm_oV (c, w, S, I', K') ∧ TT 9999 562 564 (fu g j (jn (g j) (some (z, s)))) b I' K' ∧ only P562 I I' ∧ bK 564 K K' := by
  have hc := hg j hj
  have stt : ∀ v s2, cE 9999 b v (nI z) s2 → ∃ I' K', X9_comes_j38 108 (nI j) (nI z) s2 (nI j) 564 (c, w, S, I, K) = pm_oV (c, w, S, I', K') ∧ TT 9999 562 564 (fu g j v) b I' K' ∧ only P562 I I' ∧ bK 564 K K' := fun v s2 hv => by
    unfold X9_comes_j38
    rw [ls_564 h hj, lr_108_44 h, ls_562 h hj]
    exact ⟨_, _, rfl, TT_u hg hv, only_u only_r rfl, fun i k hi => by rw [ly_vE, if_neg (fun e => hi e.1)]⟩
  unfold X9_comes
  rw [lr_108_44 h, ld_562 h hj]
  cases hu : g j with
  | none =>
    rw [hu] at hc
    have hc : I 562 j = nI 9999 := hc
    rw [hc, if_pos (nI_le (by omega) (by omega)), lr_108_46 h, lr_108_44 h, ld_562 h hj, hc, if_neg (nI_ge (by omega) (by omega))]
    exact stt _ s ⟨hz, rfl, rfl⟩
  | some p =>
    rw [hu] at hc
    obtain ⟨c1, c2, c3⟩ := hc
    rw [c2]
    simp only [jn]
    by_cases h1 : z < p.1
    · rw [if_pos (nI_le (by omega) (by omega)), if_pos h1, lr_108_46 h, lr_108_44 h, ld_562 h hj, c2, if_neg (nI_ge h1 (by omega))]
      exact stt _ s ⟨hz, rfl, rfl⟩
    · rw [if_neg h1]
      by_cases h2 : z = p.1
      · rw [if_pos h2, if_pos (nI_le (by omega) (by omega)), lr_108_46 h, lr_108_44 h, ld_562 h hj, c2, if_pos (nI_le (by omega) (by omega)), lr_108_46 h, ld_564 h hj]
        exact stt _ _ ⟨c1, by rw [h2], by rw [c3]⟩
      · rw [if_neg h2, if_neg (nI_ge (by omega) (by omega))]
        refine ⟨I, K, rfl, TT_c hg (fun i hi => ?_), only_r, fun i k hi => rfl⟩
        by_cases e : i = j
        · rw [e, fu_s, hu]
        · rw [fu_n e]
theorem dv_f : ∀ i, i < 26 → nI i / (2 : Int32) = nI (i / 2) ∧ (nI i - nI i / 2 * 2) = nI (i % 2) := by decide +kernel
def ee (τ hd i : Nat) : Nat := if τ = 1 ∧ (hd = 1 ∨ i % 2 = 0) then 1 else 0
theorem ee_1 {τ i : Nat} : ee τ hd i ≤ 1 := by unfold ee; split <;> omega
theorem go_M {x bb i p k τ : Nat} {s : Int64} (h : ly c S) (hi : i < 26) (hp : p < 48) (h559 : I 559 p = nI x) (hx : x ≤ 1) (h560 : I 560 p = nI hd) (hh : hd ≤ 1) (hb1 : bb ≤ 1) (hτ : τ = if x = bb then 1 else 0) (hf : TT 9999 561 563 f b I K) (hfi : f i = some (k, s)) (hg : TT 9999 562 564 g (b + 1) I K) (hb : b < 60) (hj : 2 * (i / 2 + bb) + τ < 26) : ∃ I' K', X9_goesOver 108 (nI p) (nI i) (nI bb) (c, w, S, I, K) = pm_oV (c, w, S, I', K') ∧ TT 9999 562 564 (fu g (2 * (i / 2 + bb) + τ) (jn (g (2 * (i / 2 + bb) + τ)) (upv (ee τ hd i) (f i)))) (b + 1) I' K' ∧ only P562 I I' ∧ bK 564 K K' := by
  have hc := hf i hi
  rw [hfi] at hc
  obtain ⟨c1, c2, c3⟩ := hc
  simp only at c1 c2 c3
  have hτ1 : τ ≤ 1 := by rw [hτ]; split <;> omega
  have he := ee_1 (hd := hd) (τ := τ) (i := i)
  obtain ⟨I', K', r1, r2, r3, r4⟩ := co_M (w := w) (j := 2 * (i / 2 + bb) + τ) (z := k + ee τ hd i) (s := s) h hj hg (by omega) (by omega)
  rw [hfi]
  refine ⟨I', K', ?_, r2, r3, r4⟩
  have e90 : X9_goesOver_j90 108 (nI i) (nI (ee τ hd i)) (nI k) (nI (2 * (i / 2 + bb) + τ)) 108 (c, w, S, I, K) = pm_oV (c, w, S, I', K') := by
    unfold X9_goesOver_j90
    rw [lr_108_45 h, ld_563 h hi, c3, lc_108 h, nI_add, r1, ly_cV]
  have e58 : ∀ ah, ah = (if hd = 1 then 0 else i % 2) → X9_goesOver_j58 108 (nI i) (nI (i / 2 + bb)) (nI τ) (nI ah) (c, w, S, I, K) = pm_oV (c, w, S, I', K') := by
    intro ah hah
    have hah1 : ah ≤ 1 := by rw [hah]; split <;> omega
    unfold X9_goesOver_j58 X9_goesOver_j89
    rw [lr_108_43 h, ld_561 h hi, c2, dbl, nI_add]
    by_cases h1 : τ = 1
    · rw [if_pos (by rw [h1]; rfl)]
      by_cases h2 : ah = 0
      · have : ee τ hd i = 1 := by
          unfold ee
          rw [if_pos ⟨h1, by rw [hah] at h2; by_cases e : hd = 1; exact Or.inl e; rw [if_neg e] at h2; exact Or.inr h2⟩]
        rw [if_pos (by rw [h2]; rfl)]
        rw [this] at e90
        exact e90
      · have : ee τ hd i = 0 := by
          unfold ee
          rw [if_neg (fun e => h2 (by
            rw [hah]
            rcases e.2 with e2 | e2
            · rw [if_pos e2]
            · split <;> omega))]
        rw [if_neg (nI_ne0 (by omega) (by omega))]
        rw [this] at e90
        exact e90
    · have : ee τ hd i = 0 := by unfold ee; rw [if_neg (fun e => h1 e.1)]
      rw [if_neg (show ¬ nI τ = 1 from fun e => h1 ((nI_eq (b := 1) (by omega) (by omega)).mp e))]
      rw [this] at e90
      exact e90
  have e39 : X9_goesOver_j39 108 (nI p) (nI i) (nI (i / 2 + bb)) (nI τ) (c, w, S, I, K) = pm_oV (c, w, S, I', K') := by
    unfold X9_goesOver_j39
    rw [lr_108_42 h, ld_560 h hp, h560]
    by_cases h1 : hd = 1
    · rw [if_pos (by rw [h1]; rfl)]
      exact e58 0 (by rw [if_pos h1])
    · rw [if_neg (show ¬ nI hd = 1 from fun e => h1 ((nI_eq (b := 1) (by omega) (by omega)).mp e)), if_neg (show ¬ (2 : Int32) = 0 by decide), (dv_f i hi).2]
      exact e58 _ (by rw [if_neg h1])
  have e30 : X9_goesOver_j30 108 (nI p) (nI i) (nI bb) (nI (i / 2 + bb)) (nI x) (c, w, S, I, K) = pm_oV (c, w, S, I', K') := by
    unfold X9_goesOver_j30
    by_cases h1 : x = bb
    · rw [if_pos h1] at hτ
      rw [if_pos (by rw [h1])]
      rw [hτ] at e39
      exact e39
    · rw [if_neg h1] at hτ
      rw [if_neg (fun e => h1 ((nI_eq (by omega) (by omega)).mp e))]
      rw [hτ] at e39
      exact e39
  have e12 : X9_goesOver_j12 108 (nI p) (nI i) (nI bb) (nI bb) (nI (i / 2)) (c, w, S, I, K) = pm_oV (c, w, S, I', K') := by
    unfold X9_goesOver_j12
    rw [nI_add, ly_bI, lr_108_41 h, ld_559 h hp, h559]
    rcases (show x = 0 ∨ x = 1 by omega) with rfl | rfl
    · rw [if_neg (show ¬ nI 0 = 1 by decide)]; exact e30
    · rw [if_pos (show nI 1 = 1 from rfl)]; exact e30
  unfold X9_goesOver
  rw [if_neg (show ¬ (2 : Int32) = 0 by decide), (dv_f i hi).1]
  rcases (show bb = 0 ∨ bb = 1 by omega) with rfl | rfl
  · rw [n00]; exact e12
  · rw [if_neg (show ¬ nI 1 = 0 by decide)]; exact e12
/-- what is come to behind so many states -/
def ac (se : Nat → Nat) (a y t hd : Nat) (f : Nat → vS) : Nat → Nat → vS
  | 0 => fun _ => none
  | i + 1 => fun j => if j = 2 * (i / 2 + 1) + (1 - t) ∧ i / 2 < a ∧ se (i / 2) = y then jn (ac se a y t hd f i j) (upv (ee (1 - t) hd i) (f i)) else if j = 2 * (i / 2) + t then jn (ac se a y t hd f i j) (upv (ee t hd i) (f i)) else ac se a y t hd f i j
theorem ac_s {i j : Nat} : ac se a y t hd f (i + 1) j = if j = 2 * (i / 2 + 1) + (1 - t) ∧ i / 2 < a ∧ se (i / 2) = y then jn (ac se a y t hd f i j) (upv (ee (1 - t) hd i) (f i)) else if j = 2 * (i / 2) + t then jn (ac se a y t hd f i j) (upv (ee t hd i) (f i)) else ac se a y t hd f i j := rfl
theorem ac_st {j i1 : Nat} : ∀ (u : Nat), (∀ i, i1 ≤ i → i < i1 + u → ¬ j = 2 * (i / 2) + t ∧ ¬ (j = 2 * (i / 2 + 1) + (1 - t) ∧ i / 2 < a ∧ se (i / 2) = y)) → ac se a y t hd f (i1 + u) j = ac se a y t hd f i1 j
  | 0, _ => rfl
  | u + 1, h => by
    have h1 := h (i1 + u) (by omega) (by omega)
    rw [show i1 + (u + 1) = i1 + u + 1 by omega, ac_s, if_neg h1.2, if_neg h1.1]
    exact ac_st u (fun i a1 a2 => h i a1 (by omega))
theorem ac_a {m : Nat} (ht : t ≤ 1) (hm : m ≤ 12) : ac se a y t hd f 26 (2 * m + t) = jn (upv (ee t hd (2 * m)) (f (2 * m))) (upv (ee t hd (2 * m + 1)) (f (2 * m + 1))) := by
  have h1 := ac_st (se := se) (a := a) (y := y) (t := t) (hd := hd) (f := f) (j := 2 * m + t) (i1 := 0) (2 * m) (fun i _ hi => ⟨by omega, fun e => by omega⟩)
  rw [Nat.zero_add] at h1
  have h2 : ac se a y t hd f (2 * m + 1) (2 * m + t) = upv (ee t hd (2 * m)) (f (2 * m)) := by
    rw [ac_s, if_neg (fun e => by omega), if_pos (by omega), h1]; rfl
  have h3 : ac se a y t hd f (2 * m + 2) (2 * m + t) = jn (upv (ee t hd (2 * m)) (f (2 * m))) (upv (ee t hd (2 * m + 1)) (f (2 * m + 1))) := by
    rw [show 2 * m + 2 = 2 * m + 1 + 1 from rfl, ac_s, if_neg (fun e => by omega), if_pos (by omega), h2]
  have h4 := ac_st (se := se) (a := a) (y := y) (t := t) (hd := hd) (f := f) (j := 2 * m + t) (i1 := 2 * m + 2) (24 - 2 * m) (fun i hi _ => ⟨by omega, fun e => by omega⟩)
  rw [show 2 * m + 2 + (24 - 2 * m) = 26 by omega] at h4
  rw [h4, h3]
theorem ac_b {m : Nat} (ht : t ≤ 1) (hm : m ≤ 12) : ac se a y t hd f 26 (2 * m + (1 - t)) = if 1 ≤ m ∧ m ≤ a ∧ se (m - 1) = y then jn (upv (ee (1 - t) hd (2 * (m - 1))) (f (2 * (m - 1)))) (upv (ee (1 - t) hd (2 * (m - 1) + 1)) (f (2 * (m - 1) + 1))) else none := by
  by_cases hc : 1 ≤ m ∧ m ≤ a ∧ se (m - 1) = y
  · rw [if_pos hc]
    obtain ⟨u, rfl⟩ : ∃ u, m = u + 1 := ⟨m - 1, by omega⟩
    rw [show u + 1 - 1 = u by omega] at hc ⊢
    have h1 := ac_st (se := se) (a := a) (y := y) (t := t) (hd := hd) (f := f) (j := 2 * (u + 1) + (1 - t)) (i1 := 0) (2 * u) (fun i _ hi => ⟨by omega, fun e => by omega⟩)
    rw [Nat.zero_add] at h1
    have h2 : ac se a y t hd f (2 * u + 1) (2 * (u + 1) + (1 - t)) = upv (ee (1 - t) hd (2 * u)) (f (2 * u)) := by
      rw [ac_s, show 2 * u / 2 = u by omega, if_pos ⟨rfl, by omega, hc.2.2⟩, h1]; rfl
    have h3 : ac se a y t hd f (2 * u + 2) (2 * (u + 1) + (1 - t)) = jn (upv (ee (1 - t) hd (2 * u)) (f (2 * u))) (upv (ee (1 - t) hd (2 * u + 1)) (f (2 * u + 1))) := by
      rw [show 2 * u + 2 = 2 * u + 1 + 1 from rfl, ac_s, show (2 * u + 1) / 2 = u by omega, if_pos ⟨rfl, by omega, hc.2.2⟩, h2]
    have h4 := ac_st (se := se) (a := a) (y := y) (t := t) (hd := hd) (f := f) (j := 2 * (u + 1) + (1 - t)) (i1 := 2 * u + 2) (24 - 2 * u) (fun i hi _ => ⟨by omega, fun e => by omega⟩)
    rw [show 2 * u + 2 + (24 - 2 * u) = 26 by omega] at h4
    rw [h4, h3]
  · rw [if_neg hc]
    have h1 := ac_st (se := se) (a := a) (y := y) (t := t) (hd := hd) (f := f) (j := 2 * m + (1 - t)) (i1 := 0) 26 (fun i _ hi => ⟨by omega, fun e => hc (by
      have e1 : m = i / 2 + 1 := by omega
      rw [e1, show i / 2 + 1 - 1 = i / 2 by omega]
      exact ⟨by omega, by omega, e.2.2⟩)⟩)
    rw [Nat.zero_add] at h1
    rw [h1]; rfl
theorem ee_e {m : Nat} (ht : t ≤ 1) : ee t hd (2 * m) = t := by
  unfold ee
  rcases (show t = 0 ∨ t = 1 by omega) with rfl | rfl
  · rw [if_neg (fun e => absurd e.1 (by decide))]
  · rw [if_pos ⟨rfl, Or.inr (by omega)⟩]
theorem ee_o0 {m : Nat} : ee t 0 (2 * m + 1) = 0 := by
  unfold ee
  rw [if_neg (fun e => by
    rcases e.2 with e2 | e2
    · exact absurd e2 (by decide)
    · omega)]
theorem ee_o1 {m : Nat} (ht : t ≤ 1) : ee t 1 (2 * m + 1) = t := by
  unfold ee
  rcases (show t = 0 ∨ t = 1 by omega) with rfl | rfl
  · rw [if_neg (fun e => absurd e.1 (by decide))]
  · rw [if_pos ⟨rfl, Or.inl rfl⟩]
def ded (a : Nat) (f : Nat → vS) : Prop := ∀ j, j < 26 → a < j / 2 → f j = none
theorem j_sp {j : Nat} (ht : t ≤ 1) : j = 2 * (j / 2) + t ∨ j = 2 * (j / 2) + (1 - t) := by omega
theorem ac_d (ht : t ≤ 1) (hf : ded a f) : ded a (ac se a y t hd f 26) := by
  intro j hj hm
  rcases j_sp (j := j) ht with e | e
  · rw [e, ac_a ht (by omega), hf (2 * (j / 2)) (by omega) (by omega), hf (2 * (j / 2) + 1) (by omega) (by omega)]; rfl
  · rw [e, ac_b ht (by omega), if_neg (by omega)]
theorem ac_0 {j : Nat} (ht : t ≤ 1) (hf : ded a f) (hj : j < 26) : ac se a y t 0 f 26 j = fs se a y t f j := by
  by_cases hm : j / 2 ≤ a
  · rcases j_sp (j := j) ht with e | e
    · rw [e, ac_a ht (by omega), fs_a ht hm, ee_e ht, ee_o0, upv_0]
    · rw [e, ac_b ht (by omega), fs_b ht hm, ee_e (by omega), ee_o0, upv_0]
      by_cases hc : 1 ≤ j / 2 ∧ se (j / 2 - 1) = y
      · rw [if_pos hc, if_pos ⟨hc.1, hm, hc.2⟩]
      · rw [if_neg hc, if_neg (fun e => hc ⟨e.1, e.2.2⟩)]
  · rw [ac_d ht hf j hj (by omega), fs_c hm, hf j hj (by omega)]
theorem en_e {m : Nat} (hm : m ≤ a) : en a f (2 * m) = jn (f (2 * m)) (f (2 * m + 1)) := by
  unfold en
  rw [if_pos (by omega), if_pos (by omega)]
theorem en_o {m : Nat} (hm : m ≤ a) : en a f (2 * m + 1) = none := by
  unfold en
  rw [if_pos (by omega), if_neg (by omega)]
theorem ac_1 {j : Nat} (ht : t ≤ 1) (hf : ded a f) (hj : j < 26) : ac se a y t 1 f 26 j = fs se a y t (en a f) j := by
  by_cases hm : j / 2 ≤ a
  · rcases j_sp (j := j) ht with e | e
    · rw [e, ac_a ht (by omega), fs_a ht hm, ee_e ht, ee_o1 ht, en_e hm, en_o hm, jn_n, upv_j]
    · rw [e, ac_b ht (by omega), fs_b ht hm, ee_e (by omega), ee_o1 (by omega)]
      by_cases hc : 1 ≤ j / 2 ∧ se (j / 2 - 1) = y
      · rw [if_pos hc, if_pos ⟨hc.1, hm, hc.2⟩, en_e (by omega), en_o (by omega), jn_n, upv_j]
      · rw [if_neg hc, if_neg (fun e => hc ⟨e.1, e.2.2⟩)]
  · rw [ac_d ht hf j hj (by omega), fs_c hm]
    unfold en
    rw [if_neg hm, hf j hj (by omega)]
theorem fs_g {j : Nat} (he : ∀ j, j < 26 → f j = g j) (hj : j < 26) : fs se a y t f j = fs se a y t g j := by
  unfold fs
  rw [he (2 * (j / 2)) (by omega), he (2 * (j / 2) + 1) (by omega), he j hj, he (2 * (j / 2 - 1)) (by omega), he (2 * (j / 2 - 1) + 1) (by omega)]
theorem en_g {j : Nat} (he : ∀ j, j < 26 → f j = g j) (hj : j < 26) : en a f j = en a g j := by
  unfold en
  by_cases h1 : j % 2 = 0
  · rw [he j hj, he (j + 1) (by omega)]
  · rw [he j hj, if_neg h1, if_neg h1]
/-- the tables of the page in one row -/
def mf (se : Nat → Nat) (a : Nat) (Y X H : Nat → Nat) : Nat → Nat → vS
  | 0 => T0
  | p + 1 => ac se a (Y p) (1 - X p) (H p) (mf se a Y X H p) 26
theorem mf_d {Y X H : Nat → Nat} : ∀ (p : Nat), ded a (mf se a Y X H p)
  | 0 => fun j _ hm => if_neg (by omega)
  | p + 1 => ac_d (by omega) (mf_d p)
theorem mf_l {Y X H : Nat → Nat} {s : Nat → Nat} (hW : pg_W n wd q) (hY : ∀ l, l < n → ∀ i, i < wd l → Y (rd_sum wd l + i) = q l i ∧ 1 - X (rd_sum wd l + i) = tb0 s l i ∧ H (rd_sum wd l + i) = if i = 0 then 1 else 0) : ∀ l, l ≤ n → ∀ j, j < 26 → en a (mf se a Y X H (rd_sum wd l)) j = gl se a wd q s l j := by
  intro l
  induction l with
  | zero =>
    intro _ j hj
    show en a T0 j = T0 j
    unfold en T0
    by_cases e : j = 0
    · rw [e]; simp [jn]
    · rw [if_neg e]
      by_cases h1 : j / 2 ≤ a
      · rw [if_pos h1]
        by_cases h2 : j % 2 = 0
        · rw [if_pos h2, if_neg (by omega)]; rfl
        · rw [if_neg h2]
      · rw [if_neg h1]
  | succ l ih =>
    intro hl j hj
    have hw := hW.2.1 l (by omega)
    have ih := ih (by omega)
    have hin : ∀ i, i + 1 ≤ wd l → ∀ j, j < 26 → mf se a Y X H (rd_sum wd l + (i + 1)) j = gw se a q s (gl se a wd q s l) l (i + 1) j := by
      intro i
      induction i with
      | zero =>
        intro hi j hj
        obtain ⟨y1, y2, y3⟩ := hY l (by omega) 0 (by omega)
        rw [if_pos rfl] at y3
        show ac se a (Y (rd_sum wd l + 0)) (1 - X (rd_sum wd l + 0)) (H (rd_sum wd l + 0)) (mf se a Y X H (rd_sum wd l + 0)) 26 j = fs se a (q l 0) (tb0 s l 0) (gl se a wd q s l) j
        rw [y1, y2, y3, ac_1 (by unfold tb0; split <;> omega) (mf_d _) hj]
        exact fs_g (fun j hj => ih j hj) hj
      | succ i ih2 =>
        intro hi j hj
        obtain ⟨y1, y2, y3⟩ := hY l (by omega) (i + 1) (by omega)
        rw [if_neg (by omega)] at y3
        show ac se a (Y (rd_sum wd l + (i + 1))) (1 - X (rd_sum wd l + (i + 1))) (H (rd_sum wd l + (i + 1))) (mf se a Y X H (rd_sum wd l + (i + 1))) 26 j = fs se a (q l (i + 1)) (tb0 s l (i + 1)) (gw se a q s (gl se a wd q s l) l (i + 1)) j
        rw [y1, y2, y3, ac_0 (by unfold tb0; split <;> omega) (mf_d _) hj]
        exact fs_g (fun j hj => ih2 (by omega) j hj) hj
    have h1 := hin (wd l - 1) (by omega)
    rw [show wd l - 1 + 1 = wd l by omega] at h1
    show en a (mf se a Y X H (rd_sum wd l + wd l)) j = en a (gw se a q s (gl se a wd q s l) l (wd l)) j
    exact en_g h1 hj
def P5 (i _j : Nat) : Prop := i = 561 ∨ i = 562
theorem P5_s (h : only P5 I I1) : same I I1 := fun i j hn => h i j (fun e => hn (by unfold P5 at e; unfold sc; omega))
def K5 (K K' : Nat → Nat → Int64) : Prop := K' 594 0 = K 594 0
/-- one word, the model -/
theorem lw_M {p : Nat} {X Y H : Nat} {Rp : pmR → Prop} {a53 : Int32 × pmM → pmR} {x1 : Int32} (h : ly c S) (hp : p < 48) (hX : X ≤ 1) (hY : Y < 16) (hH : H ≤ 1) (hD : ∀ E, only P5 D E → E 558 p = nI Y ∧ E 559 p = nI X ∧ E 560 p = nI H ∧ E 108 33 = nI a ∧ ∀ k, k < a → E 452 k = nI (se k) ∧ se k < 16) (ha : a ≤ 12) (hb : b < 60) (hI : only P5 D I) (hf : TT 9999 561 563 f b I K) (hK : K5 K2 K) (hR : ∀ I' K', only P5 D I' → TT 9999 561 563 (ac se a Y (1 - X) H f 26) (b + 1) I' K' → K5 K2 K' → Rp (a53 (nI (p + 1), (c, w, S, I', K')))) : Rp (pm_lp pm_N (X9_laysStrokes_L60 a53 108 x1 (nI p)) (0, (c, w, S, I, K))) := by
  refine ly_loop (fun i (z : (Nat → Nat → Int32) × (Nat → Nat → Int64)) => ((nI i, (c, w, S, z.1, z.2)) : Int32 × pmM)) 26 (fun i z => (∀ j, j < i → z.1 562 j = 9999) ∧ TT 9999 561 563 f b z.1 z.2 ∧ only P5 D z.1 ∧ K5 K2 z.2) Rp ?_ ?_ pm_N 0 (I, K) ⟨fun j hj => by omega, hf, hI, hK⟩ (by omega) (by rw [pm_NE]; omega)
  · intro again i z hi hQ hn
    obtain ⟨q1, q2, q3, q4⟩ := hQ
    unfold X9_laysStrokes_L60
    simp only
    rw [if_neg (show ¬ (26 : Int32) ≤ nI i from nI_ge (b := 26) hi (by omega)), lr_108_44 h, ls_562 h hi, lr_108_46 h, ls_564 h hi, ly_bI, nI_1]
    refine hn (ly_u z.1 562 i 9999, ly_v z.2 564 i 0) ⟨fun j hj => ?_, fun j hj => ?_, only_u q3 (Or.inr rfl), ?_⟩
    · show ly_u z.1 562 i 9999 562 j = 9999
      rw [ly_uE]
      by_cases e : j = i
      · rw [if_pos ⟨rfl, e⟩]
      · rw [if_neg (fun e2 => e e2.2)]; exact q1 j (by omega)
    · show cE 9999 b (f j) (ly_u z.1 562 i 9999 561 j) (ly_v z.2 564 i 0 563 j)
      rw [ly_uE, ly_vE, if_neg (by omega), if_neg (by omega)]; exact q2 j hj
    · show ly_v z.2 564 i 0 594 0 = K2 594 0
      rw [ly_vE, if_neg (by omega)]; exact q4
  · intro again z hQ
    obtain ⟨B, L⟩ := z
    obtain ⟨q1, q2, q3, q4⟩ := hQ
    simp only at q1 q2 q3 q4
    unfold X9_laysStrokes_L60
    simp only
    rw [if_pos (show (26 : Int32) ≤ nI 26 by decide)]
    refine ly_loop (fun i (z : (Nat → Nat → Int32) × (Nat → Nat → Int64)) => ((nI i, (c, w, S, z.1, z.2)) : Int32 × pmM)) 26 (fun i z => TT 9999 562 564 (ac se a Y (1 - X) H f i) (b + 1) z.1 z.2 ∧ TT 9999 561 563 f b z.1 z.2 ∧ only P5 D z.1 ∧ K5 K2 z.2) Rp ?_ ?_ pm_N 0 (B, L) ⟨fun j hj => q1 j hj, q2, q3, q4⟩ (by omega) (by rw [pm_NE]; omega)
    · intro again2 i z hi hQ hn
      obtain ⟨B, L⟩ := z
      obtain ⟨q1, q2, q3, q4⟩ := hQ
      simp only at q1 q2 q3 q4
      obtain ⟨d1, d2, d3, d4, d5⟩ := hD B q3
      have hc := q2 i hi
      unfold X9_laysStrokes_L90 X9_laysStrokes_j152
      simp only
      rw [lr_108_43 h, ld_561 h hi]
      cases hfi : f i with
      | none =>
        rw [hfi] at hc
        have hc : B 561 i = nI 9999 := hc
        rw [hc, if_neg (show ¬ (26 : Int32) ≤ nI i from nI_ge (b := 26) hi (by omega)), if_pos (show nI 9999 = 9999 from rfl), ly_bI, nI_1]
        refine hn (B, L) ⟨TT_c q1 (fun j hj => ?_), q2, q3, q4⟩
        rw [ac_s, hfi]
        simp only [upv, jn_n]
        split
        · rfl
        · split <;> rfl
      | some pp =>
        obtain ⟨k, s⟩ := pp
        rw [hfi] at hc
        obtain ⟨c1, c2, c3⟩ := hc
        simp only at c1 c2 c3
        obtain ⟨B2, L2, g1, g2, g3, g4⟩ := go_M (w := w) (bb := 0) (p := p) (i := i) (x := X) (hd := H) (τ := 1 - X) h hi hp d2 hX d3 hH (by omega) (by rcases (show X = 0 ∨ X = 1 by omega) with rfl | rfl <;> rfl) q2 hfi q1 hb (by omega)
        have o2 : only P5 D B2 := only_t q3 (only_m g3 (fun _ _ e => Or.inr e))
        have f2 : TT 9999 561 563 f b B2 L2 := fun j hj => by rw [g3 561 j (by unfold P562; omega), g4 563 j (by omega)]; exact q2 j hj
        have k2 : K5 K2 L2 := (g4 594 0 (by omega)).trans q4
        obtain ⟨e1, e2, e3, e4, e5⟩ := hD B2 o2
        rw [c2, if_neg (show ¬ (26 : Int32) ≤ nI i from nI_ge (b := 26) hi (by omega)), if_neg (fun e => by
          have := (nI_eq (b := 9999) (by omega) (by omega)).mp e
          omega), lc_108 h, show X9_goesOver 108 (nI p) (nI i) 0 (c, w, S, B, L) = X9_goesOver 108 (nI p) (nI i) (nI 0) (c, w, S, B, L) from rfl, g1, ly_cV, if_neg (show ¬ (2 : Int32) = 0 by decide), lg_108 h, e4, (dv_f i hi).1]
        by_cases ha2 : a ≤ i / 2
        · rw [if_pos (nI_le ha2 (by omega)), ly_bI, nI_1]
          refine hn (B2, L2) ⟨TT_c g2 (fun j hj => ?_), f2, o2, k2⟩
          rw [ac_s, if_neg (by omega)]
          unfold fu
          by_cases ej : j = 2 * (i / 2) + (1 - X)
          · rw [if_pos ej, if_pos (by omega), ej]; rfl
          · rw [if_neg ej, if_neg (by omega)]
        · have hse := e5 (i / 2) (by omega)
          rw [if_neg (nI_ge (by omega) (by omega)), lr_108_25 h, if_neg (show ¬ (2 : Int32) = 0 by decide), ld_452 h (by omega), hse.1, lr_108_40 h, ld_558 h hp, e1]
          by_cases hq : se (i / 2) = Y
          · obtain ⟨B3, L3, m1, m2, m3, m4⟩ := go_M (w := w) (bb := 1) (p := p) (i := i) (x := X) (hd := H) (τ := X) h hi hp e2 hX e3 hH (by omega) (by rcases (show X = 0 ∨ X = 1 by omega) with rfl | rfl <;> rfl) f2 hfi g2 hb (by omega)
            have o3 : only P5 D B3 := only_t o2 (only_m m3 (fun _ _ e => Or.inr e))
            have f3 : TT 9999 561 563 f b B3 L3 := fun j hj => by rw [m3 561 j (by unfold P562; omega), m4 563 j (by omega)]; exact f2 j hj
            have k3 : K5 K2 L3 := (m4 594 0 (by omega)).trans k2
            rw [if_pos (by rw [hq]), lc_108 h, show X9_goesOver 108 (nI p) (nI i) 1 (c, w, S, B2, L2) = X9_goesOver 108 (nI p) (nI i) (nI 1) (c, w, S, B2, L2) from rfl, m1, ly_cV, ly_bI, nI_1]
            refine hn (B3, L3) ⟨TT_c m2 (fun j hj => ?_), f3, o3, k3⟩
            rw [ac_s]
            unfold fu
            by_cases ej2 : j = 2 * (i / 2 + 1) + X
            · rw [if_pos ej2, if_pos ⟨by omega, by omega, hq⟩, if_neg (by omega), ej2, show 1 - (1 - X) = X by omega]
            · rw [if_neg ej2, if_neg (fun e => ej2 (by have := e.1; omega))]
              by_cases ej : j = 2 * (i / 2) + (1 - X)
              · rw [if_pos ej, if_pos (by omega), ej]; rfl
              · rw [if_neg ej, if_neg (by omega)]
          · rw [if_neg (fun e => hq ((nI_eq (by omega) (by omega)).mp e)), ly_bI, nI_1]
            refine hn (B2, L2) ⟨TT_c g2 (fun j hj => ?_), f2, o2, k2⟩
            rw [ac_s, if_neg (fun e => hq e.2.2)]
            unfold fu
            by_cases ej : j = 2 * (i / 2) + (1 - X)
            · rw [if_pos ej, if_pos (by omega), ej]; rfl
            · rw [if_neg ej, if_neg (by omega)]
    · intro again2 z hQ
      obtain ⟨B, L⟩ := z
      obtain ⟨q1, q2, q3, q4⟩ := hQ
      simp only at q1 q2 q3 q4
      unfold X9_laysStrokes_L90
      simp only
      rw [if_pos (show (26 : Int32) ≤ nI 26 by decide)]
      refine ly_loop (fun i (z : (Nat → Nat → Int32) × (Nat → Nat → Int64)) => ((nI i, (c, w, S, z.1, z.2)) : Int32 × pmM)) 26 (fun i z => TT 9999 562 564 (ac se a Y (1 - X) H f 26) (b + 1) z.1 z.2 ∧ (∀ j, j < i → cE 9999 (b + 1) (ac se a Y (1 - X) H f 26 j) (z.1 561 j) (z.2 563 j)) ∧ only P5 D z.1 ∧ K5 K2 z.2) Rp ?_ ?_ pm_N 0 (B, L) ⟨q1, fun j hj => by omega, q3, q4⟩ (by omega) (by rw [pm_NE]; omega)
      · intro again3 i z hi hQ hn
        obtain ⟨B, L⟩ := z
        obtain ⟨q1, q2, q3, q4⟩ := hQ
        simp only at q1 q2 q3 q4
        unfold X9_laysStrokes_L160
        simp only
        rw [if_neg (show ¬ (26 : Int32) ≤ nI i from nI_ge (b := 26) hi (by omega)), lr_108_43 h, lr_108_44 h, ld_562 h hi, ls_561 h hi, lr_108_45 h, lr_108_46 h, ld_564 h hi, ls_563 h hi, ly_bI, nI_1]
        refine hn (ly_u B 561 i (B 562 i), ly_v L 563 i (L 564 i)) ⟨fun j hj => ?_, fun j hj => ?_, only_u q3 (Or.inl rfl), ?_⟩
        · show cE 9999 (b + 1) _ (ly_u B 561 i (B 562 i) 562 j) (ly_v L 563 i (L 564 i) 564 j)
          rw [ly_uE, ly_vE, if_neg (by omega), if_neg (by omega)]; exact q1 j hj
        · show cE 9999 (b + 1) _ (ly_u B 561 i (B 562 i) 561 j) (ly_v L 563 i (L 564 i) 563 j)
          rw [ly_uE, ly_vE]
          by_cases e : j = i
          · rw [if_pos ⟨rfl, e⟩, if_pos ⟨rfl, e⟩, e]; exact q1 i hi
          · rw [if_neg (fun e2 => e e2.2), if_neg (fun e2 => e e2.2)]; exact q2 j (by omega)
        · show ly_v L 563 i (L 564 i) 594 0 = K2 594 0
          rw [ly_vE, if_neg (by omega)]; exact q4
      · intro again3 z hQ
        obtain ⟨B, L⟩ := z
        obtain ⟨q1, q2, q3, q4⟩ := hQ
        simp only at q1 q2 q3 q4
        unfold X9_laysStrokes_L160
        simp only
        rw [if_pos (show (26 : Int32) ≤ nI 26 by decide), ly_bI, nI_1]
        exact hR B L q3 q2 q4
theorem ls_M {M : Nat} {X Y H : Nat → Nat} (h : ly c S) (hM : M ≤ 48) (hD : ∀ p, p < M → (Y p < 16 ∧ X p ≤ 1 ∧ H p ≤ 1) ∧ D 558 p = nI (Y p) ∧ D 559 p = nI (X p) ∧ D 560 p = nI (H p)) (hS : a ≤ 12 ∧ D 108 33 = nI a ∧ ∀ k, k < a → D 452 k = nI (se k) ∧ se k < 16) : ∃ I' K', pm_lp pm_N (X9_laysStrokes_L7 108 (nI M)) (0, (c, w, S, D, K)) = pm_oV (c, w, S, I', K') ∧ only P5 D I' ∧ TT 9999 561 563 (mf se a Y X H M) M I' K' ∧ K5 K K' := by
  refine ly_loop (fun i (z : (Nat → Nat → Int32) × (Nat → Nat → Int64)) => ((nI i, (c, w, S, z.1, z.2)) : Int32 × pmM)) 26 (fun i z => (∀ j, j < i → cE 9999 0 (T0 j) (z.1 561 j) (z.2 563 j)) ∧ only P5 D z.1 ∧ K5 K z.2) (fun R => ∃ I' K', R = pm_oV (c, w, S, I', K') ∧ only P5 D I' ∧ TT 9999 561 563 (mf se a Y X H M) M I' K' ∧ K5 K K') ?_ ?_ pm_N 0 (D, K) ⟨fun j hj => by omega, only_r, rfl⟩ (by omega) (by rw [pm_NE]; omega)
  · intro again i z hi hQ hn
    obtain ⟨B, L⟩ := z
    obtain ⟨q1, q3, q4⟩ := hQ
    simp only at q1 q3 q4
    have fin : ∀ (x : Int32) (s : Int64), cE 9999 0 (T0 i) x s → ∃ I' K', again (nI (i + 1), (c, w, S, ly_u B 561 i x, ly_v L 563 i s)) = pm_oV (c, w, S, I', K') ∧ only P5 D I' ∧ TT 9999 561 563 (mf se a Y X H M) M I' K' ∧ K5 K K' := fun x s hx => by
      refine hn (ly_u B 561 i x, ly_v L 563 i s) ⟨fun j hj => ?_, only_u q3 (Or.inl rfl), ?_⟩
      · show cE 9999 0 (T0 j) (ly_u B 561 i x 561 j) (ly_v L 563 i s 563 j)
        rw [ly_uE, ly_vE]
        by_cases e : j = i
        · rw [if_pos ⟨rfl, e⟩, if_pos ⟨rfl, e⟩, e]; exact hx
        · rw [if_neg (fun e2 => e e2.2), if_neg (fun e2 => e e2.2)]; exact q1 j (by omega)
      · show ly_v L 563 i s 594 0 = K 594 0
        rw [ly_vE, if_neg (by omega)]; exact q4
    unfold X9_laysStrokes_L7 X9_laysStrokes_j29 X9_laysStrokes_j44
    simp only
    rw [if_neg (show ¬ (26 : Int32) ≤ nI i from nI_ge (b := 26) hi (by omega)), lr_108_43 h]
    by_cases e : i = 0
    · subst e
      rw [n00, ls_561 h hi, lr_108_45 h, n00, ls_563 h hi, ly_bI, nI_1]
      exact fin _ _ ⟨Nat.le_refl _, rfl, rfl⟩
    · rw [if_neg (nI_ne0 (by omega) (by omega)), ls_561 h hi, lr_108_45 h, if_neg (nI_ne0 (by omega) (by omega)), ls_563 h hi, ly_bI, nI_1]
      exact fin _ _ (by unfold T0; rw [if_neg e]; rfl)
  · intro again z hQ
    obtain ⟨B, L⟩ := z
    obtain ⟨q1, q3, q4⟩ := hQ
    simp only at q1 q3 q4
    unfold X9_laysStrokes_L7
    simp only
    rw [if_pos (show (26 : Int32) ≤ nI 26 by decide)]
    refine ly_loop (fun p (z : (Nat → Nat → Int32) × (Nat → Nat → Int64)) => ((nI p, (c, w, S, z.1, z.2)) : Int32 × pmM)) M (fun p z => TT 9999 561 563 (mf se a Y X H p) p z.1 z.2 ∧ only P5 D z.1 ∧ K5 K z.2) (fun R => ∃ I' K', R = pm_oV (c, w, S, I', K') ∧ only P5 D I' ∧ TT 9999 561 563 (mf se a Y X H M) M I' K' ∧ K5 K K') ?_ ?_ pm_N 0 (B, L) ⟨q1, q3, q4⟩ (by omega) (by rw [pm_NE]; omega)
    · intro again2 p z hp hQ hn
      obtain ⟨B, L⟩ := z
      obtain ⟨q1, q3, q4⟩ := hQ
      simp only at q1 q3 q4
      obtain ⟨⟨b1, b2, b3⟩, b4, b5, b6⟩ := hD p hp
      unfold X9_laysStrokes_L53
      simp only
      rw [if_neg (nI_ge hp (by omega))]
      refine lw_M (K2 := K) (D := D) (X := X p) (Y := Y p) (H := H p) (f := mf se a Y X H p) (b := p) (se := se) (a := a) (Rp := fun R => ∃ I' K', R = pm_oV (c, w, S, I', K') ∧ only P5 D I' ∧ TT 9999 561 563 (mf se a Y X H M) M I' K' ∧ K5 K K') h (by omega) b2 b1 b3 (fun E hE => ⟨?_, ?_, ?_, ?_, fun k hk => ⟨?_, (hS.2.2 k hk).2⟩⟩) hS.1 (by omega) q3 q1 q4 (fun I' K' g1 g2 g3 => hn (I', K') ⟨g2, g1, g3⟩)
      · rw [hE 558 p (by unfold P5; omega)]; exact b4
      · rw [hE 559 p (by unfold P5; omega)]; exact b5
      · rw [hE 560 p (by unfold P5; omega)]; exact b6
      · rw [hE 108 33 (by unfold P5; omega)]; exact hS.2.1
      · rw [hE 452 k (by unfold P5; omega)]; exact (hS.2.2 k hk).1
    · intro again2 z hQ
      unfold X9_laysStrokes_L53
      simp only
      rw [if_pos (nI_le (Nat.le_refl _) (by omega))]
      exact ⟨z.1, z.2, rfl, hQ.2.1, hQ.1, hQ.2.2⟩
def flh (wd : Nat → Nat) (n : Nat) : Nat → Nat := flw wd (fun _ i => if i = 0 then 1 else 0) n
/-- the model's tables against the class's -/
theorem lay_M (h : ly c S) (hPM : pg_M A n wd q) (hDM : dk_M A 535 r) (hr : dk_W n wd r) (hS : a ≤ 12 ∧ A 108 33 = nI a ∧ ∀ k, k < a → A 452 k = nI (se k) ∧ se k < 16) : ∃ I' K' F, X9_laysStrokes 108 (c, w, S, A, K) = pm_oV (c, w, S, I', K') ∧ only (fun i j => PZ i j ∨ P5 i j) A I' ∧ TT 9999 561 563 F 48 I' K' ∧ K5 K K' ∧ jn (F (2 * a)) (F (2 * a + 1)) = gl se a wd q (rd_s r) n (2 * a) := by
  have hW := hPM.1
  have hn6 := hW.1
  have hsm := sum_48 hW (Nat.le_refl n)
  obtain ⟨D, d1, d2, d3⟩ := lz_M (w := w) (K := K) h hPM hDM hr
  obtain ⟨I', K', g1, g2, g3, g4⟩ := ls_M (w := w) (K := K) (D := D) (M := rd_sum wd n) (X := flx wd (rd_s r) n) (Y := flw wd q n) (H := flh wd n) (a := a) (se := se) h (by omega) (fun p hp => by
    obtain ⟨l, i, hl, hi, rfl⟩ := fl_ex hp
    have hq := hW.2.2.2 l i hl hi
    have e1 : flx wd (rd_s r) n (rd_sum wd l + i) = (if (rd_s r l).testBit i then 1 else 0) := flw_e hl hi
    have e2 : flh wd n (rd_sum wd l + i) = (if i = 0 then 1 else 0) := flw_e hl hi
    rw [flw_e hl hi, e1, e2]
    exact ⟨⟨hq, by split <;> omega, by split <;> omega⟩, (d3 l hl i hi).1, (d3 l hl i hi).2.1, (d3 l hl i hi).2.2⟩) ⟨hS.1, by rw [d2 108 33 (by unfold PZ; omega)]; exact hS.2.1, fun k hk => ⟨by rw [d2 452 k (by unfold PZ; omega)]; exact (hS.2.2 k hk).1, (hS.2.2 k hk).2⟩⟩
  refine ⟨I', K', _, ?_, only_t (only_m d2 (fun i j e => Or.inl e)) (only_m g2 (fun i j e => Or.inr e)), TT_m g3 (by omega), g4, ?_⟩
  · unfold X9_laysStrokes
    rw [lc_108 h, d1, ly_cI, g1]
  · have ha := hS.1
    have key := mf_l (se := se) (a := a) (Y := flw wd q n) (X := flx wd (rd_s r) n) (H := flh wd n) (s := rd_s r) hW (fun l hl i hi => by
      have e1 : flx wd (rd_s r) n (rd_sum wd l + i) = (if (rd_s r l).testBit i then 1 else 0) := flw_e hl hi
      have e2 : flh wd n (rd_sum wd l + i) = (if i = 0 then 1 else 0) := flw_e hl hi
      refine ⟨flw_e hl hi, ?_, e2⟩
      rw [e1]
      unfold tb0
      split <;> rfl) n (Nat.le_refl _) (2 * a) (by omega)
    rw [en_e (Nat.le_refl _)] at key
    exact key
def rsV : vS → Int32
  | none => -1
  | some p => nI p.1
def rbV : vS → Int64
  | none => 0
  | some p => p.2
theorem ff_C (h : ly c S) (ha : a ≤ 12) (hf : TT 1000 105 106 f 48 I K) : X4_foundFewest 102 (nI a) (c, w, S, I, K) = pm_oI (rsV (f (2 * a))) (c, w, S, I, K) ∧ X4_foundMany 102 (nI a) (c, w, S, I, K) = pm_oL (rbV (f (2 * a))) (c, w, S, I, K) := by
  have hc := hf (2 * a) (by omega)
  cases hu : f (2 * a) with
  | none =>
    rw [hu] at hc
    have hc : I 105 (2 * a) = nI 1000 := hc
    refine ⟨?_, ?_⟩
    · unfold X4_foundFewest X4_foundFewest_j26
      rw [lr_102_3 h, dbl, ld_105 h (by omega), hc, if_pos (show (1000 : Int32) ≤ nI 1000 by decide)]
      rfl
    · unfold X4_foundMany X4_foundMany_j26
      rw [lr_102_3 h, dbl, ld_105 h (by omega), hc, if_pos (show (1000 : Int32) ≤ nI 1000 by decide)]
      rfl
  | some p =>
    rw [hu] at hc
    obtain ⟨c1, c2, c3⟩ := hc
    have hn : ¬ (1000 : Int32) ≤ nI p.1 := nI_ge (b := 1000) (by omega) (by omega)
    refine ⟨?_, ?_⟩
    · unfold X4_foundFewest X4_foundFewest_j26
      rw [lr_102_3 h, dbl, ld_105 h (by omega), c2, if_neg hn, lr_102_3 h, ld_105 h (by omega), c2]
      rfl
    · unfold X4_foundMany X4_foundMany_j26
      rw [lr_102_3 h, dbl, ld_105 h (by omega), c2, if_neg hn, lr_102_4 h, ld_106 h (by omega), c3]
      rfl
theorem le_M {u v : vS} {x z : Int32} {s t : Int64} (hu : cE 9999 48 u x s) (hv : cE 9999 48 v z t) : (jn u v = none ∧ (if z ≤ x then z else x) = 9999) ∨ (∃ p, jn u v = some p ∧ p.1 ≤ 48 ∧ (if z ≤ x then z else x) = nI p.1 ∧ (if x = nI p.1 then s else 0) + (if z = nI p.1 then t else 0) = p.2) := by
  rcases u with _ | ⟨k, s1⟩
  · have hu : x = nI 9999 := hu
    rcases v with _ | ⟨l, t1⟩
    · have hv : z = nI 9999 := hv
      exact Or.inl ⟨rfl, by rw [hu, hv]; decide⟩
    · obtain ⟨v1, v2, v3⟩ := hv
      simp only at v1 v2 v3
      refine Or.inr ⟨(l, t1), rfl, v1, ?_, ?_⟩
      · rw [hu, v2, if_pos (nI_le (by omega) (by omega))]
      · rw [hu, v2, if_neg (fun e => by have := (nI_eq (by omega) (by omega)).mp e; omega), if_pos rfl, v3, Int64.zero_add]
  · obtain ⟨u1, u2, u3⟩ := hu
    simp only at u1 u2 u3
    rcases v with _ | ⟨l, t1⟩
    · have hv : z = nI 9999 := hv
      refine Or.inr ⟨(k, s1), rfl, u1, ?_, ?_⟩
      · rw [hv, u2, if_neg (nI_ge (by omega) (by omega))]
      · rw [hv, u2, if_pos rfl, if_neg (fun e => by have := (nI_eq (by omega) (by omega)).mp e; omega), u3, Int64.add_zero]
    · obtain ⟨v1, v2, v3⟩ := hv
      simp only at v1 v2 v3
      right
      rw [u2, v2, u3, v3]
      simp only [jn]
      by_cases h1 : l < k
      · refine ⟨(l, t1), by rw [if_pos h1], v1, ?_, ?_⟩
        · rw [if_pos (nI_le (by omega) (by omega))]
        · rw [if_neg (fun e => by have := (nI_eq (by omega) (by omega)).mp e; omega), if_pos rfl, Int64.zero_add]
      · rw [if_neg h1]
        by_cases h2 : l = k
        · refine ⟨(k, s1 + t1), by rw [if_pos h2], u1, ?_, ?_⟩
          · rw [h2, if_pos (nI_le (Nat.le_refl _) (by omega))]
          · rw [if_pos rfl, if_pos (by rw [h2])]
        · refine ⟨(k, s1), by rw [if_neg h2], u1, ?_, ?_⟩
          · rw [if_neg (nI_ge (by omega) (by omega))]
          · rw [if_pos rfl, if_neg (fun e => by have := (nI_eq (by omega) (by omega)).mp e; omega), Int64.add_zero]
theorem ca_strokes (h : ly c S) (hJ : JJ I n wd q r a se W G) : ag isI (I 0) c w S (fun _ => 0) (X8_strokes 64 (c, w, S, I, K)) (X9_strokes 108) := by
  obtain ⟨hPC, hPM, hDC, hDM, hr, hT, hS, hH, hc, hk, hL⟩ := id hJ
  have ha12 := hS.1
  obtain ⟨B, L, g1, g2, g3⟩ := sf_C (w := w) (K := K) h hPC hDC hr hS
  have hsB := sk_105 g3
  have hS2 := js_same hS hsB
  refine ag_ro (v := .int (rsV (gl se a wd q (rd_s r) n (2 * a)))) (I1 := B) (K1 := L) h hJ ⟨_, rfl⟩ ?_ hsB (fun hJ1 K2 => ?_)
  · unfold X8_strokes
    rw [lr_64_11 h, lr_64_8 h, lr_64_5 h, lc_102 h, g1, ly_cV, lr_64_11 h, lr_64_5 h, lg_83 h, hS2.2.1, lc_102 h, (ff_C h ha12 g2).1, ly_cI]
  · obtain ⟨hPM2, hDM2⟩ := jm hJ1
    have hS3 := js_same hS2 (s0 (I := B))
    obtain ⟨I2, K3, F, m1, m2, m3, m4, m5⟩ := lay_M (w := w) (K := K2) (A := ly_u B 108 0 0) h hPM2 hDM2 hr ⟨hS3.1, hS3.2.2.1, fun k hk => ⟨(hS3.2.2.2 k hk).2.1, (hS3.2.2.2 k hk).2.2⟩⟩
    have e33 : I2 108 33 = nI a := by rw [m2 108 33 (by unfold PZ P5; omega)]; exact hS3.2.2.1
    refine ⟨I2, K3, ?_, by rw [m2 108 0 (by unfold PZ P5; omega)]; exact z0', fun i j hn => (m2 i j (by unfold sc at hn; unfold PZ P5; omega)).trans (s0 i j hn), m4⟩
    unfold X9_strokes X9_strokes_j49
    rw [lp_108 h, lc_108 h, m1, ly_cV, lr_108_43 h, lg_108 h, e33, dbl, ld_561 h (by omega), lr_108_43 h, lg_108 h, e33, dbl, nI_1, ld_561 h (by omega), rm_less, ly_cI, ← m5]
    rcases le_M (m3 (2 * a) (by omega)) (m3 (2 * a + 1) (by omega)) with ⟨l1, l2⟩ | ⟨p, l1, l2, l3, l4⟩
    · rw [l2, if_pos rfl, l1]; rfl
    · rw [l3, if_neg (fun e => by have := (nI_eq (b := 9999) (by omega) (by omega)).mp e; omega), l1]; rfl
theorem ca_best (h : ly c S) (hJ : JJ I n wd q r a se W G) : ag isL (I 0) c w S (fun _ => 0) (X8_best 64 (c, w, S, I, K)) (X9_best 108) := by
  obtain ⟨hPC, hPM, hDC, hDM, hr, hT, hS, hH, hc, hk, hL⟩ := id hJ
  have ha12 := hS.1
  obtain ⟨B, L, g1, g2, g3⟩ := sf_C (w := w) (K := K) h hPC hDC hr hS
  have hsB := sk_105 g3
  have hS2 := js_same hS hsB
  refine ag_ro (v := .long (rbV (gl se a wd q (rd_s r) n (2 * a)))) (I1 := B) (K1 := L) h hJ ⟨_, rfl⟩ ?_ hsB (fun hJ1 K2 => ?_)
  · unfold X8_best
    rw [lr_64_11 h, lr_64_8 h, lr_64_5 h, lc_102 h, g1, ly_cV, lr_64_11 h, lr_64_5 h, lg_83 h, hS2.2.1, lc_102 h, (ff_C h ha12 g2).2, ly_cL]
  · obtain ⟨hPM2, hDM2⟩ := jm hJ1
    have hS3 := js_same hS2 (s0 (I := B))
    obtain ⟨I2, K3, F, m1, m2, m3, m4, m5⟩ := lay_M (w := w) (K := K2) (A := ly_u B 108 0 0) h hPM2 hDM2 hr ⟨hS3.1, hS3.2.2.1, fun k hk => ⟨(hS3.2.2.2 k hk).2.1, (hS3.2.2.2 k hk).2.2⟩⟩
    have e33 : I2 108 33 = nI a := by rw [m2 108 33 (by unfold PZ P5; omega)]; exact hS3.2.2.1
    refine ⟨I2, K3, ?_, by rw [m2 108 0 (by unfold PZ P5; omega)]; exact z0', fun i j hn => (m2 i j (by unfold sc at hn; unfold PZ P5; omega)).trans (s0 i j hn), m4⟩
    unfold X9_best
    rw [lp_108 h, lc_108 h, m1, ly_cV, lr_108_43 h, lg_108 h, e33, dbl, ld_561 h (by omega), lr_108_43 h, lg_108 h, e33, dbl, nI_1, ld_561 h (by omega), rm_less, ly_cI, ← m5]
    rcases le_M (m3 (2 * a) (by omega)) (m3 (2 * a + 1) (by omega)) with ⟨l1, l2⟩ | ⟨p, l1, l2, l3, l4⟩
    · rw [l2, if_pos rfl, l1]; rfl
    · rw [l3, if_neg (fun e => by have := (nI_eq (b := 9999) (by omega) (by omega)).mp e; omega), l1, lr_108_43 h, lg_108 h, e33, dbl, ld_561 h (by omega)]
      have j76 : ∀ t0 : Int64, X9_best_j76 108 (nI p.1) t0 (c, w, S, I2, K3) = pm_oL (t0 + (if I2 561 (2 * a + 1) = nI p.1 then K3 563 (2 * a + 1) else 0)) (c, w, S, I2, K3) := fun t0 => by
        unfold X9_best_j76 X9_best_j110
        rw [lr_108_43 h, lg_108 h, e33, dbl, nI_1, ld_561 h (by omega)]
        by_cases e : I2 561 (2 * a + 1) = nI p.1
        · rw [if_pos e, if_pos e, lr_108_45 h, lg_108 h, e33, dbl, nI_1, ld_563 h (by omega)]
        · rw [if_neg e, if_neg e]
      by_cases e : I2 561 (2 * a) = nI p.1
      · rw [if_pos e] at l4 ⊢
        rw [lr_108_45 h, lg_108 h, e33, dbl, ld_563 h (by omega), j76, l4]; rfl
      · rw [if_neg e] at l4 ⊢
        rw [j76, l4]; rfl
end STM
