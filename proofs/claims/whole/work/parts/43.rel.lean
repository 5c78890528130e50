/-! THE RELATION between class and model, and what it doesn't ask of -/
section REL
variable {c w : Nat} {S : Nat → pmS} {I I1 I2 : Nat → Nat → Int32} {K : Nat → Nat → Int64} {n : Nat} {wd : Nat → Nat} {q : Nat → Nat → Nat} {r : Nat → Int32}
/-- cells that only help within a call -/
def sc (i j : Nat) : Prop := (i = 65 ∧ 2 ≤ j ∧ j ≤ 6) ∨ (i = 67 ∧ j = 5) ∨ (70 ≤ i ∧ i ≤ 74) ∨ i = 77 ∨ i = 78 ∨ (79 ≤ i ∧ i ≤ 82) ∨ (85 ≤ i ∧ i ≤ 92) ∨ (i = 93 ∧ j = 8) ∨ (96 ≤ i ∧ i ≤ 98) ∨ (103 ≤ i ∧ i ≤ 107) ∨
  (i = 108 ∧ (j = 0 ∨ j = 2 ∨ (4 ≤ j ∧ j ≤ 8) ∨ j = 11 ∨ j = 12 ∨ j = 20 ∨ j = 28 ∨ 37 ≤ j)) ∨ i = 111 ∨ i = 112 ∨ (115 ≤ i ∧ i ≤ 120) ∨ (290 ≤ i ∧ i ≤ 449) ∨ i = 450 ∨ i = 451 ∨ i = 453 ∨ (455 ≤ i ∧ i ≤ 534) ∨ i = 536 ∨ 558 ≤ i
def same (I I1 : Nat → Nat → Int32) : Prop := ∀ i j, ¬ sc i j → I1 i j = I i j
theorem same_r : same I I := fun _ _ _ => rfl
theorem same_t (h : same I I1) (h2 : same I1 I2) : same I I2 := fun i j hn => (h2 i j hn).trans (h i j hn)
theorem same_u {a k : Nat} {v : Int32} (h : same I I1) (ha : sc a k) : same I (ly_u I1 a k v) := by
  intro i j hn
  rw [ly_uE, if_neg (by rintro ⟨rfl, rfl⟩; exact hn ha)]
  exact h i j hn
theorem same_c {a0 sp a1 dp m : Nat} (h : same I I1) (ha : ∀ j, sc a1 j) : same I (ly_c I1 a0 sp a1 dp m) := by
  intro i j hn
  rw [ly_cE, if_neg (by rintro ⟨rfl, -⟩; exact hn (ha _))]
  exact h i j hn
/-- a row of the shelf -/
def dk_R (I : Nat → Nat → Int32) (p : Nat) (r : Nat → Int32) : Prop := (∀ l, l < 6 → I 100 (p + l) = r l) ∧ (∀ k, k < 4 → I 100 (p + 6 + k) = r (6 + k)) ∧ I 100 (p + 10) = r 11 ∧ I 100 (p + 11) = r 10 ∧ I 100 (p + 12) = r 12 ∧ I 100 (p + 13) = r 13
def jt (I : Nat → Nat → Int32) : Prop := (∃ T, T ≤ 600 ∧ I 65 1 = nI T ∧ I 108 1 = nI T) ∧ (∀ k, k < 600 → I 66 k = I 109 k ∧ ∃ b, b < 256 ∧ I 109 k = nI b) ∧ I 65 7 = I 108 3
def js (I : Nat → Nat → Int32) (a : Nat) (se : Nat → Nat) : Prop := a ≤ 12 ∧ I 83 1 = nI a ∧ I 108 33 = nI a ∧ ∀ k, k < a → I 84 k = nI (se k) ∧ I 452 k = nI (se k) ∧ se k < 16
def jh (I : Nat → Nat → Int32) (n : Nat) (wd : Nat → Nat) (W G : Nat) : Prop := W ≤ 16 ∧ G ≤ 3 ∧ I 99 2 = nI W ∧ I 108 34 = nI W ∧ I 99 3 = nI G ∧ I 108 36 = nI G ∧
  (∀ v, v < 16 → dk_R I (v * 14) (I (538 + v))) ∧ (∀ v, v < W → dk_W n wd (I (538 + v))) ∧
  (∀ g, g < 3 → dk_R I (224 + 238 * g) (fun k => I (555 + g) (1 + k)) ∧ I 101 g = I (555 + g) 0 ∧ ∀ v, v < 16 → dk_R I (224 + 238 * g + 14 + v * 14) (fun k => I (555 + g) (15 + v * 14 + k))) ∧
  (∀ g, g < G → dk_W n wd (fun k => I (555 + g) (1 + k)) ∧ ∃ V, V ≤ 16 ∧ I (555 + g) 0 = nI V ∧ ∀ v, v < V → dk_W n wd (fun k => I (555 + g) (15 + v * 14 + k)))
def jc (I : Nat → Nat → Int32) : Prop := I 64 12 = I 108 35 ∧ I 64 13 = I 110 0 ∧ I 64 14 = I 110 1
/-- what stands in the constants -/
def st_bytes : List (List Int32) := [[108, 105, 110, 101], [99, 101, 108, 108], [105, 110, 107], [108, 101, 97, 115, 116], [109, 111, 115, 116], [119, 111, 114, 100, 115], [115, 116, 114, 117, 99, 107], [102, 105, 114, 115, 116], [108, 105, 110, 101], [108, 101, 102, 116], [105, 110, 107], [99, 101, 108, 108], [115, 116, 114, 105, 107, 101], [114, 117, 110], [98, 101, 103, 105, 110], [102, 105, 108, 108], [119, 105, 112, 101], [115, 101, 116], [97, 103, 97, 105, 110]]
def jk (I : Nat → Nat → Int32) : Prop := (∀ j, j < 5 → I 1 j = ([1, -1, 2, -11, -8] : List Int32).getD j 0) ∧ (∀ j, j < 9 → I 2 j = ([0, 1, 2, 3, 1, 4, 3, 2, 1] : List Int32).getD j 0) ∧ ∀ k j, k < 19 → j < (st_bytes.getD k []).length → I (33 + k) j = (st_bytes.getD k []).getD j 0
/-- one piece of the law: how the class writes it, how the model; how many values it takes -/
def jl_p (x y z : Int32) : Prop := (∃ v, v ≤ 999 ∧ x = nI v ∧ y = nI 0 ∧ z = nI v) ∨ (∃ v, v < 7 ∧ x = -nI (1 + v) ∧ y = nI 1 ∧ z = nI v) ∨ (∃ v, 2 ≤ v ∧ v ≤ 8 ∧ x = -nI (6 + v) ∧ y = nI v)
/-- how many values wait behind so many pieces: none, if ever too few or too many -/
def jl_h (y : Nat → Int32) : Nat → Option Nat
  | 0 => some 0
  | k + 1 => match jl_h y k with
    | none => none
    | some t => if y k = nI 0 ∨ y k = nI 1 then (if t < 22 then some (t + 1) else none) else (if 2 ≤ t then some (t - 1) else none)
def jl (I : Nat → Nat → Int32) : Prop := ∃ m, m ≤ 150 ∧ I 108 19 = nI m ∧ ((m = 0 ∧ I 75 3 = nI 5 ∧ ∀ j, j < 5 → I 76 j = ([1, -1, 2, -11, -8] : List Int32).getD j 0) ∨ (0 < m ∧ I 75 3 = nI m ∧ (∀ k, k < m → jl_p (I 76 k) (I (129 + k) 0) (I (129 + k) 1)) ∧ jl_h (fun k => I (129 + k) 0) m = some 1))
def JJ (I : Nat → Nat → Int32) (n : Nat) (wd : Nat → Nat) (q : Nat → Nat → Nat) (r : Nat → Int32) (a : Nat) (se : Nat → Nat) (W G : Nat) : Prop :=
  pg_C I n wd q ∧ pg_M I n wd q ∧ dk_C I 93 r ∧ dk_M I 535 r ∧ dk_W n wd r ∧ jt I ∧ js I a se ∧ jh I n wd W G ∧ jc I ∧ jk I ∧ jl I
theorem dk_W_eq {r1 : Nat → Int32} (h : dk_W n wd r) (he : ∀ k, k < 14 → r1 k = r k) : dk_W n wd r1 := by
  unfold dk_W rd_s at *
  refine ⟨fun l hl => ?_, fun k hk => ?_, ?_, ?_⟩
  · rw [he l (by omega)]; exact h.1 l hl
  · rw [he (6 + k) (by omega)]; exact h.2.1 k hk
  · rw [he 10 (by omega)]; exact h.2.2.1
  · rw [he 11 (by omega)]; exact h.2.2.2
theorem jl_h_eq {y y1 : Nat → Int32} : ∀ {m : Nat}, (∀ k, k < m → y1 k = y k) → jl_h y1 m = jl_h y m
  | 0, _ => rfl
  | m + 1, h => by
    simp only [jl_h]
    rw [jl_h_eq (m := m) (fun k hk => h k (by omega)), h m (by omega)]
theorem pg_C_same (h : pg_C I n wd q) (hs : same I I1) : pg_C I1 n wd q := by
  obtain ⟨h1, h2, h3, h4, h5⟩ := h
  refine ⟨h1, ?_, fun l hl => ?_, fun l i hl hi => ?_, ?_⟩
  · rw [hs 67 3 (by unfold sc; omega)]; exact h2
  · rw [hs 68 l (by unfold sc; omega)]; exact h3 l hl
  · rw [hs 69 _ (by unfold sc; omega)]; exact h4 l i hl hi
  · rw [hs 67 4 (by unfold sc; omega)]; exact h5
theorem pg_M_same (h : pg_M I n wd q) (hs : same I I1) : pg_M I1 n wd q := by
  obtain ⟨h1, h2, h3, h4⟩ := h
  have h6 := h1.1
  refine ⟨h1, ?_, fun l hl => ?_, fun l i hl hi => ?_⟩
  · rw [hs 108 13 (by unfold sc; omega)]; exact h2
  · rw [hs 113 l (by unfold sc; omega)]; exact h3 l hl
  · rw [hs (122 + l) i (by unfold sc; omega)]; exact h4 l i hl hi
theorem dk_C_same (h : dk_C I 93 r) (hs : same I I1) : dk_C I1 93 r := by
  obtain ⟨h1, h2, h3, h4, h5, h6⟩ := h
  refine ⟨fun l hl => ?_, fun l hl => ?_, ?_, ?_, ?_, ?_⟩
  · rw [hs _ l (by unfold sc; omega)]; exact h1 l hl
  · rw [hs _ l (by unfold sc; omega)]; exact h2 l hl
  all_goals rw [hs 93 _ (by unfold sc; omega)]; assumption
theorem dk_M_same (h : dk_M I 535 r) (hs : same I I1) : dk_M I1 535 r := by
  intro k hk
  rw [hs 535 k (by unfold sc; omega)]; exact h k hk
theorem jt_same (h : jt I) (hs : same I I1) : jt I1 := by
  obtain ⟨⟨T, h1, h2, h3⟩, h4, h5⟩ := h
  refine ⟨⟨T, h1, ?_, ?_⟩, fun k hk => ?_, ?_⟩
  · rw [hs 65 1 (by unfold sc; omega)]; exact h2
  · rw [hs 108 1 (by unfold sc; omega)]; exact h3
  · rw [hs 66 k (by unfold sc; omega), hs 109 k (by unfold sc; omega)]; exact h4 k hk
  · rw [hs 65 7 (by unfold sc; omega), hs 108 3 (by unfold sc; omega)]; exact h5
theorem js_same {a : Nat} {se : Nat → Nat} (h : js I a se) (hs : same I I1) : js I1 a se := by
  obtain ⟨h1, h2, h3, h4⟩ := h
  refine ⟨h1, ?_, ?_, fun k hk => ?_⟩
  · rw [hs 83 1 (by unfold sc; omega)]; exact h2
  · rw [hs 108 33 (by unfold sc; omega)]; exact h3
  · rw [hs 84 k (by unfold sc; omega), hs 452 k (by unfold sc; omega)]; exact h4 k hk
theorem dk_R_eq {p : Nat} {r1 : Nat → Int32} (h : dk_R I p r) (he : ∀ k, k < 14 → r1 k = r k) (h1 : ∀ k, k < 14 → I1 100 (p + k) = I 100 (p + k)) : dk_R I1 p r1 := by
  obtain ⟨a1, a2, a3, a4, a5, a6⟩ := h
  refine ⟨fun l hl => ?_, fun k hk => ?_, ?_, ?_, ?_, ?_⟩
  · rw [h1 l (by omega), he l (by omega)]; exact a1 l hl
  · have := h1 (6 + k) (by omega)
    rw [show p + (6 + k) = p + 6 + k by omega] at this
    rw [this, he (6 + k) (by omega)]; exact a2 k hk
  · rw [h1 10 (by omega), he 11 (by omega)]; exact a3
  · rw [h1 11 (by omega), he 10 (by omega)]; exact a4
  · rw [h1 12 (by omega), he 12 (by omega)]; exact a5
  · rw [h1 13 (by omega), he 13 (by omega)]; exact a6
theorem jh_same {W G : Nat} (h : jh I n wd W G) (hs : same I I1) : jh I1 n wd W G := by
  obtain ⟨h1, h2, h3, h4, h5, h6, h7, h8, h9, h10⟩ := h
  have e100 : ∀ p, I1 100 p = I 100 p := fun p => hs 100 p (by unfold sc; omega)
  refine ⟨h1, h2, ?_, ?_, ?_, ?_, fun v hv => ?_, fun v hv => ?_, fun g hg => ⟨?_, ?_, fun v hv => ?_⟩, fun g hg => ?_⟩
  · rw [hs 99 2 (by unfold sc; omega)]; exact h3
  · rw [hs 108 34 (by unfold sc; omega)]; exact h4
  · rw [hs 99 3 (by unfold sc; omega)]; exact h5
  · rw [hs 108 36 (by unfold sc; omega)]; exact h6
  · exact dk_R_eq (h7 v hv) (fun k _ => hs _ _ (by unfold sc; omega)) (fun k _ => e100 _)
  · exact dk_W_eq (h8 v hv) (fun k _ => hs _ _ (by unfold sc; omega))
  · exact dk_R_eq (h9 g hg).1 (fun k _ => hs _ _ (by unfold sc; omega)) (fun k _ => e100 _)
  · rw [hs 101 g (by unfold sc; omega), hs (555 + g) 0 (by unfold sc; omega)]; exact (h9 g hg).2.1
  · exact dk_R_eq ((h9 g hg).2.2 v hv) (fun k _ => hs _ _ (by unfold sc; omega)) (fun k _ => e100 _)
  · obtain ⟨a1, V, a2, a3, a4⟩ := h10 g hg
    refine ⟨dk_W_eq a1 (fun k _ => hs _ _ (by unfold sc; omega)), V, a2, ?_, fun v hv => dk_W_eq (a4 v hv) (fun k _ => hs _ _ (by unfold sc; omega))⟩
    rw [hs (555 + g) 0 (by unfold sc; omega)]; exact a3
theorem jc_same (h : jc I) (hs : same I I1) : jc I1 := by
  obtain ⟨h1, h2, h3⟩ := h
  refine ⟨?_, ?_, ?_⟩
  · rw [hs 64 12 (by unfold sc; omega), hs 108 35 (by unfold sc; omega)]; exact h1
  · rw [hs 64 13 (by unfold sc; omega), hs 110 0 (by unfold sc; omega)]; exact h2
  · rw [hs 64 14 (by unfold sc; omega), hs 110 1 (by unfold sc; omega)]; exact h3
theorem jk_same (h : jk I) (hs : same I I1) : jk I1 := by
  obtain ⟨h1, h2, h3⟩ := h
  refine ⟨fun j hj => ?_, fun j hj => ?_, fun k j hk hj => ?_⟩
  · rw [hs 1 j (by unfold sc; omega)]; exact h1 j hj
  · rw [hs 2 j (by unfold sc; omega)]; exact h2 j hj
  · rw [hs (33 + k) j (by unfold sc; omega)]; exact h3 k j hk hj
theorem jl_same (h : jl I) (hs : same I I1) : jl I1 := by
  obtain ⟨m, h1, h2, h3⟩ := h
  refine ⟨m, h1, ?_, ?_⟩
  · rw [hs 108 19 (by unfold sc; omega)]; exact h2
  · rcases h3 with ⟨a1, a2, a3⟩ | ⟨a1, a2, a3, a4⟩
    · refine Or.inl ⟨a1, ?_, fun j hj => ?_⟩
      · rw [hs 75 3 (by unfold sc; omega)]; exact a2
      · rw [hs 76 j (by unfold sc; omega)]; exact a3 j hj
    · refine Or.inr ⟨a1, ?_, fun k hk => ?_, ?_⟩
      · rw [hs 75 3 (by unfold sc; omega)]; exact a2
      · rw [hs 76 k (by unfold sc; omega), hs (129 + k) 0 (by unfold sc; omega), hs (129 + k) 1 (by unfold sc; omega)]; exact a3 k hk
      · rw [jl_h_eq (y := fun k => I (129 + k) 0) (fun k hk => hs _ _ (by unfold sc; omega))]; exact a4
theorem JJ_same {a : Nat} {se : Nat → Nat} {W G : Nat} (h : JJ I n wd q r a se W G) (hs : same I I1) : JJ I1 n wd q r a se W G := by
  obtain ⟨h1, h2, h3, h4, h5, h6, h7, h8, h9, h10, h11⟩ := h
  exact ⟨pg_C_same h1 hs, pg_M_same h2 hs, dk_C_same h3 hs, dk_M_same h4 hs, h5, jt_same h6 hs, js_same h7 hs, jh_same h8 hs, jc_same h9 hs, jk_same h10 hs, jl_same h11 hs⟩
end REL
