/-! what each part of the relation asks of -/
section DOM
variable {c w : Nat} {S : Nat → pmS} {I I1 I2 : Nat → Nat → Int32} {K : Nat → Nat → Int64} {n : Nat} {wd : Nat → Nat} {q : Nat → Nat → Nat} {r : Nat → Int32}
def dPC (i j : Nat) : Prop := (i = 67 ∧ (j = 3 ∨ j = 4)) ∨ i = 68 ∨ i = 69
def dPM (i j : Nat) : Prop := (i = 108 ∧ j = 13) ∨ i = 113 ∨ (122 ≤ i ∧ i ≤ 127)
def dDC (i j : Nat) : Prop := (i = 93 ∧ 4 ≤ j ∧ j ≤ 7) ∨ i = 94 ∨ i = 95
def dDM (i _j : Nat) : Prop := i = 535
def dT (i j : Nat) : Prop := (i = 65 ∧ (j = 1 ∨ j = 7)) ∨ i = 66 ∨ (i = 108 ∧ (j = 1 ∨ j = 3)) ∨ i = 109
def dS (i j : Nat) : Prop := (i = 83 ∧ j = 1) ∨ i = 84 ∨ (i = 108 ∧ j = 33) ∨ i = 452
def dH (i j : Nat) : Prop := (i = 99 ∧ (j = 2 ∨ j = 3)) ∨ i = 100 ∨ i = 101 ∨ (i = 108 ∧ (j = 34 ∨ j = 36)) ∨ (538 ≤ i ∧ i ≤ 557)
def dCC (i j : Nat) : Prop := (i = 64 ∧ 12 ≤ j ∧ j ≤ 14) ∨ (i = 108 ∧ j = 35) ∨ i = 110
def dK (i _j : Nat) : Prop := i < 64
def dL (i j : Nat) : Prop := (i = 75 ∧ j = 3) ∨ i = 76 ∨ (i = 108 ∧ j = 19) ∨ (129 ≤ i ∧ i ≤ 288)
/-- all that the relation asks of -/
def dA (i j : Nat) : Prop := dPC i j ∨ dPM i j ∨ dDC i j ∨ dDM i j ∨ dT i j ∨ dS i j ∨ dH i j ∨ dCC i j ∨ dK i j ∨ dL i j
theorem pg_C_c (h : pg_C I n wd q) (hs : ∀ i j, dPC i j → I1 i j = I i j) : pg_C I1 n wd q := by
  obtain ⟨h1, h2, h3, h4, h5⟩ := h
  refine ⟨h1, ?_, fun l hl => ?_, fun l i hl hi => ?_, ?_⟩
  · rw [hs 67 3 (by unfold dPC; omega)]; exact h2
  · rw [hs 68 l (by unfold dPC; omega)]; exact h3 l hl
  · rw [hs 69 _ (by unfold dPC; omega)]; exact h4 l i hl hi
  · rw [hs 67 4 (by unfold dPC; omega)]; exact h5
theorem pg_M_c (h : pg_M I n wd q) (hs : ∀ i j, dPM i j → I1 i j = I i j) : pg_M I1 n wd q := by
  obtain ⟨h1, h2, h3, h4⟩ := h
  have h6 := h1.1
  refine ⟨h1, ?_, fun l hl => ?_, fun l i hl hi => ?_⟩
  · rw [hs 108 13 (by unfold dPM; omega)]; exact h2
  · rw [hs 113 l (by unfold dPM; omega)]; exact h3 l hl
  · rw [hs (122 + l) i (by unfold dPM; omega)]; exact h4 l i hl hi
theorem dk_C_c (h : dk_C I 93 r) (hs : ∀ i j, dDC i j → I1 i j = I i j) : dk_C I1 93 r := by
  obtain ⟨h1, h2, h3, h4, h5, h6⟩ := h
  refine ⟨fun l hl => ?_, fun l hl => ?_, ?_, ?_, ?_, ?_⟩
  · rw [hs _ l (by unfold dDC; omega)]; exact h1 l hl
  · rw [hs _ l (by unfold dDC; omega)]; exact h2 l hl
  all_goals rw [hs 93 _ (by unfold dDC; omega)]; assumption
theorem dk_M_c (h : dk_M I 535 r) (hs : ∀ i j, dDM i j → I1 i j = I i j) : dk_M I1 535 r := by
  intro k hk
  rw [hs 535 k (by unfold dDM; omega)]; exact h k hk
theorem jt_c (h : jt I) (hs : ∀ i j, dT i j → I1 i j = I i j) : jt I1 := by
  obtain ⟨⟨T, h1, h2, h3⟩, h4, h5⟩ := h
  refine ⟨⟨T, h1, ?_, ?_⟩, fun k hk => ?_, ?_⟩
  · rw [hs 65 1 (by unfold dT; omega)]; exact h2
  · rw [hs 108 1 (by unfold dT; omega)]; exact h3
  · rw [hs 66 k (by unfold dT; omega), hs 109 k (by unfold dT; omega)]; exact h4 k hk
  · rw [hs 65 7 (by unfold dT; omega), hs 108 3 (by unfold dT; omega)]; exact h5
theorem js_c {a : Nat} {se : Nat → Nat} (h : js I a se) (hs : ∀ i j, dS i j → I1 i j = I i j) : js I1 a se := by
  obtain ⟨h1, h2, h3, h4⟩ := h
  refine ⟨h1, ?_, ?_, fun k hk => ?_⟩
  · rw [hs 83 1 (by unfold dS; omega)]; exact h2
  · rw [hs 108 33 (by unfold dS; omega)]; exact h3
  · rw [hs 84 k (by unfold dS; omega), hs 452 k (by unfold dS; omega)]; exact h4 k hk
theorem jh_c {W G : Nat} (h : jh I n wd W G) (hs : ∀ i j, dH i j → I1 i j = I i j) : jh I1 n wd W G := by
  obtain ⟨h1, h2, h3, h4, h5, h6, h7, h8, h9, h10⟩ := h
  have e100 : ∀ p, I1 100 p = I 100 p := fun p => hs 100 p (by unfold dH; omega)
  refine ⟨h1, h2, ?_, ?_, ?_, ?_, fun v hv => ?_, fun v hv => ?_, fun g hg => ⟨?_, ?_, fun v hv => ?_⟩, fun g hg => ?_⟩
  · rw [hs 99 2 (by unfold dH; omega)]; exact h3
  · rw [hs 108 34 (by unfold dH; omega)]; exact h4
  · rw [hs 99 3 (by unfold dH; omega)]; exact h5
  · rw [hs 108 36 (by unfold dH; omega)]; exact h6
  · exact dk_R_eq (h7 v hv) (fun k _ => hs _ _ (by unfold dH; omega)) (fun k _ => e100 _)
  · exact dk_W_eq (h8 v hv) (fun k _ => hs _ _ (by unfold dH; omega))
  · exact dk_R_eq (h9 g hg).1 (fun k _ => hs _ _ (by unfold dH; omega)) (fun k _ => e100 _)
  · rw [hs 101 g (by unfold dH; omega), hs (555 + g) 0 (by unfold dH; omega)]; exact (h9 g hg).2.1
  · exact dk_R_eq ((h9 g hg).2.2 v hv) (fun k _ => hs _ _ (by unfold dH; omega)) (fun k _ => e100 _)
  · obtain ⟨a1, V, a2, a3, a4⟩ := h10 g hg
    refine ⟨dk_W_eq a1 (fun k _ => hs _ _ (by unfold dH; omega)), V, a2, ?_, fun v hv => dk_W_eq (a4 v hv) (fun k _ => hs _ _ (by unfold dH; omega))⟩
    rw [hs (555 + g) 0 (by unfold dH; omega)]; exact a3
theorem jc_c (h : jc I) (hs : ∀ i j, dCC i j → I1 i j = I i j) : jc I1 := by
  obtain ⟨h1, h2, h3⟩ := h
  refine ⟨?_, ?_, ?_⟩
  · rw [hs 64 12 (by unfold dCC; omega), hs 108 35 (by unfold dCC; omega)]; exact h1
  · rw [hs 64 13 (by unfold dCC; omega), hs 110 0 (by unfold dCC; omega)]; exact h2
  · rw [hs 64 14 (by unfold dCC; omega), hs 110 1 (by unfold dCC; omega)]; exact h3
theorem jk_c (h : jk I) (hs : ∀ i j, dK i j → I1 i j = I i j) : jk I1 := by
  obtain ⟨h1, h2, h3⟩ := h
  refine ⟨fun j hj => ?_, fun j hj => ?_, fun k j hk hj => ?_⟩
  · rw [hs 1 j (by unfold dK; omega)]; exact h1 j hj
  · rw [hs 2 j (by unfold dK; omega)]; exact h2 j hj
  · rw [hs (33 + k) j (by unfold dK; omega)]; exact h3 k j hk hj
theorem jl_c (h : jl I) (hs : ∀ i j, dL i j → I1 i j = I i j) : jl I1 := by
  obtain ⟨m, h1, h2, h3⟩ := h
  refine ⟨m, h1, ?_, ?_⟩
  · rw [hs 108 19 (by unfold dL; omega)]; exact h2
  · rcases h3 with ⟨a1, a2, a3⟩ | ⟨a1, a2, a3, a4⟩
    · refine Or.inl ⟨a1, ?_, fun j hj => ?_⟩
      · rw [hs 75 3 (by unfold dL; omega)]; exact a2
      · rw [hs 76 j (by unfold dL; omega)]; exact a3 j hj
    · refine Or.inr ⟨a1, ?_, fun k hk => ?_, ?_⟩
      · rw [hs 75 3 (by unfold dL; omega)]; exact a2
      · rw [hs 76 k (by unfold dL; omega), hs (129 + k) 0 (by unfold dL; omega), hs (129 + k) 1 (by unfold dL; omega)]; exact a3 k hk
      · rw [jl_h_eq (y := fun k => I (129 + k) 0) (fun k hk => hs _ _ (by unfold dL; omega))]; exact a4
theorem JJ_c {a : Nat} {se : Nat → Nat} {W G : Nat} (h : JJ I n wd q r a se W G) (hs : ∀ i j, dA i j → I1 i j = I i j) : JJ I1 n wd q r a se W G := by
  obtain ⟨h1, h2, h3, h4, h5, h6, h7, h8, h9, h10, h11⟩ := h
  exact ⟨pg_C_c h1 (fun i j e => hs i j (by unfold dA; simp [e])), pg_M_c h2 (fun i j e => hs i j (by unfold dA; simp [e])), dk_C_c h3 (fun i j e => hs i j (by unfold dA; simp [e])), dk_M_c h4 (fun i j e => hs i j (by unfold dA; simp [e])), h5, jt_c h6 (fun i j e => hs i j (by unfold dA; simp [e])), js_c h7 (fun i j e => hs i j (by unfold dA; simp [e])), jh_c h8 (fun i j e => hs i j (by unfold dA; simp [e])), jc_c h9 (fun i j e => hs i j (by unfold dA; simp [e])), jk_c h10 (fun i j e => hs i j (by unfold dA; simp [e])), jl_c h11 (fun i j e => hs i j (by unfold dA; simp [e]))⟩
end DOM
