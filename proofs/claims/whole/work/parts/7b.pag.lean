/-! a page read: what both make of it -/
section PAK
variable {c w : Nat} {S : Nat → pmS} {I I1 I2 J J1 A B E : Nat → Nat → Int32} {K : Nat → Nat → Int64} {T : Nat → Nat} {L p g n : Nat} {s v x : Int32}
theorem ep_C (h : ly c S) : ∃ D, X8_pgE (c, w, S, A, K) = pm_oI (A 71 4) (c, w, S, D, K) ∧ only PG A D ∧ (D 67 3 = A 71 3 ∧ D 67 4 = A 71 4) ∧ (∀ l, l < 6 → D 68 l = A 72 l) ∧ (∀ j, j < 48 → D 69 j = A 73 j) ∧ (D 75 3 = nI 5 ∧ ∀ j, j < 5 → D 76 j = A 1 j) ∧ (D 83 1 = nI 0 ∧ D 99 2 = nI 0 ∧ D 99 3 = nI 0 ∧ D 64 12 = nI 0) ∧ (∀ l, l < 6 → D 94 l = nI 0) ∧ (∀ k, k < 4 → D 95 k = A 74 k) ∧ D 93 4 = nI 0 ∧ D 93 5 = A 71 5 ∧ D 93 6 = nI 0 ∧ D 93 7 = nI 0 := by
  unfold X8_pgE X2_takeOver X1_makePlain X5_clear
  rw [lr_64_1 h, lr_64_2 h, lc_67 h, lr_71_0 h, lr_67_0 h, lcp (x := 0) (y := 0) (z := 6) (sp := 0) (dp := 0) (m := 6) 6 6 h rfl rfl rfl rfl (by omega) (by omega) (by omega) (by omega) rfl rfl rfl, lr_71_1 h, lr_67_1 h, lcp (x := 0) (y := 0) (z := 48) (sp := 0) (dp := 0) (m := 48) 48 48 h rfl rfl rfl rfl (by omega) (by omega) (by omega) (by omega) rfl rfl rfl, lr_71_2 h, lr_67_2 h, lcp (x := 0) (y := 0) (z := 4) (sp := 0) (dp := 0) (m := 4) 4 4 h rfl rfl rfl rfl (by omega) (by omega) (by omega) (by omega) rfl rfl rfl, lg_71 h, lp_67 h, lg_71 h, lp_67 h, lg_71 h, lp_67 h, ly_cV]
  have cB : ∀ i j, i ≠ 68 → i ≠ 69 → i ≠ 70 → ly_c (ly_c (ly_c A 72 0 68 0 6) 73 0 69 0 48) 74 0 70 0 4 i j = A i j := fun i j n1 n2 n3 => by rw [ly_cE, if_neg (by omega), ly_cE, if_neg (by omega), ly_cE, if_neg (by omega)]
  have c68 : ∀ l, l < 6 → ly_c (ly_c (ly_c A 72 0 68 0 6) 73 0 69 0 48) 74 0 70 0 4 68 l = A 72 l := fun l hl => by rw [ly_cE, if_neg (by omega), ly_cE, if_neg (by omega), ly_cE, if_pos ⟨rfl, by omega, by omega⟩]; congr 1; omega
  have c69 : ∀ l, l < 48 → ly_c (ly_c (ly_c A 72 0 68 0 6) 73 0 69 0 48) 74 0 70 0 4 69 l = A 73 l := fun l hl => by rw [ly_cE, if_neg (by omega), ly_cE, if_pos ⟨rfl, by omega, by omega⟩, ly_cE, if_neg (by omega)]; congr 1; omega
  have c70 : ∀ l, l < 4 → ly_c (ly_c (ly_c A 72 0 68 0 6) 73 0 69 0 48) 74 0 70 0 4 70 l = A 74 l := fun l hl => by rw [ly_cE, if_pos ⟨rfl, by omega, by omega⟩, ly_cE, if_neg (by omega), ly_cE, if_neg (by omega)]; congr 1; omega
  generalize ly_c (ly_c (ly_c A 72 0 68 0 6) 73 0 69 0 48) 74 0 70 0 4 = B at cB c68 c69 c70 ⊢
  rw [cB 71 3 (by omega) (by omega) (by omega), show ly_u B 67 3 (A 71 3) 71 4 = A 71 4 by rw [ly_uE, if_neg (by omega)]; exact cB 71 4 (by omega) (by omega) (by omega), show ly_u (ly_u B 67 3 (A 71 3)) 67 4 (A 71 4) 71 5 = A 71 5 by rw [ly_uE, if_neg (by omega), ly_uE, if_neg (by omega)]; exact cB 71 5 (by omega) (by omega) (by omega)]
  have d67 : ly_u (ly_u (ly_u B 67 3 (A 71 3)) 67 4 (A 71 4)) 67 5 (A 71 5) 67 3 = A 71 3 ∧ ly_u (ly_u (ly_u B 67 3 (A 71 3)) 67 4 (A 71 4)) 67 5 (A 71 5) 67 4 = A 71 4 ∧ ly_u (ly_u (ly_u B 67 3 (A 71 3)) 67 4 (A 71 4)) 67 5 (A 71 5) 67 5 = A 71 5 := by simp [ly_uE]
  have dB : ∀ i j, i ≠ 67 → ly_u (ly_u (ly_u B 67 3 (A 71 3)) 67 4 (A 71 4)) 67 5 (A 71 5) i j = B i j := fun i j n1 => by rw [ly_uE, if_neg (by omega), ly_uE, if_neg (by omega), ly_uE, if_neg (by omega)]
  generalize ly_u (ly_u (ly_u B 67 3 (A 71 3)) 67 4 (A 71 4)) 67 5 (A 71 5) = C at d67 dB ⊢
  rw [lr_64_3 h, lc_75 h, lr_75_0 h, ll_1 h, lcp (a0 := 1) (a1 := 76) (x := 0) (y := 0) (z := nI 5) (sp := 0) (dp := 0) (m := 5) 5 150 h rfl rfl rfl rfl (by omega) (by omega) (by omega) (by omega) rfl rfl rfl, ll_1 h, lp_75 h, ly_cV, lr_64_5 h, lp_83 h, lr_64_10 h, lc_99 h, lp_99 h, lp_99 h, ly_cV, lr_64_8 h, lc_93 h]
  have e76 : ∀ j, j < 5 → ly_c C 1 0 76 0 5 76 j = A 1 j := fun j hj => by rw [ly_cE, if_pos ⟨rfl, by omega, by omega⟩, dB _ _ (by omega), cB _ _ (by omega) (by omega) (by omega)]; congr 1; omega
  have eC : ∀ i j, i ≠ 76 → ly_c C 1 0 76 0 5 i j = C i j := fun i j n1 => by rw [ly_cE, if_neg (by omega)]
  generalize ly_c C 1 0 76 0 5 = D0 at e76 eC ⊢
  have f75 : ly_u (ly_u (ly_u (ly_u D0 75 3 (nI 5)) 83 1 0) 99 2 0) 99 3 0 75 3 = nI 5 ∧ ly_u (ly_u (ly_u (ly_u D0 75 3 (nI 5)) 83 1 0) 99 2 0) 99 3 0 83 1 = nI 0 ∧ ly_u (ly_u (ly_u (ly_u D0 75 3 (nI 5)) 83 1 0) 99 2 0) 99 3 0 99 2 = nI 0 ∧ ly_u (ly_u (ly_u (ly_u D0 75 3 (nI 5)) 83 1 0) 99 2 0) 99 3 0 99 3 = nI 0 := by
    refine ⟨?_, ?_, ?_, ?_⟩ <;> simp [ly_uE] <;> rfl
  have fD : ∀ i j, ¬ (i = 75 ∧ j = 3) → ¬ (i = 83 ∧ j = 1) → ¬ (i = 99 ∧ (j = 2 ∨ j = 3)) → ly_u (ly_u (ly_u (ly_u D0 75 3 (nI 5)) 83 1 0) 99 2 0) 99 3 0 i j = D0 i j := fun i j n1 n2 n3 => by rw [ly_uE, if_neg (by omega), ly_uE, if_neg (by omega), ly_uE, if_neg (by omega), ly_uE, if_neg (by omega)]
  generalize ly_u (ly_u (ly_u (ly_u D0 75 3 (nI 5)) 83 1 0) 99 2 0) 99 3 0 = D1 at f75 fD ⊢
  obtain ⟨D2, g1, g2, g3, g4, g5, g6, g7, g8⟩ := sa_C (w := w) (K := K) (A := D1) h
  have all : ∀ i j, i ≠ 93 → i ≠ 94 → i ≠ 95 → D2 i j = D1 i j := fun i j n1 n2 n3 => g2 i j (by omega)
  have back : ∀ i j, i ≠ 93 → i ≠ 94 → i ≠ 95 → ¬ (i = 75 ∧ j = 3) → ¬ (i = 83 ∧ j = 1) → ¬ (i = 99 ∧ (j = 2 ∨ j = 3)) → i ≠ 76 → D2 i j = C i j := fun i j n1 n2 n3 n4 n5 n6 n7 => by rw [all i j n1 n2 n3, fD i j n4 n5 n6, eC i j n7]
  rw [g1, ly_cV, lp_64 h, lr_64_1 h, lg_67 h, show ly_u D2 64 12 0 67 4 = A 71 4 by rw [ly_uE, if_neg (by omega), back 67 4 (by omega) (by omega) (by omega) (by omega) (by omega) (by omega) (by omega)]; exact d67.2.1]
  have z : ∀ i j, ¬ (i = 64 ∧ j = 12) → ly_u D2 64 12 0 i j = D2 i j := fun i j n1 => by rw [ly_uE, if_neg n1]
  refine ⟨_, rfl, fun i j hn => ?_, ⟨?_, ?_⟩, fun l hl => ?_, fun j hj => ?_, ⟨?_, fun j hj => ?_⟩, ⟨?_, ?_, ?_, ?_⟩, fun l hl => ?_, fun k hk => ?_, ?_, ?_, ?_, ?_⟩
  · unfold PG at hn
    rw [z i j (by omega), back i j (by omega) (by omega) (by omega) (by omega) (by omega) (by omega) (by omega), dB i j (by omega), cB i j (by omega) (by omega) (by omega)]
  · rw [z _ _ (by omega), back _ _ (by omega) (by omega) (by omega) (by omega) (by omega) (by omega) (by omega)]; exact d67.1
  · rw [z _ _ (by omega), back _ _ (by omega) (by omega) (by omega) (by omega) (by omega) (by omega) (by omega)]; exact d67.2.1
  · rw [z _ _ (by omega), back _ _ (by omega) (by omega) (by omega) (by omega) (by omega) (by omega) (by omega), dB _ _ (by omega)]; exact c68 l hl
  · rw [z _ _ (by omega), back _ _ (by omega) (by omega) (by omega) (by omega) (by omega) (by omega) (by omega), dB _ _ (by omega)]; exact c69 j hj
  · rw [z _ _ (by omega), all _ _ (by omega) (by omega) (by omega)]; exact f75.1
  · rw [z _ _ (by omega), all _ _ (by omega) (by omega) (by omega), fD _ _ (by omega) (by omega) (by omega)]; exact e76 j hj
  · rw [z _ _ (by omega), all _ _ (by omega) (by omega) (by omega)]; exact f75.2.1
  · rw [z _ _ (by omega), all _ _ (by omega) (by omega) (by omega)]; exact f75.2.2.1
  · rw [z _ _ (by omega), all _ _ (by omega) (by omega) (by omega)]; exact f75.2.2.2
  · rw [ly_uE, if_pos ⟨rfl, rfl⟩]; rfl
  · rw [z _ _ (by omega)]; exact g3 l hl
  · rw [z _ _ (by omega), g4 k hk, fD _ _ (by omega) (by omega) (by omega), eC _ _ (by omega), dB _ _ (by omega)]; exact c70 k hk
  · rw [z _ _ (by omega)]; exact g5
  · rw [z _ _ (by omega), g6, fD _ _ (by omega) (by omega) (by omega), eC _ _ (by omega)]; exact d67.2.2
  · rw [z _ _ (by omega)]; exact g7
  · rw [z _ _ (by omega)]; exact g8
/-- rows laid from one table to another one -/
theorem la_M (h : ly c S) (hn : n ≤ 6) : ∃ D, X9_lays 114 121 (nI n) (c, w, S, A, K) = pm_oV (c, w, S, D, K) ∧ only (fun i _ => 122 ≤ i ∧ i ≤ 127) A D ∧ ∀ l, l < n → ∀ i, i < 8 → D (122 + l) i = A (115 + l) i := by
  unfold X9_lays
  refine ly_loop (fun l (E : Nat → Nat → Int32) => ((nI l, (c, w, S, E, K)) : Int32 × pmM)) n (fun l E => only (fun i _ => 122 ≤ i ∧ i ≤ 127) A E ∧ ∀ u, u < l → ∀ i, i < 8 → E (122 + u) i = A (115 + u) i) (fun R => ∃ D, R = pm_oV (c, w, S, D, K) ∧ only (fun i _ => 122 ≤ i ∧ i ≤ 127) A D ∧ ∀ l, l < n → ∀ i, i < 8 → D (122 + l) i = A (115 + l) i) ?_ ?_ pm_N 0 A ⟨only_r, fun u hu => by omega⟩ (by omega) (by rw [pm_NE]; omega)
  · intro again l E hl hQ hnx
    obtain ⟨q1, q2⟩ := hQ
    unfold X9_lays_L2
    simp only
    rw [if_neg (nI_ge hl (by omega))]
    refine ly_loop (fun i (Z : Nat → Nat → Int32) => ((nI i, (c, w, S, Z, K)) : Int32 × pmM)) 8 (fun i Z => only (fun i _ => 122 ≤ i ∧ i ≤ 127) A Z ∧ (∀ u, u < l → ∀ i, i < 8 → Z (122 + u) i = A (115 + u) i) ∧ ∀ j, j < i → Z (122 + l) j = A (115 + l) j) (fun R => ∃ D, R = pm_oV (c, w, S, D, K) ∧ only (fun i _ => 122 ≤ i ∧ i ≤ 127) A D ∧ ∀ l, l < n → ∀ i, i < 8 → D (122 + l) i = A (115 + l) i) ?_ ?_ pm_N 0 E ⟨q1, q2, fun j hj => by omega⟩ (by omega) (by rw [pm_NE]; omega)
    · intro again2 i Z hi hQ hn2
      obtain ⟨p1, p2, p3⟩ := hQ
      unfold X9_lays_L10
      simp only
      rw [lr_121 h (by omega), ll_122 h (by omega), if_neg (nI_ge hi (by omega)), lr_121 h (by omega), lr_114 h (by omega), ld_115 h (by omega) hi, p1 (115 + l) i (by omega), ls_122 h (by omega) hi, ly_bI, nI_1]
      refine hn2 _ ⟨only_u p1 (by omega), fun u hu j hj => ?_, fun j hj => ?_⟩
      · rw [ly_uE, if_neg (by omega)]; exact p2 u hu j hj
      · by_cases e : j = i
        · subst e; rw [ly_uE, if_pos ⟨rfl, rfl⟩]
        · rw [ly_uE, if_neg (by omega)]; exact p3 j (by omega)
    · intro again2 Z hQ
      obtain ⟨p1, p2, p3⟩ := hQ
      unfold X9_lays_L10
      simp only
      rw [lr_121 h (by omega), ll_122 h (by omega), if_pos (nI_le (Nat.le_refl _) (by omega)), ly_bI, nI_1]
      refine hnx Z ⟨p1, fun u hu i hi => ?_⟩
      rcases Nat.lt_or_ge u l with e | e
      · exact p2 u e i hi
      · have : u = l := by omega
        subst this; exact p3 i hi
  · intro again E hQ
    unfold X9_lays_L2
    simp only
    rw [if_pos (nI_le (Nat.le_refl _) (by omega))]
    exact ⟨E, rfl, hQ⟩
end PAK
