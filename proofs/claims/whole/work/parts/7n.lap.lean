/-! the page laid in one row -/
section LAP
variable {c w : Nat} {S : Nat → pmS} {I I1 I2 J A : Nat → Nat → Int32} {K K1 : Nat → Nat → Int64} {n : Nat} {wd : Nat → Nat} {q : Nat → Nat → Nat} {r : Nat → Int32} {a : Nat} {se : Nat → Nat} {W G d : Nat}
def PZ (i _j : Nat) : Prop := i = 558 ∨ i = 559 ∨ i = 560
def lap (D : Nat → Nat → Int32) (wd : Nat → Nat) (q : Nat → Nat → Nat) (s : Nat → Nat) (l i : Nat) : Prop := D 558 (rd_sum wd l + i) = nI (q l i) ∧ D 559 (rd_sum wd l + i) = nI (if (s l).testBit i then 1 else 0) ∧ D 560 (rd_sum wd l + i) = nI (if i = 0 then 1 else 0)
theorem sum_at {l u i : Nat} (hu : u < l) (hi : i < wd u) : rd_sum wd u + i < rd_sum wd l := by
  have h1 : rd_sum wd (u + 1) ≤ rd_sum wd l := rd_sum_mono (by omega)
  have h2 : rd_sum wd (u + 1) = rd_sum wd u + wd u := rfl
  omega
theorem sum_48 {l : Nat} (hW : pg_W n wd q) (hl : l ≤ n) : rd_sum wd l ≤ l * 8 := rd_sum_bd (fun k hk => pg_wd hW k)
theorem lz_M (h : ly c S) (hP : pg_M A n wd q) (hC : dk_M A 535 r) (hr : dk_W n wd r) : ∃ D, X9_laysPage 108 (c, w, S, A, K) = pm_oI (nI (rd_sum wd n)) (c, w, S, D, K) ∧ only PZ A D ∧ ∀ l, l < n → ∀ i, i < wd l → lap D wd q (rd_s r) l i := by
  have hW := hP.1
  have hn6 := hW.1
  unfold X9_laysPage
  refine ly_loop (fun l (E : Nat → Nat → Int32) => ((nI (rd_sum wd l), nI l, (c, w, S, E, K)) : Int32 × Int32 × pmM)) n (fun l E => only PZ A E ∧ ∀ u, u < l → ∀ i, i < wd u → lap E wd q (rd_s r) u i) (fun R => ∃ D, R = pm_oI (nI (rd_sum wd n)) (c, w, S, D, K) ∧ only PZ A D ∧ ∀ l, l < n → ∀ i, i < wd l → lap D wd q (rd_s r) l i) ?_ ?_ pm_N 0 A ⟨only_r, fun u hu => by omega⟩ (by omega) (by rw [pm_NE]; omega)
  · intro again l E hl hQ hnx
    obtain ⟨q1, q2⟩ := hQ
    have hw := hW.2.1 l hl
    have hsm := sum_48 hW (l := l) (by omega)
    have hsb := rd_sb hW hr (l := l) (by omega)
    unfold X9_laysPage_L4
    simp only
    rw [lg_108 h, q1 108 13 (by unfold PZ; omega), hP.2.1, if_neg (nI_ge hl (by omega))]
    refine ly_loop (fun i (Z : Nat → Nat → Int32) => ((nI (rd_sum wd l + i), nI i, (c, w, S, Z, K)) : Int32 × Int32 × pmM)) (wd l) (fun i Z => only PZ A Z ∧ (∀ u, u < l → ∀ i, i < wd u → lap Z wd q (rd_s r) u i) ∧ ∀ j, j < i → lap Z wd q (rd_s r) l j) (fun R => ∃ D, R = pm_oI (nI (rd_sum wd n)) (c, w, S, D, K) ∧ only PZ A D ∧ ∀ l, l < n → ∀ i, i < wd l → lap D wd q (rd_s r) l i) ?_ ?_ pm_N 0 E ⟨q1, q2, fun j hj => by omega⟩ (by omega) (by rw [pm_NE]; omega)
    · intro again2 i Z hi hQ hn2
      obtain ⟨p1, p2, p3⟩ := hQ
      have e1 : Z 113 l = nI (wd l) := by rw [p1 113 l (by unfold PZ; omega)]; exact hP.2.2.1 l (by omega)
      have e2 : Z (122 + l) i = nI (q l i) := by rw [p1 (122 + l) i (by unfold PZ; omega)]; exact hP.2.2.2 l i hl hi
      have e3 : ly_u Z 558 (rd_sum wd l + i) (nI (q l i)) 535 l = nI (rd_s r l) := by rw [ly_uE, if_neg (by omega), p1 535 l (by unfold PZ; omega)]; exact dm_s hC hr (by omega)
      have ec : (if nI i = 0 then X9_laysPage_j70 again again2 108 (nI (rd_sum wd l + i)) (nI l) (nI i) 1 (nI (rd_sum wd l + i)) 560 (c, w, S, ly_u (ly_u Z 558 (rd_sum wd l + i) (nI (q l i))) 559 (rd_sum wd l + i) (nI (if (rd_s r l).testBit i then 1 else 0)), K) else X9_laysPage_j70 again again2 108 (nI (rd_sum wd l + i)) (nI l) (nI i) 0 (nI (rd_sum wd l + i)) 560 (c, w, S, ly_u (ly_u Z 558 (rd_sum wd l + i) (nI (q l i))) 559 (rd_sum wd l + i) (nI (if (rd_s r l).testBit i then 1 else 0)), K)) = X9_laysPage_j70 again again2 108 (nI (rd_sum wd l + i)) (nI l) (nI i) (nI (if i = 0 then 1 else 0)) (nI (rd_sum wd l + i)) 560 (c, w, S, ly_u (ly_u Z 558 (rd_sum wd l + i) (nI (q l i))) 559 (rd_sum wd l + i) (nI (if (rd_s r l).testBit i then 1 else 0)), K) := by
        by_cases ei : i = 0
        · subst ei; rw [n00, if_pos rfl]; rfl
        · rw [if_neg (show ¬ nI i = 0 from fun e => ei ((nI_eq (b := 0) (by omega) (by omega)).mp e)), if_neg ei]; rfl
      unfold X9_laysPage_L14
      simp only
      rw [lr_108_16 h, ld_113 h (by omega), e1, if_neg (nI_ge hi (by omega)), lr_108_40 h, lr_108_18 h, lr_121 h (by omega), ld_122 h (by omega) (by omega), e2, ls_558 h (by omega), lr_108_41 h, lr_108_29 h, show (0 : Int32) + nI l = nI l from Int32.zero_add _, ld_535 h (by omega), e3, show ((nI (rd_s r l) >>> (nI i &&& 31)) &&& 1) = nI (if (rd_s r l).testBit i then 1 else 0) from rd_bit _ hsb i (by omega), ls_559 h (by omega), lr_108_42 h, ec]
      unfold X9_laysPage_j70
      rw [ls_560 h (by omega), ly_bI, ly_bI, nI_1, nI_1]
      refine hn2 _ ⟨only_u (only_u (only_u p1 (by unfold PZ; omega)) (by unfold PZ; omega)) (by unfold PZ; omega), fun u hu j hj => ?_, fun j hj => ?_⟩
      · have := sum_at hu hj
        obtain ⟨a1, a2, a3⟩ := p2 u hu j hj
        refine ⟨?_, ?_, ?_⟩
        · rw [ly_uE, if_neg (by omega), ly_uE, if_neg (by omega), ly_uE, if_neg (by omega)]; exact a1
        · rw [ly_uE, if_neg (by omega), ly_uE, if_neg (by omega), ly_uE, if_neg (by omega)]; exact a2
        · rw [ly_uE, if_neg (by omega), ly_uE, if_neg (by omega), ly_uE, if_neg (by omega)]; exact a3
      · by_cases e : j = i
        · subst e
          refine ⟨?_, ?_, ?_⟩
          · rw [ly_uE, if_neg (by omega), ly_uE, if_neg (by omega), ly_uE, if_pos ⟨rfl, rfl⟩]
          · rw [ly_uE, if_neg (by omega), ly_uE, if_pos ⟨rfl, rfl⟩]
          · rw [ly_uE, if_pos ⟨rfl, rfl⟩]
        · obtain ⟨a1, a2, a3⟩ := p3 j (by omega)
          refine ⟨?_, ?_, ?_⟩
          · rw [ly_uE, if_neg (by omega), ly_uE, if_neg (by omega), ly_uE, if_neg (by omega)]; exact a1
          · rw [ly_uE, if_neg (by omega), ly_uE, if_neg (by omega), ly_uE, if_neg (by omega)]; exact a2
          · rw [ly_uE, if_neg (by omega), ly_uE, if_neg (by omega), ly_uE, if_neg (by omega)]; exact a3
    · intro again2 Z hQ
      obtain ⟨p1, p2, p3⟩ := hQ
      have e1 : Z 113 l = nI (wd l) := by rw [p1 113 l (by unfold PZ; omega)]; exact hP.2.2.1 l (by omega)
      unfold X9_laysPage_L14
      simp only
      rw [lr_108_16 h, ld_113 h (by omega), e1, if_pos (nI_le (Nat.le_refl _) (by omega)), ly_bI, nI_1]
      refine hnx Z ⟨p1, fun u hu i hi => ?_⟩
      rcases Nat.lt_or_ge u l with e | e
      · exact p2 u e i hi
      · have : u = l := by omega
        subst this; exact p3 i hi
  · intro again E hQ
    unfold X9_laysPage_L4
    simp only
    rw [lg_108 h, hQ.1 108 13 (by unfold PZ; omega), hP.2.1, if_pos (nI_le (Nat.le_refl _) (by omega))]
    exact ⟨E, rfl, hQ⟩
end LAP
