/-! images: the model's rows -/
section IMG
variable {c w : Nat} {S : Nat → pmS} {I I1 I2 A : Nat → Nat → Int32} {K K1 : Nat → Nat → Int64} {n : Nat} {wd : Nat → Nat} {q : Nat → Nat → Nat} {r : Nat → Int32} {a : Nat} {se : Nat → Nat} {W G d p g sp : Nat}
theorem pt_j (h : ly c S) (hg : g < 3) (hs : sp < 239) (e : A 108 37 = nI sp) : X9_puts_j11 108 (555 + g) (c, w, S, A, K) = pm_oI (A (555 + g) sp) (c, w, S, ly_u A 108 37 (nI (sp + 1)), K) := by
  unfold X9_puts_j11
  rw [lg_108 h, e, lp_108 h, nI_1, lg_108 h, show ly_u A 108 37 (nI (sp + 1)) 108 37 = nI (sp + 1) by rw [ly_uE, if_pos ⟨rfl, rfl⟩], show nI (sp + 1) - (1 : Int32) = nI sp from nI_pred sp, ld_555 h hg hs, ly_uE, if_neg (by omega)]
theorem pt_F {y : Int32} (h : ly c S) (hg : g < 3) (hs : sp < 239) (e : A 108 37 = nI sp) : X9_puts 108 (555 + g) y 0 (c, w, S, A, K) = pm_oI y (c, w, S, ly_u (ly_u A (555 + g) sp y) 108 37 (nI (sp + 1)), K) := by
  unfold X9_puts
  rw [i00, lg_108 h, e, ls_555 h hg hs, pt_j h hg hs (by rw [ly_uE, if_neg (by omega)]; exact e), ly_uE, if_pos ⟨rfl, rfl⟩]
theorem pt_B {y : Int32} (h : ly c S) (hg : g < 3) (hs : sp < 239) (e : A 108 37 = nI sp) : X9_puts 108 (555 + g) y 1 (c, w, S, A, K) = pm_oI (A (555 + g) sp) (c, w, S, ly_u A 108 37 (nI (sp + 1)), K) := by
  unfold X9_puts
  rw [i10, pt_j h hg hs e]
theorem pa_F (h : ly c S) (hg : g < 3) : ∃ I1, X9_putsAll 108 (555 + g) 0 (c, w, S, I, K) = pm_oV (c, w, S, I1, K) ∧ (∀ i j, ¬ (i = 108 ∧ j = 37) → i ≠ 555 + g → I1 i j = I i j) ∧ I1 (555 + g) 0 = I 108 34 ∧ (∀ k, k < 14 → I1 (555 + g) (1 + k) = I 535 k) ∧ ∀ v, v < 16 → ∀ k, k < 14 → I1 (555 + g) (15 + v * 14 + k) = I (538 + v) k := by
  unfold X9_putsAll
  have e0 : ly_u I 108 37 0 108 37 = nI 0 := by rw [ly_uE, if_pos ⟨rfl, rfl⟩]; rfl
  have e34 : ly_u I 108 37 0 108 34 = I 108 34 := by rw [ly_uE, if_neg (by omega)]
  rw [lp_108 h, lg_108 h, e34, lc_108 h, pt_F h hg (by omega) e0, ly_cI, lp_108 h]
  have f0 : ∀ i j, ¬ (i = 108 ∧ j = 37) → i ≠ 555 + g → ly_u (ly_u (ly_u (ly_u I 108 37 0) (555 + g) 0 (I 108 34)) 108 37 (nI (0 + 1))) 108 34 (I 108 34) i j = I i j := by
    intro i j n1 n2
    by_cases e : i = 108 ∧ j = 34
    · obtain ⟨rfl, rfl⟩ := e
      rw [ly_uE, if_pos ⟨rfl, rfl⟩]
    · rw [ly_uE, if_neg e, ly_uE, if_neg n1, ly_uE, if_neg (by omega), ly_uE, if_neg n1]
  have f1 : ly_u (ly_u (ly_u (ly_u I 108 37 0) (555 + g) 0 (I 108 34)) 108 37 (nI (0 + 1))) 108 34 (I 108 34) 108 37 = nI 1 := by rw [ly_uE, if_neg (by omega), ly_uE, if_pos ⟨rfl, rfl⟩]
  have f2 : ly_u (ly_u (ly_u (ly_u I 108 37 0) (555 + g) 0 (I 108 34)) 108 37 (nI (0 + 1))) 108 34 (I 108 34) (555 + g) 0 = I 108 34 := by rw [ly_uE, if_neg (by omega), ly_uE, if_neg (by omega), ly_uE, if_pos ⟨rfl, rfl⟩]
  generalize ly_u (ly_u (ly_u (ly_u I 108 37 0) (555 + g) 0 (I 108 34)) 108 37 (nI (0 + 1))) 108 34 (I 108 34) = B at f0 f1 f2 ⊢
  refine ly_loop (fun k (A : Nat → Nat → Int32) => ((nI k, (c, w, S, A, K)) : Int32 × pmM)) 14 (fun k A => (∀ i j, ¬ (i = 108 ∧ j = 37) → i ≠ 555 + g → A i j = I i j) ∧ A 108 37 = nI (1 + k) ∧ A (555 + g) 0 = I 108 34 ∧ ∀ j, j < k → A (555 + g) (1 + j) = I 535 j) (fun R => ∃ I1, R = pm_oV (c, w, S, I1, K) ∧ (∀ i j, ¬ (i = 108 ∧ j = 37) → i ≠ 555 + g → I1 i j = I i j) ∧ I1 (555 + g) 0 = I 108 34 ∧ (∀ k, k < 14 → I1 (555 + g) (1 + k) = I 535 k) ∧ ∀ v, v < 16 → ∀ k, k < 14 → I1 (555 + g) (15 + v * 14 + k) = I (538 + v) k) ?_ ?_ pm_N 0 B ⟨f0, f1, f2, fun j hj => by omega⟩ (by omega) (by rw [pm_NE]; omega)
  · intro again k A hk hQ hn
    obtain ⟨q1, q2, q3, q4⟩ := hQ
    unfold X9_putsAll_L21
    simp only
    rw [if_neg (show ¬ (14 : Int32) ≤ nI k from nI_ge (b := 14) hk (by omega)), lr_108_29 h, lr_108_29 h, ld_535 h hk, q1 535 k (by omega) (by omega), lc_108 h, pt_F h hg (by omega) q2, ly_cI, ls_535 h hk, ly_bI, nI_1]
    refine hn _ ⟨fun i j n1 n2 => ?_, ?_, ?_, fun j hj => ?_⟩
    · by_cases e : i = 535 ∧ j = k
      · obtain ⟨rfl, rfl⟩ := e
        rw [ly_uE, if_pos ⟨rfl, rfl⟩]
      · rw [ly_uE, if_neg e, ly_uE, if_neg n1, ly_uE, if_neg (by omega)]
        exact q1 i j n1 n2
    · rw [ly_uE, if_neg (by omega), ly_uE, if_pos ⟨rfl, rfl⟩]
      rfl
    · rw [ly_uE, if_neg (by omega), ly_uE, if_neg (by omega), ly_uE, if_neg (by omega)]
      exact q3
    · rw [ly_uE, if_neg (by omega), ly_uE, if_neg (by omega)]
      by_cases e : j = k
      · subst e
        rw [ly_uE, if_pos ⟨rfl, rfl⟩]
      · rw [ly_uE, if_neg (by omega)]
        exact q4 j (by omega)
  · intro again A hQ
    obtain ⟨q1, q2, q3, q4⟩ := hQ
    unfold X9_putsAll_L21
    simp only
    rw [if_pos (show (14 : Int32) ≤ nI 14 by decide)]
    refine ly_loop (fun v (B : Nat → Nat → Int32) => ((nI v, (c, w, S, B, K)) : Int32 × pmM)) 16 (fun v B => (∀ i j, ¬ (i = 108 ∧ j = 37) → i ≠ 555 + g → B i j = I i j) ∧ B 108 37 = nI (15 + v * 14) ∧ B (555 + g) 0 = I 108 34 ∧ (∀ j, j < 14 → B (555 + g) (1 + j) = I 535 j) ∧ ∀ u, u < v → ∀ k, k < 14 → B (555 + g) (15 + u * 14 + k) = I (538 + u) k) (fun R => ∃ I1, R = pm_oV (c, w, S, I1, K) ∧ (∀ i j, ¬ (i = 108 ∧ j = 37) → i ≠ 555 + g → I1 i j = I i j) ∧ I1 (555 + g) 0 = I 108 34 ∧ (∀ k, k < 14 → I1 (555 + g) (1 + k) = I 535 k) ∧ ∀ v, v < 16 → ∀ k, k < 14 → I1 (555 + g) (15 + v * 14 + k) = I (538 + v) k) ?_ ?_ pm_N 0 A ⟨q1, q2, q3, q4, fun u hu => by omega⟩ (by omega) (by rw [pm_NE]; omega)
    · intro again2 v B hv hQ hn
      obtain ⟨p1, p2, p3, p4, p5⟩ := hQ
      unfold X9_putsAll_L53
      simp only
      rw [if_neg (show ¬ (16 : Int32) ≤ nI v from nI_ge (b := 16) hv (by omega))]
      refine ly_loop (fun k (E : Nat → Nat → Int32) => ((nI k, (c, w, S, E, K)) : Int32 × pmM)) 14 (fun k E => (∀ i j, ¬ (i = 108 ∧ j = 37) → i ≠ 555 + g → E i j = I i j) ∧ E 108 37 = nI (15 + v * 14 + k) ∧ E (555 + g) 0 = I 108 34 ∧ (∀ j, j < 14 → E (555 + g) (1 + j) = I 535 j) ∧ (∀ u, u < v → ∀ k, k < 14 → E (555 + g) (15 + u * 14 + k) = I (538 + u) k) ∧ ∀ j, j < k → E (555 + g) (15 + v * 14 + j) = I (538 + v) j) (fun R => ∃ I1, R = pm_oV (c, w, S, I1, K) ∧ (∀ i j, ¬ (i = 108 ∧ j = 37) → i ≠ 555 + g → I1 i j = I i j) ∧ I1 (555 + g) 0 = I 108 34 ∧ (∀ k, k < 14 → I1 (555 + g) (1 + k) = I 535 k) ∧ ∀ v, v < 16 → ∀ k, k < 14 → I1 (555 + g) (15 + v * 14 + k) = I (538 + v) k) ?_ ?_ pm_N 0 B ⟨p1, p2, p3, p4, p5, fun j hj => by omega⟩ (by omega) (by rw [pm_NE]; omega)
      · intro again3 k E hk hQ hn3
        obtain ⟨o1, o2, o3, o4, o5, o6⟩ := hQ
        unfold X9_putsAll_L62
        simp only
        rw [if_neg (show ¬ (14 : Int32) ≤ nI k from nI_ge (b := 14) hk (by omega)), lr_108_31 h, lr_537 h hv, lr_108_31 h, lr_537 h hv, ld_538 h hv hk, o1 (538 + v) k (by omega) (by omega), lc_108 h, pt_F h hg (by omega) o2, ly_cI, ls_538 h hv hk, ly_bI, nI_1]
        refine hn3 _ ⟨fun i j n1 n2 => ?_, ?_, ?_, fun j hj => ?_, fun u hu j hj => ?_, fun j hj => ?_⟩
        · by_cases e : i = 538 + v ∧ j = k
          · obtain ⟨rfl, rfl⟩ := e
            rw [ly_uE, if_pos ⟨rfl, rfl⟩]
          · rw [ly_uE, if_neg e, ly_uE, if_neg n1, ly_uE, if_neg (by omega)]
            exact o1 i j n1 n2
        · rw [ly_uE, if_neg (by omega), ly_uE, if_pos ⟨rfl, rfl⟩]
          rfl
        · rw [ly_uE, if_neg (by omega), ly_uE, if_neg (by omega), ly_uE, if_neg (by omega)]
          exact o3
        · rw [ly_uE, if_neg (by omega), ly_uE, if_neg (by omega), ly_uE, if_neg (by omega)]
          exact o4 j hj
        · rw [ly_uE, if_neg (by omega), ly_uE, if_neg (by omega), ly_uE, if_neg (by omega)]
          exact o5 u hu j hj
        · rw [ly_uE, if_neg (by omega), ly_uE, if_neg (by omega)]
          by_cases e : j = k
          · subst e
            rw [ly_uE, if_pos ⟨rfl, rfl⟩]
          · rw [ly_uE, if_neg (by omega)]
            exact o6 j (by omega)
      · intro again3 E hQ
        obtain ⟨o1, o2, o3, o4, o5, o6⟩ := hQ
        unfold X9_putsAll_L62
        simp only
        rw [if_pos (show (14 : Int32) ≤ nI 14 by decide), ly_bI, nI_1]
        refine hn E ⟨o1, ?_, o3, o4, fun u hu j hj => ?_⟩
        · rw [o2]; congr 1; omega
        · rcases Nat.lt_or_ge u v with e | e
          · exact o5 u e j hj
          · have : u = v := by omega
            subst this
            exact o6 j hj
    · intro again2 B hQ
      obtain ⟨p1, p2, p3, p4, p5⟩ := hQ
      unfold X9_putsAll_L53
      simp only
      rw [if_pos (show (16 : Int32) ≤ nI 16 by decide)]
      exact ⟨B, rfl, p1, p3, p4, p5⟩
end IMG
