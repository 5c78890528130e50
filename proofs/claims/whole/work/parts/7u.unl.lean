/-! unlike: the class -/
section UNL
variable {c w : Nat} {S : Nat → pmS} {I I1 I2 J A D : Nat → Nat → Int32} {K K1 K2 : Nat → Nat → Int64} {n : Nat} {wd : Nat → Nat} {q : Nat → Nat → Nat} {r : Nat → Int32} {a : Nat} {se : Nat → Nat} {W G d : Nat} {s : Nat → Nat} {R : Nat → Nat → Int64}
def sm (g : Nat → Int64) : Nat → Int64
  | 0 => 0
  | k + 1 => sm g k + g k
theorem sm_s {g : Nat → Int64} {k : Nat} : sm g (k + 1) = sm g k + g k := rfl
theorem sm_c {g g2 : Nat → Int64} : ∀ {k : Nat}, (∀ j, j < k → g2 j = g j) → sm g2 k = sm g k
  | 0, _ => rfl
  | k + 1, h => by rw [sm_s, sm_s, sm_c (fun j hj => h j (by omega)), h k (by omega)]
theorem sm_u {g g2 : Nat → Int64} {y : Nat} {v : Int64} (hy : g2 y = v) (ho : ∀ j, j ≠ y → g2 j = g j) : ∀ {k : Nat}, y < k → sm g2 k = sm g k + (v - g y)
  | 0, h => by omega
  | k + 1, h => by
    rw [sm_s, sm_s]
    by_cases e : y = k
    · subst e
      rw [sm_c (g := g) (fun j hj => ho j (by omega)), hy, Int64.sub_eq_add_neg, Int64.add_assoc, ← Int64.add_assoc (g y), Int64.add_comm (g y), Int64.add_assoc v, Int64.add_right_neg, Int64.add_zero]
    · rw [sm_u hy ho (by omega), ho k (fun e2 => e e2.symm), Int64.add_assoc, Int64.add_assoc, Int64.add_comm (g k)]
def fv (R : Nat → Nat → Int64) (m : Nat) : Int64 := (if m = 0 then 1 else 0) + sm (R m) 16
def ust (y : Nat) (R : Nat → Nat → Int64) (m w : Nat) : Int64 := if w = y ∧ 1 ≤ m then fv R (m - 1) else R m w
def ur (Y : Nat → Nat) : Nat → Nat → Nat → Int64
  | 0 => fun _ _ => 0
  | p + 1 => ust (Y p) (ur Y p)
theorem fv_u {y u : Nat} (hy : y < 16) : fv (ust y R) (u + 1) = fv R (u + 1) + (fv R u - R (u + 1) y) := by
  unfold fv
  rw [if_neg (by omega), Int64.zero_add, Int64.zero_add]
  refine sm_u ?_ (fun j hj => ?_) hy
  · unfold ust; rw [if_pos ⟨rfl, by omega⟩]; rfl
  · unfold ust; rw [if_neg (fun e => hj e.1)]
theorem fv_0 {y : Nat} : fv (ust y R) 0 = fv R 0 := by
  unfold fv
  rw [sm_c (g := R 0) (fun j hj => by unfold ust; rw [if_neg (by omega)])]
theorem ll_104 {f : Int32 → pmR} (h : ly c S) : pm_len 102 104 (c, w, S, I, K) f = f (nI 208) := ly_lenG h rfl
theorem y13 : ∀ y, y < 16 → nI y * (13 : Int32) = nI (y * 13) := by decide
/-- one word, the class -/
theorem ui_C {y : Nat} (h : ly c S) (hy : y < 16) (h1 : ∀ k, k ≤ 12 → K 103 k = fv R k) (h2 : ∀ v m, v < 16 → m < 12 → K 104 (v * 13 + m) = R (m + 1) v) : ∃ K', X4_addRowsWith 102 (nI y) (c, w, S, I, K) = pm_oV (c, w, S, I, K') ∧ (∀ k, k ≤ 12 → K' 103 k = fv (ust y R) k) ∧ ∀ v m, v < 16 → m < 12 → K' 104 (v * 13 + m) = ust y R (m + 1) v := by
  unfold X4_addRowsWith
  rw [y13 y hy, ly_bI]
  refine ly_loop (fun t (K' : Nat → Nat → Int64) => ((nI (12 - t), (c, w, S, I, K')) : Int32 × pmM)) 12 (fun t K' => (∀ k, k ≤ 12 → K' 103 k = if k ≤ 12 - t then fv R k else fv (ust y R) k) ∧ ∀ v m, v < 16 → m < 12 → K' 104 (v * 13 + m) = if m + 1 ≤ 12 - t then R (m + 1) v else ust y R (m + 1) v) (fun Z => ∃ K', Z = pm_oV (c, w, S, I, K') ∧ (∀ k, k ≤ 12 → K' 103 k = fv (ust y R) k) ∧ ∀ v m, v < 16 → m < 12 → K' 104 (v * 13 + m) = ust y R (m + 1) v) ?_ ?_ pm_N 0 K ⟨fun k hk => by rw [h1 k hk, if_pos (by omega)], fun v m hv hm => by rw [h2 v m hv hm, if_pos (by omega)]⟩ (by omega) (by rw [pm_NE]; omega)
  · intro again t K' ht hQ hn
    obtain ⟨hQ1, hQ2⟩ := hQ
    obtain ⟨u, hu⟩ : ∃ u, 12 - t = u + 1 := ⟨12 - t - 1, by omega⟩
    have hu2 : 12 - (t + 1) = u := by omega
    rw [hu2] at hn
    rw [hu] at hQ1 hQ2
    unfold X4_addRowsWith_L8
    simp only
    rw [hu]
    have e1 : K' 103 (u + 1) = fv R (u + 1) := by rw [hQ1 _ (by omega), if_pos (by omega)]
    have e2 : K' 103 u = fv R u := by rw [hQ1 _ (by omega), if_pos (by omega)]
    have e3 : K' 104 (y * 13 + u) = R (u + 1) y := by rw [hQ2 _ _ hy (by omega), if_pos (by omega)]
    have ei : nI (y * 13) + nI (u + 1) - 1 = nI (y * 13 + u) := by rw [show nI (y * 13) + nI (u + 1) = nI (y * 13 + u + 1) from nI_add _ _]; exact nI_pred _
    rw [if_neg (show ¬ nI (u + 1) ≤ 0 from (show ¬ nI (u + 1) ≤ nI 0 from nI_ge (by omega) (by omega))), lr_102_1 h, show nI (u + 1) - 1 = nI u from nI_pred u, ld_103 h (by omega), e2, lr_102_1 h, ld_103 h (by omega), e1, lr_102_2 h, ei, ld_104 h (by omega), e3, ls_103 h (by omega), lr_102_2 h, ls_104 h (by omega), nI_dn, ly_bI, ← fv_u hy]
    refine hn _ ⟨fun k hk => ?_, fun v m hv hm => ?_⟩
    · rw [ly_vE, if_neg (by omega), ly_vE]
      by_cases ek : k = u + 1
      · subst ek; rw [if_pos ⟨rfl, rfl⟩, if_neg (by omega)]
      · rw [if_neg (by omega), hQ1 k hk]
        by_cases e : k ≤ u
        · rw [if_pos (by omega), if_pos e]
        · rw [if_neg (by omega), if_neg e]
    · rw [ly_vE]
      by_cases ek : v = y ∧ m = u
      · obtain ⟨rfl, rfl⟩ := ek
        rw [if_pos ⟨rfl, rfl⟩, if_neg (by omega)]
        unfold ust; rw [if_pos ⟨rfl, by omega⟩]; rfl
      · rw [if_neg (by omega), ly_vE, if_neg (by omega), hQ2 v m hv hm]
        by_cases e : m + 1 ≤ u
        · rw [if_pos (by omega), if_pos e]
        · by_cases e2 : m = u
          · subst e2
            rw [if_pos (by omega), if_neg e]
            unfold ust; rw [if_neg (fun e3 => ek ⟨e3.1, rfl⟩)]
          · rw [if_neg (by omega), if_neg e]
  · intro again K' hQ
    unfold X4_addRowsWith_L8
    simp only
    rw [Nat.sub_self] at hQ ⊢
    rw [if_pos (show nI 0 ≤ 0 from by decide)]
    refine ⟨K', rfl, fun k hk => ?_, fun v m hv hm => ?_⟩
    · rw [hQ.1 k hk]
      by_cases e : k ≤ 0
      · have : k = 0 := by omega
        subst this
        rw [if_pos e, fv_0]
      · rw [if_neg e]
    · rw [hQ.2 v m hv hm, if_neg (by omega)]
theorem un_C {b : Nat} (h : ly c S) (hP : pg_C I n wd q) (hb : b ≤ 12) : ∃ K', X4_unlikeRows 102 (nI b) (c, w, S, I, K) = pm_oL (fv (ur (flw wd q n) (rd_sum wd n)) b) (c, w, S, I, K') := by
  have hW := hP.1
  have hn6 := hW.1
  obtain ⟨K3, s1, s2⟩ := sw_C (w := w) (I := I) (K := K) h
  unfold X4_unlikeRows
  rw [lc_102 h, s1, ly_cV]
  refine ly_loop (fun i (K' : Nat → Nat → Int64) => ((nI i, (c, w, S, I, K')) : Int32 × pmM)) 208 (fun i K' => (∀ k, k ≤ 12 → K' 103 k = if k = 0 then 1 else 0) ∧ ∀ j, j < i → K' 104 j = 0) (fun Z => ∃ K', Z = pm_oL (fv (ur (flw wd q n) (rd_sum wd n)) b) (c, w, S, I, K')) ?_ ?_ pm_N 0 K3 ⟨s2, fun j hj => by omega⟩ (by omega) (by rw [pm_NE]; omega)
  · intro again i K' hi hQ hn
    unfold X4_unlikeRows_L6
    simp only
    rw [lr_102_2 h, ll_104 h, if_neg (nI_ge hi (by omega)), lr_102_2 h, ls_104 h hi, ly_bI, nI_1]
    refine hn _ ⟨fun k hk => by rw [ly_vE, if_neg (by omega)]; exact hQ.1 k hk, fun j hj => ?_⟩
    rw [ly_vE]
    by_cases e : j = i
    · rw [if_pos ⟨rfl, e⟩]
    · rw [if_neg (fun e2 => e e2.2)]; exact hQ.2 j (by omega)
  · intro again K' hQ
    unfold X4_unlikeRows_L6
    simp only
    rw [lr_102_2 h, ll_104 h, if_pos (nI_le (Nat.le_refl _) (by omega))]
    refine ly_loop (fun l (K' : Nat → Nat → Int64) => ((nI l, (c, w, S, I, K')) : Int32 × pmM)) n (fun l K' => (∀ k, k ≤ 12 → K' 103 k = fv (ur (flw wd q n) (rd_sum wd l)) k) ∧ ∀ v m, v < 16 → m < 12 → K' 104 (v * 13 + m) = ur (flw wd q n) (rd_sum wd l) (m + 1) v) (fun Z => ∃ K', Z = pm_oL (fv (ur (flw wd q n) (rd_sum wd n)) b) (c, w, S, I, K')) ?_ ?_ pm_N 0 K' ⟨fun k hk => ?_, fun v m hv hm => by rw [hQ.2 _ (by omega)]; rfl⟩ (by omega) (by rw [pm_NE]; omega)
    · intro again2 l K4 hl hQ4 hn4
      have hw := hW.2.1 l hl
      unfold X4_unlikeRows_L30
      simp only
      rw [lr_102_0 h, lg_67 h, hP.2.1, if_neg (nI_ge hl (by omega))]
      refine ly_loop (fun i (K' : Nat → Nat → Int64) => ((nI i, (c, w, S, I, K')) : Int32 × pmM)) (wd l) (fun i K' => (∀ k, k ≤ 12 → K' 103 k = fv (ur (flw wd q n) (rd_sum wd l + i)) k) ∧ ∀ v m, v < 16 → m < 12 → K' 104 (v * 13 + m) = ur (flw wd q n) (rd_sum wd l + i) (m + 1) v) (fun Z => ∃ K', Z = pm_oL (fv (ur (flw wd q n) (rd_sum wd n)) b) (c, w, S, I, K')) ?_ ?_ pm_N 0 K4 hQ4 (by omega) (by rw [pm_NE]; omega)
      · intro again3 i K5 hi hQ5 hn5
        have hq16 := hW.2.2.2 l i hl hi
        obtain ⟨K6, g1, g2, g3⟩ := ui_C (w := w) (I := I) (R := ur (flw wd q n) (rd_sum wd l + i)) h hq16 hQ5.1 hQ5.2
        unfold X4_unlikeRows_L43
        simp only
        rw [lr_102_0 h, lr_67_0 h, ld_68 h (by omega), hP.2.2.1 l hl, if_neg (nI_ge hi (by omega)), lr_102_0 h, lc_67 h, rd_wordAt h hP (by omega) (by omega), ly_cI, show rd_q n wd q l i = q l i from if_pos ⟨hl, hi⟩, lc_102 h, g1, ly_cV, ly_bI, nI_1]
        have er : ur (flw wd q n) (rd_sum wd l + (i + 1)) = ust (q l i) (ur (flw wd q n) (rd_sum wd l + i)) := by
          have e0 : ur (flw wd q n) (rd_sum wd l + i + 1) = ust (flw wd q n (rd_sum wd l + i)) (ur (flw wd q n) (rd_sum wd l + i)) := rfl
          rw [flw_e hl hi] at e0
          exact e0
        rw [er] at hn5
        exact hn5 K6 ⟨g2, g3⟩
      · intro again3 K5 hQ5
        unfold X4_unlikeRows_L43
        simp only
        rw [lr_102_0 h, lr_67_0 h, ld_68 h (by omega), hP.2.2.1 l hl, if_pos (nI_le (Nat.le_refl _) (by omega)), ly_bI, nI_1]
        exact hn4 K5 hQ5
    · intro again2 K4 hQ4
      unfold X4_unlikeRows_L30 X4_unlikeRows_j101
      simp only
      rw [lr_102_0 h, lg_67 h, hP.2.1, if_pos (nI_le (Nat.le_refl _) (by omega)), if_neg (nI_pos (by omega)), if_neg (show ¬ (13 : Int32) ≤ nI b from nI_ge (b := 13) (by omega) (by omega)), lr_102_1 h, ld_103 h (by omega), hQ4.1 b hb]
      exact ⟨K4, rfl⟩
    · rw [hQ.1 k hk]
      show _ = (if k = 0 then (1 : Int64) else 0) + sm (fun _ => 0) 16
      rw [show sm (fun _ => (0 : Int64)) 16 = 0 from by decide, Int64.add_zero]
end UNL
