/-! ways -/
section WAY
variable {c w : Nat} {S : Nat → pmS} {I I1 I2 J A D : Nat → Nat → Int32} {K K1 K2 : Nat → Nat → Int64} {n : Nat} {wd : Nat → Nat} {q : Nat → Nat → Nat} {r : Nat → Int32} {a : Nat} {se : Nat → Nat} {W G d : Nat} {s : Nat → Nat}
/-- the words of a page, in one row -/
def flw (wd : Nat → Nat) (q : Nat → Nat → Nat) : Nat → Nat → Nat
  | 0, _ => 0
  | n + 1, p => if p < rd_sum wd n then flw wd q n p else q n (p - rd_sum wd n)
theorem flw_e : ∀ {n l i : Nat}, l < n → i < wd l → flw wd q n (rd_sum wd l + i) = q l i
  | 0, l, i, h, _ => absurd h (Nat.not_lt_zero _)
  | n + 1, l, i, h, hi => by
    unfold flw
    rcases Nat.lt_or_ge l n with e | e
    · rw [if_pos (sum_at e hi)]; exact flw_e e hi
    · have : l = n := by omega
      subst this
      rw [if_neg (by omega), show rd_sum wd l + i - rd_sum wd l = i by omega]
theorem nI_dn (k : Nat) : nI (k + 1) + (-1) = nI k := (Int32.sub_eq_add_neg ..).symm.trans (nI_pred k)
def wst (se : Nat → Nat) (a y : Nat) (f : Nat → Int64) (k : Nat) : Int64 := if 1 ≤ k ∧ k ≤ a ∧ se (k - 1) = y then f k + f (k - 1) else f k
def wfl (se : Nat → Nat) (a : Nat) (Y : Nat → Nat) : Nat → Nat → Int64
  | 0 => fun k => if k = 0 then 1 else 0
  | p + 1 => wst se a (Y p) (wfl se a Y p)
/-- one word, the class -/
theorem wi_C {l i : Nat} {f : Nat → Int64} {Rp : pmR → Prop} {a6 a19 : Int32 × pmM → pmR} (h : ly c S) (hP : pg_C I n wd q) (hS : js I a se) (hl : l < n) (hi : i < wd l) (hK : ∀ k, k ≤ 12 → K 103 k = f k) (hR : ∀ K', (∀ k, k ≤ 12 → K' 103 k = wst se a (q l i) f k) → Rp (a19 (nI (i + 1), (c, w, S, I, K')))) : Rp (pm_lp pm_N (X4_waysTo_L38 a6 a19 102 83 (nI l) (nI i)) (nI a, (c, w, S, I, K))) := by
  have hW := hP.1
  have hn6 := hW.1
  have hw := hW.2.1 l hl
  have hq16 := hW.2.2.2 l i hl hi
  obtain ⟨ha12, hs1, hs2, hs3⟩ := hS
  refine ly_loop (fun t (K' : Nat → Nat → Int64) => ((nI (a - t), (c, w, S, I, K')) : Int32 × pmM)) a (fun t K' => ∀ k, k ≤ 12 → K' 103 k = if k ≤ a - t then f k else wst se a (q l i) f k) Rp ?_ ?_ pm_N 0 K (fun k hk => ?_) (by omega) (by rw [pm_NE]; omega)
  · intro again t K' ht hQ hn
    obtain ⟨u, hu⟩ : ∃ u, a - t = u + 1 := ⟨a - t - 1, by omega⟩
    have hu2 : a - (t + 1) = u := by omega
    rw [hu2] at hn
    unfold X4_waysTo_L38
    simp only
    rw [hu] at hQ ⊢
    have e1 : K' 103 (u + 1) = f (u + 1) := by rw [hQ _ (by omega), if_pos (by omega)]
    have e2 : K' 103 u = f u := by rw [hQ _ (by omega), if_pos (by omega)]
    have hse := (hs3 u (by omega)).2.2
    rw [if_neg (show ¬ nI (u + 1) ≤ 0 from (show ¬ nI (u + 1) ≤ nI 0 from nI_ge (by omega) (by omega))), lr_83_0 h, show nI (u + 1) - 1 = nI u from nI_pred u, ld_84 h (by omega), (hs3 u (by omega)).1, lr_102_0 h, lc_67 h, rd_wordAt h hP (by omega) (by omega), ly_cI, show rd_q n wd q l i = q l i from if_pos ⟨hl, hi⟩]
    by_cases hq : se u = q l i
    · rw [hq, if_pos rfl, lr_102_1 h, ld_103 h (by omega), lr_102_1 h, ld_103 h (by omega), ls_103 h (by omega), e1, e2]
      unfold X4_waysTo_j83
      rw [nI_dn, ly_bI]
      refine hn _ (fun k hk => ?_)
      rw [ly_vE]
      by_cases ek : k = u + 1
      · subst ek
        rw [if_pos ⟨rfl, rfl⟩, if_neg (by omega)]
        unfold wst
        rw [if_pos ⟨by omega, by omega, by rw [show u + 1 - 1 = u by omega]; exact hq⟩, show u + 1 - 1 = u by omega]
      · rw [if_neg (by omega), hQ k hk]
        by_cases e : k ≤ u
        · rw [if_pos (by omega), if_pos e]
        · rw [if_neg (by omega), if_neg e]
    · rw [if_neg (fun e => hq ((nI_eq (by omega) (by omega)).mp e))]
      unfold X4_waysTo_j83
      rw [nI_dn, ly_bI]
      refine hn _ (fun k hk => ?_)
      rw [hQ k hk]
      by_cases ek : k = u + 1
      · subst ek
        rw [if_pos (by omega), if_neg (by omega)]
        unfold wst
        rw [if_neg (fun e => hq (by have := e.2.2; rw [show u + 1 - 1 = u by omega] at this; exact this))]
      · by_cases e : k ≤ u
        · rw [if_pos (by omega), if_pos e]
        · rw [if_neg (by omega), if_neg e]
  · intro again K' hQ
    unfold X4_waysTo_L38
    simp only
    rw [Nat.sub_self] at hQ ⊢
    rw [if_pos (show nI 0 ≤ 0 from by decide), ly_bI, nI_1]
    refine hR K' (fun k hk => ?_)
    rw [hQ k hk]
    by_cases e : k ≤ 0
    · rw [if_pos e]; unfold wst; rw [if_neg (by omega)]
    · rw [if_neg e]
  · rw [hK k hk]
    by_cases e : k ≤ a - 0
    · rw [if_pos e]
    · rw [if_neg e]; unfold wst; rw [if_neg (by omega)]
theorem wa_C (h : ly c S) (hP : pg_C I n wd q) (hS : js I a se) (hK : ∀ k, k ≤ 12 → K 103 k = if k = 0 then 1 else 0) : ∃ K', pm_lp pm_N (X4_waysTo_L6 102 83) (0, (c, w, S, I, K)) = pm_oL (wfl se a (flw wd q n) (rd_sum wd n) a) (c, w, S, I, K') := by
  have hW := hP.1
  have hn6 := hW.1
  have ha12 := hS.1
  refine ly_loop (fun l (K' : Nat → Nat → Int64) => ((nI l, (c, w, S, I, K')) : Int32 × pmM)) n (fun l K' => ∀ k, k ≤ 12 → K' 103 k = wfl se a (flw wd q n) (rd_sum wd l) k) (fun R => ∃ K', R = pm_oL (wfl se a (flw wd q n) (rd_sum wd n) a) (c, w, S, I, K')) ?_ ?_ pm_N 0 K hK (by omega) (by rw [pm_NE]; omega)
  · intro again l K' hl hQ hn
    have hw := hW.2.1 l hl
    unfold X4_waysTo_L6
    simp only
    rw [lr_102_0 h, lg_67 h, hP.2.1, if_neg (nI_ge hl (by omega))]
    refine ly_loop (fun i (K' : Nat → Nat → Int64) => ((nI i, (c, w, S, I, K')) : Int32 × pmM)) (wd l) (fun i K' => ∀ k, k ≤ 12 → K' 103 k = wfl se a (flw wd q n) (rd_sum wd l + i) k) (fun R => ∃ K', R = pm_oL (wfl se a (flw wd q n) (rd_sum wd n) a) (c, w, S, I, K')) ?_ ?_ pm_N 0 K' hQ (by omega) (by rw [pm_NE]; omega)
    · intro again2 i K2 hi hQ2 hn2
      unfold X4_waysTo_L19
      simp only
      rw [lr_102_0 h, lr_67_0 h, ld_68 h (by omega), hP.2.2.1 l hl, if_neg (nI_ge hi (by omega)), lg_83 h, hS.2.1]
      refine wi_C (Rp := fun R => ∃ K', R = pm_oL (wfl se a (flw wd q n) (rd_sum wd n) a) (c, w, S, I, K')) h hP hS hl hi hQ2 (fun K3 hK3 => hn2 K3 (fun k hk => ?_))
      rw [hK3 k hk, show rd_sum wd l + (i + 1) = rd_sum wd l + i + 1 by omega]
      show _ = wst se a (flw wd q n (rd_sum wd l + i)) _ k
      rw [flw_e hl hi]
    · intro again2 K2 hQ2
      unfold X4_waysTo_L19
      simp only
      rw [lr_102_0 h, lr_67_0 h, ld_68 h (by omega), hP.2.2.1 l hl, if_pos (nI_le (Nat.le_refl _) (by omega)), ly_bI, nI_1]
      exact hn K2 hQ2
  · intro again K' hQ
    unfold X4_waysTo_L6
    simp only
    rw [lr_102_0 h, lg_67 h, hP.2.1, if_pos (nI_le (Nat.le_refl _) (by omega)), lr_102_1 h, lg_83 h, hS.2.1, ld_103 h (by omega), hQ a ha12]
    exact ⟨K', rfl⟩
theorem sw_C (h : ly c S) : ∃ K', X4_startWays 102 (c, w, S, I, K) = pm_oV (c, w, S, I, K') ∧ ∀ k, k ≤ 12 → K' 103 k = if k = 0 then 1 else 0 := by
  unfold X4_startWays
  refine ly_loop (fun i (K' : Nat → Nat → Int64) => ((nI i, (c, w, S, I, K')) : Int32 × pmM)) 13 (fun i K' => ∀ k, k < i → K' 103 k = 0) (fun R => ∃ K', R = pm_oV (c, w, S, I, K') ∧ ∀ k, k ≤ 12 → K' 103 k = if k = 0 then 1 else 0) ?_ ?_ pm_N 0 K (fun k hk => by omega) (by omega) (by rw [pm_NE]; omega)
  · intro again i K' hi hQ hn
    unfold X4_startWays_L2
    simp only
    rw [if_neg (show ¬ (13 : Int32) ≤ nI i from nI_ge (b := 13) hi (by omega)), lr_102_1 h, ls_103 h (by omega), ly_bI, nI_1]
    refine hn _ (fun k hk => ?_)
    rw [ly_vE]
    by_cases e : k = i
    · rw [if_pos ⟨rfl, e⟩]
    · rw [if_neg (by omega)]; exact hQ k (by omega)
  · intro again K' hQ
    unfold X4_startWays_L2
    simp only
    rw [if_pos (show (13 : Int32) ≤ nI 13 from by decide), lr_102_1 h, show pm_stL 103 0 1 (c, w, S, I, K') = pm_stL 103 (nI 0) 1 (c, w, S, I, K') from rfl, ls_103 h (by omega)]
    refine ⟨_, rfl, fun k hk => ?_⟩
    rw [ly_vE]
    by_cases e : k = 0
    · rw [if_pos ⟨rfl, e⟩, if_pos e]
    · rw [if_neg (by omega), if_neg e]; exact hQ k (by omega)
/-- one word, the model -/
theorem wi_M {N p : Nat} {f : Nat → Int64} {Rp : pmR → Prop} {a41 : Int32 × pmM → pmR} {Y : Nat → Nat} (h : ly c S) (hN : N ≤ 48) (hY : ∀ p, p < N → D 558 p = nI (Y p) ∧ Y p < 16) (hS : a ≤ 12 ∧ D 108 33 = nI a ∧ ∀ k, k < a → D 452 k = nI (se k) ∧ se k < 16) (hp : p < N) (hK : (∀ k, k ≤ 12 → K 565 k = f k) ∧ K 594 0 = K2 594 0) (hR : ∀ K', ((∀ k, k ≤ 12 → K' 565 k = wst se a (Y p) f k) ∧ K' 594 0 = K2 594 0) → Rp (a41 (nI (p + 1), (c, w, S, D, K')))) : Rp (pm_lp pm_N (X9_ways_L51 a41 108 (nI N) (nI p)) (nI a, (c, w, S, D, K))) := by
  obtain ⟨ha12, h33, hs3⟩ := hS
  obtain ⟨hy1, hy2⟩ := hY p hp
  refine ly_loop (fun t (K' : Nat → Nat → Int64) => ((nI (a - t), (c, w, S, D, K')) : Int32 × pmM)) a (fun t K' => (∀ k, k ≤ 12 → K' 565 k = if k ≤ a - t then f k else wst se a (Y p) f k) ∧ K' 594 0 = K2 594 0) Rp ?_ ?_ pm_N 0 K ⟨fun k hk => ?_, hK.2⟩ (by omega) (by rw [pm_NE]; omega)
  · intro again t K' ht hQ hn
    obtain ⟨hQ, hQ9⟩ := hQ
    obtain ⟨u, hu⟩ : ∃ u, a - t = u + 1 := ⟨a - t - 1, by omega⟩
    have hu2 : a - (t + 1) = u := by omega
    rw [hu2] at hn
    unfold X9_ways_L51
    simp only
    rw [hu] at hQ ⊢
    have e1 : K' 565 (u + 1) = f (u + 1) := by rw [hQ _ (by omega), if_pos (by omega)]
    have e2 : K' 565 u = f u := by rw [hQ _ (by omega), if_pos (by omega)]
    have hse := (hs3 u (by omega)).2
    have fin : ∀ z : Int64, (z = if se u = Y p then f u else 0) → Rp (X9_ways_j91 a41 again 108 (nI N) (nI p) (nI (u + 1)) z (f (u + 1)) (nI (u + 1)) 565 (c, w, S, D, K')) := fun z hz => by
      unfold X9_ways_j91
      rw [ls_565 h (by omega), nI_dn, ly_bI]
      refine hn _ ⟨fun k hk => ?_, by rw [ly_vE, if_neg (by omega)]; exact hQ9⟩
      rw [ly_vE]
      by_cases ek : k = u + 1
      · subst ek
        rw [if_pos ⟨rfl, rfl⟩, if_neg (by omega), hz]
        unfold wst
        rw [show u + 1 - 1 = u by omega]
        by_cases hq : se u = Y p
        · rw [if_pos hq, if_pos ⟨by omega, by omega, hq⟩]
        · rw [if_neg hq, if_neg (fun e => hq e.2.2)]; exact Int64.add_zero _
      · rw [if_neg (by omega), hQ k hk]
        by_cases e : k ≤ u
        · rw [if_pos (by omega), if_pos e]
        · rw [if_neg (by omega), if_neg e]
    rw [if_neg (show ¬ nI (u + 1) ≤ 0 from (show ¬ nI (u + 1) ≤ nI 0 from nI_ge (by omega) (by omega))), lr_108_47 h, ld_565 h (by omega), e1, lr_108_25 h, show nI (u + 1) - 1 = nI u from nI_pred u, ld_452 h (by omega), (hs3 u (by omega)).1, lr_108_40 h, ld_558 h (by omega), hy1]
    by_cases hq : se u = Y p
    · rw [if_pos (by rw [hq]), lr_108_47 h, ld_565 h (by omega), e2]
      exact fin _ (by rw [if_pos hq])
    · rw [if_neg (fun e => hq ((nI_eq (by omega) (by omega)).mp e))]
      exact fin _ (by rw [if_neg hq])
  · intro again K' hQ
    obtain ⟨hQ, hQ9⟩ := hQ
    unfold X9_ways_L51
    simp only
    rw [Nat.sub_self] at hQ ⊢
    rw [if_pos (show nI 0 ≤ 0 from by decide), ly_bI, nI_1]
    refine hR K' ⟨fun k hk => ?_, hQ9⟩
    rw [hQ k hk]
    by_cases e : k ≤ 0
    · rw [if_pos e]; unfold wst; rw [if_neg (by omega)]
    · rw [if_neg e]
  · rw [hK.1 k hk]
    by_cases e : k ≤ a - 0
    · rw [if_pos e]
    · rw [if_neg e]; unfold wst; rw [if_neg (by omega)]
theorem wa_M {N : Nat} {Y : Nat → Nat} (h : ly c S) (hN : N ≤ 48) (hY : ∀ p, p < N → D 558 p = nI (Y p) ∧ Y p < 16) (hS : a ≤ 12 ∧ D 108 33 = nI a ∧ ∀ k, k < a → D 452 k = nI (se k) ∧ se k < 16) (hK : (∀ k, k ≤ 12 → K 565 k = if k = 0 then 1 else 0) ∧ K 594 0 = K2 594 0) : ∃ K', pm_lp pm_N (X9_ways_L41 108 (nI N)) (0, (c, w, S, D, K)) = pm_oL (wfl se a Y N a) (c, w, S, D, K') ∧ K' 594 0 = K2 594 0 := by
  refine ly_loop (fun p (K' : Nat → Nat → Int64) => ((nI p, (c, w, S, D, K')) : Int32 × pmM)) N (fun p K' => (∀ k, k ≤ 12 → K' 565 k = wfl se a Y p k) ∧ K' 594 0 = K2 594 0) (fun R => ∃ K', R = pm_oL (wfl se a Y N a) (c, w, S, D, K') ∧ K' 594 0 = K2 594 0) ?_ ?_ pm_N 0 K hK (by omega) (by rw [pm_NE]; omega)
  · intro again p K' hp hQ hn
    unfold X9_ways_L41
    simp only
    rw [if_neg (nI_ge hp (by omega)), lg_108 h, hS.2.1]
    exact wi_M (K2 := K2) (Rp := fun R => ∃ K', R = pm_oL (wfl se a Y N a) (c, w, S, D, K') ∧ K' 594 0 = K2 594 0) h hN hY hS hp hQ (fun K3 hK3 => hn K3 hK3)
  · intro again K' hQ
    unfold X9_ways_L41
    simp only
    have := hS.1
    rw [if_pos (nI_le (Nat.le_refl _) (by omega)), lr_108_47 h, lg_108 h, hS.2.1, ld_565 h (by omega), hQ.1 a (by omega)]
    exact ⟨K', rfl, hQ.2⟩
theorem sw_M {x : Int32} {R : pmR → Prop} (h : ly c S) (hR : ∀ K', (∀ k, k ≤ 12 → K' 565 k = if k = 0 then 1 else 0) ∧ K' 594 0 = K 594 0 → R (pm_lp pm_N (X9_ways_L41 108 x) (0, (c, w, S, D, K')))) : R (pm_lp pm_N (X9_ways_L12 108 x) (0, (c, w, S, D, K))) := by
  refine ly_loop (fun i (K' : Nat → Nat → Int64) => ((nI i, (c, w, S, D, K')) : Int32 × pmM)) 13 (fun i K' => (∀ k, k < i → K' 565 k = if k = 0 then 1 else 0) ∧ K' 594 0 = K 594 0) R ?_ ?_ pm_N 0 K ⟨fun k hk => by omega, rfl⟩ (by omega) (by rw [pm_NE]; omega)
  · intro again i K' hi hQ hn
    have fin : ∀ z : Int64, (z = if i = 0 then 1 else 0) → R (X9_ways_j32 again 108 x (nI i) z (nI i) 565 (c, w, S, D, K')) := fun z hz => by
      unfold X9_ways_j32
      rw [ls_565 h (by omega), ly_bI, nI_1]
      refine hn _ ⟨fun k hk => ?_, by rw [ly_vE, if_neg (by omega)]; exact hQ.2⟩
      rw [ly_vE]
      by_cases e : k = i
      · rw [if_pos ⟨rfl, e⟩, hz, e]
      · rw [if_neg (by omega)]; exact hQ.1 k (by omega)
    unfold X9_ways_L12
    simp only
    rw [if_neg (show ¬ (12 : Int32) < nI i from Int32.not_lt.mpr (nI_le (b := 12) (by omega) (by omega))), lr_108_47 h]
    by_cases e : i = 0
    · subst e
      rw [n00]
      exact fin _ rfl
    · rw [if_neg (show ¬ nI i = 0 from fun e2 => e ((nI_eq (b := 0) (by omega) (by omega)).mp e2))]
      exact fin _ (by rw [if_neg e])
  · intro again K' hQ
    unfold X9_ways_L12
    simp only
    rw [if_pos (show (12 : Int32) < nI 13 from by decide)]
    exact hR K' ⟨fun k hk => hQ.1 k (by omega), hQ.2⟩
theorem ca_ways (h : ly c S) (hJ : JJ I n wd q r a se W G) : ag isL (I 0) c w S (fun _ => 0) (X8_ways 64 (c, w, S, I, K)) (X9_ways 108) := by
  obtain ⟨hPC, hPM, hDC, hDM, hr, hT, hS, hH, hc, hk, hL⟩ := id hJ
  have hW := hPC.1
  have hn6 := hW.1
  have hsm := sum_48 hW (Nat.le_refl n)
  obtain ⟨K3, s1, s2⟩ := sw_C (w := w) (I := I) (K := K) h
  obtain ⟨K4, t1⟩ := wa_C (w := w) h hPC hS s2
  refine ag_ro (v := .long (wfl se a (flw wd q n) (rd_sum wd n) a)) (I1 := I) (K1 := K4) h hJ ⟨_, rfl⟩ ?_ same_r (fun hJ1 K2 => ?_)
  · unfold X8_ways X4_waysTo
    rw [lr_64_11 h, lr_64_5 h, lc_102 h, lc_102 h, s1, ly_cV, t1, ly_cL]
  · obtain ⟨-, hPM1, -, hDM1, -, -, hS1, -, -, -, -⟩ := JJ_same hJ (s0 (I := I))
    obtain ⟨D, d1, d2, d3⟩ := lz_M (w := w) (K := K2) h hPM1 hDM1 hr
    obtain ⟨S1, S2, S3, S4⟩ := hS1
    have key : ∃ K', pm_lp pm_N (X9_ways_L12 108 (nI (rd_sum wd n))) (0, (c, w, S, D, K2)) = pm_oL (wfl se a (flw wd q n) (rd_sum wd n) a) (c, w, S, D, K') ∧ K' 594 0 = K2 594 0 := by
      refine sw_M (R := fun R => ∃ K', R = pm_oL (wfl se a (flw wd q n) (rd_sum wd n) a) (c, w, S, D, K') ∧ K' 594 0 = K2 594 0) h (fun K' hK' => ?_)
      exact wa_M h (by omega) (fun p hp => by
        obtain ⟨l, i, hl, hi, rfl⟩ := fl_ex hp
        have := hW.2.2.2 l i hl hi
        rw [flw_e hl hi]; exact ⟨(d3 l hl i hi).1, this⟩) ⟨S1, by rw [d2 108 33 (by unfold PZ; omega)]; exact S3, fun k hk => ⟨by rw [d2 452 k (by unfold PZ; omega)]; exact (S4 k hk).2.1, (S4 k hk).2.2⟩⟩ hK'
    obtain ⟨K5, k1, k2⟩ := key
    refine ⟨D, K5, ?_, by rw [d2 108 0 (by unfold PZ; omega)]; exact z0', fun i j hn => ((PZ_same d2) i j hn).trans (s0 i j hn), k2⟩
    unfold X9_ways
    rw [lp_108 h, lc_108 h, d1, ly_cI, k1]
end WAY
