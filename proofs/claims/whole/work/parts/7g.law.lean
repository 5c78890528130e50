/-! a law read by the one and by the other: words, rows -/
section LAR
variable {c w : Nat} {S : Nat → pmS} {I I1 I2 J J1 A B E O : Nat → Nat → Int32} {K K2 : Nat → Nat → Int64} {T : Nat → Nat} {L p g n N m t o : Nat} {s v x : Int32}
def PL (i _j : Nat) : Prop := i = 79 ∨ i = 80
def QL (i j : Nat) : Prop := (i = 108 ∧ (j = 8 ∨ j = 20)) ∨ (290 ≤ i ∧ i ≤ 449)
theorem PL_T (h : tB I T L) (ho : only PL I I1) : tB I1 T L := tB_o h ho (by unfold PL; omega) (fun k _ => by unfold PL; omega)
theorem QL_T (h : mB J T L) (ho : only QL J J1) : mB J1 T L := mB_o h ho (by unfold QL; omega) (fun k _ => by unfold QL; omega)
theorem PL_jk (h : jk I) (ho : only PL I I1) : jk I1 := jk_o h ho (fun i j hi => by unfold PL; omega)
/-- what was read of the law so far -/
def RLw (I J : Nat → Nat → Int32) (m t : Nat) : Prop := m ≤ 150 ∧ I 79 3 = nI m ∧ J 108 20 = nI m ∧ (∀ k, k < m → jl_p (I 80 k) (J (290 + k) 0) (J (290 + k) 1)) ∧ jl_h (fun k => J (290 + k) 0) m = some t
def apd (I : Nat → Nat → Int32) (m : Nat) (y : Int32) : Nat → Nat → Int32 := ly_u (ly_u I 80 m y) 79 3 (nI (m + 1))
def ntd (J : Nat → Nat → Int32) (m : Nat) (y z : Int32) : Nat → Nat → Int32 := ly_u (ly_u (ly_u J (290 + m) 0 y) (290 + m) 1 z) 108 20 (nI (m + 1))
theorem ap_C {y : Int32} (h : ly c S) (hm : m < 150) (e : I 79 3 = nI m) : X1_append 79 y (c, w, S, tx I p s v, K) = pm_oI 1 (c, w, S, tx (apd I m y) p s v, K) := by
  unfold X1_append X1_append_j30 apd
  rw [lg_79 h, tx_n (by omega), e, if_neg (show ¬ (150 : Int32) ≤ nI m from nI_ge (b := 150) hm (by omega)), lr_79_0 h, lg_79 h, tx_n (by omega), e, ls_80 h hm, tx_un (by omega), lg_79 h, tx_n (by omega), ly_uE, if_neg (by omega), e, lp_79 h, tx_un (by omega), nI_1]
theorem nt_M {y z : Int32} (h : ly c S) (hm : m < 150) (e : J 108 20 = nI m) : X9_notes 108 y z (c, w, S, mx J p 0 x, K2) = pm_oV (c, w, S, mx (ntd J m y z) p 0 x, K2) := by
  unfold X9_notes ntd
  have e1 : ly_u J (290 + m) 0 y 108 20 = nI m := by rw [ly_uE, if_neg (by omega)]; exact e
  have e2 : ly_u (ly_u J (290 + m) 0 y) (290 + m) 1 z 108 20 = nI m := by rw [ly_uE, if_neg (by omega)]; exact e1
  rw [lg_108 h, mx5, n00, lr_108_22 h, lg_108 h, mx_nj (by omega), e, lr_289 h (by omega), st_i (i := 0) 0 rfl, ls_290 h (by omega) (by omega), mx_un (by omega), lr_108_22 h, lg_108 h, mx_nj (by omega), e1, lr_289 h (by omega), st_i (i := 1) 1 rfl, ls_290 h (by omega) (by omega), mx_un (by omega), lg_108 h, mx_nj (by omega), e2, lp_108 h, mx_unj (by omega), nI_1]
theorem nt_F {y z : Int32} (h : ly c S) (hg : 1 ≤ g ∧ g ≤ 3) : X9_notes 108 y z (c, w, S, mx J p g x, K2) = pm_oV (c, w, S, mx J p g x, K2) := by
  unfold X9_notes
  rw [lg_108 h, mx5, nk0 hg]
theorem apd_o {y : Int32} (h : only PL I I1) : only PL I (apd I1 m y) := only_u (only_u h (by unfold PL; omega)) (by unfold PL; omega)
theorem ntd_o {y z : Int32} (hm : m < 150) (h : only QL J J1) : only QL J (ntd J1 m y z) := only_u (only_u (only_u h (by unfold QL; omega)) (by unfold QL; omega)) (by unfold QL; omega)
theorem ntd8 {y z : Int32} : ntd J m y z 108 8 = J 108 8 := by
  unfold ntd
  rw [ly_uE, if_neg (by omega), ly_uE, if_neg (by omega), ly_uE, if_neg (by omega)]
theorem jl_hs {f : Nat → Int32} {k u : Nat} (h : jl_h f k = some u) (hy : f k = nI 0 ∨ f k = nI 1) (hu : u < 22) : jl_h f (k + 1) = some (u + 1) := by
  simp only [jl_h, h]
  rw [if_pos hy, if_pos hu]
theorem jl_ho {f : Nat → Int32} {k u v : Nat} (h : jl_h f k = some u) (hv : 2 ≤ v) (hv8 : v ≤ 8) (hy : f k = nI v) (hu : 2 ≤ u) : jl_h f (k + 1) = some (u - 1) := by
  simp only [jl_h, h]
  rw [if_neg, if_pos hu]
  rw [hy]
  rintro (e | e)
  · have := (nI_eq (by omega) (by omega)).mp e; omega
  · have := (nI_eq (by omega) (by omega)).mp e; omega
theorem RLw_n {y y2 z : Int32} (h : RLw I J m t) (hm : m < 150) (hj : jl_p y y2 z) : (apd I m y) 79 3 = nI (m + 1) ∧ (ntd J m y2 z) 108 20 = nI (m + 1) ∧ (∀ k, k < m + 1 → jl_p ((apd I m y) 80 k) ((ntd J m y2 z) (290 + k) 0) ((ntd J m y2 z) (290 + k) 1)) ∧ jl_h (fun k => ntd J m y2 z (290 + k) 0) m = some t ∧ (fun k => ntd J m y2 z (290 + k) 0) m = y2 := by
  obtain ⟨h1, h2, h3, h4, h5⟩ := h
  have ea : ∀ k, k < m → apd I m y 80 k = I 80 k := fun k hk => by unfold apd; rw [ly_uE, if_neg (by omega), ly_uE, if_neg (by omega)]
  have eb : ∀ k j, k < m → ntd J m y2 z (290 + k) j = J (290 + k) j := fun k j hk => by unfold ntd; rw [ly_uE, if_neg (by omega), ly_uE, if_neg (by omega), ly_uE, if_neg (by omega)]
  have ec : apd I m y 80 m = y := by unfold apd; rw [ly_uE, if_neg (by omega), ly_uE, if_pos ⟨rfl, rfl⟩]
  have ed : ntd J m y2 z (290 + m) 0 = y2 := by unfold ntd; rw [ly_uE, if_neg (by omega), ly_uE, if_neg (by omega), ly_uE, if_pos ⟨rfl, rfl⟩]
  have ee : ntd J m y2 z (290 + m) 1 = z := by unfold ntd; rw [ly_uE, if_neg (by omega), ly_uE, if_pos ⟨rfl, rfl⟩]
  refine ⟨by unfold apd; rw [ly_uE, if_pos ⟨rfl, rfl⟩], by unfold ntd; rw [ly_uE, if_pos ⟨rfl, rfl⟩], fun k hk => ?_, ?_, ed⟩
  · rcases Nat.lt_or_ge k m with e | e
    · rw [ea k e, eb k 0 e, eb k 1 e]; exact h4 k e
    · have : k = m := by omega
      subst this
      rw [ec, ed, ee]; exact hj
  · rw [jl_h_eq (y := fun k => J (290 + k) 0) (fun k hk => eb k 0 hk)]; exact h5
theorem RLw_p {y y2 z : Int32} (h : RLw I J m t) (hm : m < 150) (hj : jl_p y y2 z) (hy : y2 = nI 0 ∨ y2 = nI 1) (ht : t < 22) : RLw (apd I m y) (ntd J m y2 z) (m + 1) (t + 1) := by
  obtain ⟨a1, a2, a3, a4, a5⟩ := RLw_n h hm hj
  have a6 : ntd J m y2 z (290 + m) 0 = y2 := a5
  have a7 : ntd J m y2 z (290 + m) 0 = nI 0 ∨ ntd J m y2 z (290 + m) 0 = nI 1 := by rw [a6]; exact hy
  exact ⟨by omega, a1, a2, a3, jl_hs a4 a7 ht⟩
theorem RLw_o {v : Nat} {z : Int32} (h : RLw I J m t) (hm : m < 150) (hv : 2 ≤ v) (hv8 : v ≤ 8) (ht : 2 ≤ t) : RLw (apd I m (-nI (6 + v))) (ntd J m (nI v) z) (m + 1) (t - 1) := by
  obtain ⟨a1, a2, a3, a4, a5⟩ := RLw_n (y := -nI (6 + v)) (y2 := nI v) (z := z) h hm (Or.inr (Or.inr ⟨v, hv, hv8, rfl, rfl⟩))
  exact ⟨by omega, a1, a2, a3, jl_ho a4 hv hv8 a5 ht⟩
/-- a word that is known -/
theorem nm_C {i : Nat} (h : ly c S) (hT : tB I T L) (hJ : jk I) (hp : p ≤ L) (hi : i < 7) (hW : tW T L p = sn (5 + i)) : X1_nameTaken 65 (c, w, S, tx I (tE iLt T L p) (nI p) v, K) = pm_oI (-nI (1 + i)) (c, w, S, tx I (tE iLt T L p) (nI p) v, K) := by
  have tk : ∀ k a, k < 19 → a = 3 + k → X7_took 65 a (c, w, S, tx I (tE iLt T L p) (nI p) v, K) = pm_oI (ly_b (decide (sn (5 + i) = sn k))) (c, w, S, tx I (tE iLt T L p) (nI p) v, K) := fun k a hk ha => by rw [tx_took h hT hJ hk ha hp, hW]
  have hii : i = 0 ∨ i = 1 ∨ i = 2 ∨ i = 3 ∨ i = 4 ∨ i = 5 ∨ i = 6 := by omega
  unfold X1_nameTaken X1_nameTaken_j98
  rw [lc_65 h, tk 5 8 (by omega) rfl, ly_cI]
  rcases hii with rfl | rfl | rfl | rfl | rfl | rfl | rfl
  · rw [show decide (sn (5 + 0) = sn 5) = true from rfl, ib1]; rfl
  · rw [show decide (sn (5 + 1) = sn 5) = false from rfl, ib0, lc_65 h, tk 6 9 (by omega) rfl, ly_cI, show decide (sn (5 + 1) = sn 6) = true from rfl, ib1]; rfl
  · rw [show decide (sn (5 + 2) = sn 5) = false from rfl, ib0, lc_65 h, tk 6 9 (by omega) rfl, ly_cI, show decide (sn (5 + 2) = sn 6) = false from rfl, ib0, lc_65 h, tk 7 10 (by omega) rfl, ly_cI, show decide (sn (5 + 2) = sn 7) = true from rfl, ib1]; rfl
  · rw [show decide (sn (5 + 3) = sn 5) = false from rfl, ib0, lc_65 h, tk 6 9 (by omega) rfl, ly_cI, show decide (sn (5 + 3) = sn 6) = false from rfl, ib0, lc_65 h, tk 7 10 (by omega) rfl, ly_cI, show decide (sn (5 + 3) = sn 7) = false from rfl, ib0, lc_65 h, tk 8 11 (by omega) rfl, ly_cI, show decide (sn (5 + 3) = sn 8) = true from rfl, ib1]; rfl
  · rw [show decide (sn (5 + 4) = sn 5) = false from rfl, ib0, lc_65 h, tk 6 9 (by omega) rfl, ly_cI, show decide (sn (5 + 4) = sn 6) = false from rfl, ib0, lc_65 h, tk 7 10 (by omega) rfl, ly_cI, show decide (sn (5 + 4) = sn 7) = false from rfl, ib0, lc_65 h, tk 8 11 (by omega) rfl, ly_cI, show decide (sn (5 + 4) = sn 8) = false from rfl, ib0, lc_65 h, tk 9 12 (by omega) rfl, ly_cI, show decide (sn (5 + 4) = sn 9) = true from rfl, ib1]; rfl
  · rw [show decide (sn (5 + 5) = sn 5) = false from rfl, ib0, lc_65 h, tk 6 9 (by omega) rfl, ly_cI, show decide (sn (5 + 5) = sn 6) = false from rfl, ib0, lc_65 h, tk 7 10 (by omega) rfl, ly_cI, show decide (sn (5 + 5) = sn 7) = false from rfl, ib0, lc_65 h, tk 8 11 (by omega) rfl, ly_cI, show decide (sn (5 + 5) = sn 8) = false from rfl, ib0, lc_65 h, tk 9 12 (by omega) rfl, ly_cI, show decide (sn (5 + 5) = sn 9) = false from rfl, ib0, lc_65 h, tk 10 13 (by omega) rfl, ly_cI, show decide (sn (5 + 5) = sn 10) = true from rfl, ib1]; rfl
  · rw [show decide (sn (5 + 6) = sn 5) = false from rfl, ib0, lc_65 h, tk 6 9 (by omega) rfl, ly_cI, show decide (sn (5 + 6) = sn 6) = false from rfl, ib0, lc_65 h, tk 7 10 (by omega) rfl, ly_cI, show decide (sn (5 + 6) = sn 7) = false from rfl, ib0, lc_65 h, tk 8 11 (by omega) rfl, ly_cI, show decide (sn (5 + 6) = sn 8) = false from rfl, ib0, lc_65 h, tk 9 12 (by omega) rfl, ly_cI, show decide (sn (5 + 6) = sn 9) = false from rfl, ib0, lc_65 h, tk 10 13 (by omega) rfl, ly_cI, show decide (sn (5 + 6) = sn 10) = false from rfl, ib0, lc_65 h, tk 11 14 (by omega) rfl, ly_cI, show decide (sn (5 + 6) = sn 11) = true from rfl, ib1]; rfl
theorem nm_0 (h : ly c S) (hT : tB I T L) (hJ : jk I) (hp : p ≤ L) (hW : ∀ i, i < 7 → ¬ tW T L p = sn (5 + i)) : X1_nameTaken 65 (c, w, S, tx I (tE iLt T L p) (nI p) v, K) = pm_oI 0 (c, w, S, tx I (tE iLt T L p) (nI p) v, K) := by
  have tk : ∀ k a, 5 ≤ k → k < 12 → a = 3 + k → X7_took 65 a (c, w, S, tx I (tE iLt T L p) (nI p) v, K) = pm_oI (ly_b false) (c, w, S, tx I (tE iLt T L p) (nI p) v, K) := fun k a h5 hk ha => by
    have := hW (k - 5) (by omega)
    rw [show 5 + (k - 5) = k by omega] at this
    rw [tx_took h hT hJ (by omega) ha hp, decide_eq_false this]
  unfold X1_nameTaken X1_nameTaken_j98
  rw [lc_65 h, tk 5 8 (by omega) (by omega) rfl, ly_cI, ib0, lc_65 h, tk 6 9 (by omega) (by omega) rfl, ly_cI, ib0, lc_65 h, tk 7 10 (by omega) (by omega) rfl, ly_cI, ib0, lc_65 h, tk 8 11 (by omega) (by omega) rfl, ly_cI, ib0, lc_65 h, tk 9 12 (by omega) (by omega) rfl, ly_cI, ib0, lc_65 h, tk 10 13 (by omega) (by omega) rfl, ly_cI, ib0, lc_65 h, tk 11 14 (by omega) (by omega) rfl, ly_cI, ib0]
theorem six_g {a1 a2 a3 a4 a5 a6 : Int32} {l : List Nat} (hs : (if a6 = 0 then (if a5 = 0 then (if a4 = 0 then (27 * (27 * a1 + a2) + a3) else 27 * (27 * (27 * a1 + a2) + a3) + a4) else 27 * (if a4 = 0 then (27 * (27 * a1 + a2) + a3) else 27 * (27 * (27 * a1 + a2) + a3) + a4) + a5) else 27 * (if a5 = 0 then (if a4 = 0 then (27 * (27 * a1 + a2) + a3) else 27 * (27 * (27 * a1 + a2) + a3) + a4) else 27 * (if a4 = 0 then (27 * (27 * a1 + a2) + a3) else 27 * (27 * (27 * a1 + a2) + a3) + a4) + a5) + a6) = sx l) (m : pmM) : X9_six a1 a2 a3 a4 a5 a6 m = pm_oI (sx l) m := by
  unfold X9_six X9_six_j29 X9_six_j49 X9_six_j69
  rw [ly_bI, ← hs]
  split <;> split <;> split <;> rfl
theorem tk_t {a1 a2 a3 a4 a5 a6 : Int32} {k : Nat} (h : ly c S) (hM : mB J T L) (hp : p ≤ L) (hs : tS T L p = p) (h6 : ∀ m, X9_six a1 a2 a3 a4 a5 a6 m = pm_oI (sx (sn k)) m) (hk : k < 19) (hW : tW T L p = sn k) : X9_takes 108 a1 a2 a3 a4 a5 a6 (c, w, S, mx J p 0 x, K2) = pm_oI 1 (c, w, S, mx J (tE iLt T L p) 0 x, K2) := by
  unfold X9_takes X9_takes_j24
  rw [lc_108 h, mx_isWord h hM hp h6 (sn_k hk), hs, hW, decide_eq_true rfl, ly_cI, ib1, lc_108 h, mx_skipWord h hM hp, ly_cV]
  rfl
theorem tk_f {a1 a2 a3 a4 a5 a6 : Int32} {k : Nat} (h : ly c S) (hM : mB J T L) (hp : p ≤ L) (hs : tS T L p = p) (h6 : ∀ m, X9_six a1 a2 a3 a4 a5 a6 m = pm_oI (sx (sn k)) m) (hk : k < 19) (hW : ¬ tW T L p = sn k) : X9_takes 108 a1 a2 a3 a4 a5 a6 (c, w, S, mx J p 0 x, K2) = pm_oI 0 (c, w, S, mx J p 0 x, K2) := by
  unfold X9_takes X9_takes_j24
  rw [lc_108 h, mx_isWord h hM hp h6 (sn_k hk), hs, decide_eq_false hW, ly_cI, ib0]
  rfl
theorem s6_5 : ∀ m, X9_six 23 15 18 4 19 0 m = pm_oI (sx (sn 5)) m := six_g (by decide)
theorem s6_6 : ∀ m, X9_six 19 20 18 21 3 11 m = pm_oI (sx (sn 6)) m := six_g (by decide)
theorem s6_7 : ∀ m, X9_six 6 9 18 19 20 0 m = pm_oI (sx (sn 7)) m := six_g (by decide)
theorem s6_8 : ∀ m, X9_six 12 9 14 5 0 0 m = pm_oI (sx (sn 8)) m := six_g (by decide)
theorem s6_9 : ∀ m, X9_six 12 5 6 20 0 0 m = pm_oI (sx (sn 9)) m := six_g (by decide)
theorem s6_10 : ∀ m, X9_six 9 14 11 0 0 0 m = pm_oI (sx (sn 10)) m := six_g (by decide)
theorem s6_11 : ∀ m, X9_six 3 5 12 12 0 0 m = pm_oI (sx (sn 11)) m := six_g (by decide)
theorem s6_3 : ∀ m, X9_six 12 5 1 19 20 0 m = pm_oI (sx (sn 3)) m := six_g (by decide)
theorem s6_4 : ∀ m, X9_six 13 15 19 20 0 0 m = pm_oI (sx (sn 4)) m := six_g (by decide)
theorem kn_M {i : Nat} (h : ly c S) (hM : mB J T L) (hp : p ≤ L) (hs : tS T L p = p) (hi : i < 7) (hW : tW T L p = sn (5 + i)) : X9_knownHere 108 (c, w, S, mx J p 0 x, K2) = pm_oI (nI i) (c, w, S, mx J (tE iLt T L p) 0 x, K2) := by
  have hne : ∀ j, j < 7 → j ≠ i → ¬ tW T L p = sn (5 + j) := fun j hj hji => by
    rw [hW]
    have : ∀ i, i < 7 → ∀ j, j < 7 → j ≠ i → ¬ sn (5 + i) = sn (5 + j) := by decide
    exact this i hi j hj hji
  have hii : i = 0 ∨ i = 1 ∨ i = 2 ∨ i = 3 ∨ i = 4 ∨ i = 5 ∨ i = 6 := by omega
  unfold X9_knownHere X9_knownHere_j134
  rw [lc_108 h]
  rcases hii with rfl | rfl | rfl | rfl | rfl | rfl | rfl
  · rw [tk_t h hM hp hs s6_5 (by omega) hW, ly_cI, i10]; rfl
  · rw [tk_f h hM hp hs s6_5 (by omega) (hne 0 (by omega) (by omega)), ly_cI, i00, lc_108 h, tk_t h hM hp hs s6_6 (by omega) hW, ly_cI, i10]; rfl
  · rw [tk_f h hM hp hs s6_5 (by omega) (hne 0 (by omega) (by omega)), ly_cI, i00, lc_108 h, tk_f h hM hp hs s6_6 (by omega) (hne 1 (by omega) (by omega)), ly_cI, i00, lc_108 h, tk_t h hM hp hs s6_7 (by omega) hW, ly_cI, i10]; rfl
  · rw [tk_f h hM hp hs s6_5 (by omega) (hne 0 (by omega) (by omega)), ly_cI, i00, lc_108 h, tk_f h hM hp hs s6_6 (by omega) (hne 1 (by omega) (by omega)), ly_cI, i00, lc_108 h, tk_f h hM hp hs s6_7 (by omega) (hne 2 (by omega) (by omega)), ly_cI, i00, lc_108 h, tk_t h hM hp hs s6_8 (by omega) hW, ly_cI, i10]; rfl
  · rw [tk_f h hM hp hs s6_5 (by omega) (hne 0 (by omega) (by omega)), ly_cI, i00, lc_108 h, tk_f h hM hp hs s6_6 (by omega) (hne 1 (by omega) (by omega)), ly_cI, i00, lc_108 h, tk_f h hM hp hs s6_7 (by omega) (hne 2 (by omega) (by omega)), ly_cI, i00, lc_108 h, tk_f h hM hp hs s6_8 (by omega) (hne 3 (by omega) (by omega)), ly_cI, i00, lc_108 h, tk_t h hM hp hs s6_9 (by omega) hW, ly_cI, i10]; rfl
  · rw [tk_f h hM hp hs s6_5 (by omega) (hne 0 (by omega) (by omega)), ly_cI, i00, lc_108 h, tk_f h hM hp hs s6_6 (by omega) (hne 1 (by omega) (by omega)), ly_cI, i00, lc_108 h, tk_f h hM hp hs s6_7 (by omega) (hne 2 (by omega) (by omega)), ly_cI, i00, lc_108 h, tk_f h hM hp hs s6_8 (by omega) (hne 3 (by omega) (by omega)), ly_cI, i00, lc_108 h, tk_f h hM hp hs s6_9 (by omega) (hne 4 (by omega) (by omega)), ly_cI, i00, lc_108 h, tk_t h hM hp hs s6_10 (by omega) hW, ly_cI, i10]; rfl
  · rw [tk_f h hM hp hs s6_5 (by omega) (hne 0 (by omega) (by omega)), ly_cI, i00, lc_108 h, tk_f h hM hp hs s6_6 (by omega) (hne 1 (by omega) (by omega)), ly_cI, i00, lc_108 h, tk_f h hM hp hs s6_7 (by omega) (hne 2 (by omega) (by omega)), ly_cI, i00, lc_108 h, tk_f h hM hp hs s6_8 (by omega) (hne 3 (by omega) (by omega)), ly_cI, i00, lc_108 h, tk_f h hM hp hs s6_9 (by omega) (hne 4 (by omega) (by omega)), ly_cI, i00, lc_108 h, tk_f h hM hp hs s6_10 (by omega) (hne 5 (by omega) (by omega)), ly_cI, i00, lc_108 h, tk_t h hM hp hs s6_11 (by omega) hW, ly_cI, i10]; rfl
theorem kn_0 (h : ly c S) (hM : mB J T L) (hp : p ≤ L) (hs : tS T L p = p) (hW : ∀ i, i < 7 → ¬ tW T L p = sn (5 + i)) : X9_knownHere 108 (c, w, S, mx J p 0 x, K2) = pm_oI (-1) (c, w, S, mx J p 0 x, K2) := by
  unfold X9_knownHere X9_knownHere_j134
  rw [lc_108 h, tk_f h hM hp hs s6_5 (by omega) (hW 0 (by omega)), ly_cI, i00, lc_108 h, tk_f h hM hp hs s6_6 (by omega) (hW 1 (by omega)), ly_cI, i00, lc_108 h, tk_f h hM hp hs s6_7 (by omega) (hW 2 (by omega)), ly_cI, i00, lc_108 h, tk_f h hM hp hs s6_8 (by omega) (hW 3 (by omega)), ly_cI, i00, lc_108 h, tk_f h hM hp hs s6_9 (by omega) (hW 4 (by omega)), ly_cI, i00, lc_108 h, tk_f h hM hp hs s6_10 (by omega) (hW 5 (by omega)), ly_cI, i00, lc_108 h, tk_f h hM hp hs s6_11 (by omega) (hW 6 (by omega)), ly_cI, i00]
end LAR
