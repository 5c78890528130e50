/-! a work read by the one and by the other -/
section WKR
variable {c w : Nat} {S : Nat → pmS} {I I1 I2 J J1 A B E I0 J0 : Nat → Nat → Int32} {K K2 : Nat → Nat → Int64} {T : Nat → Nat} {L p g n N m o d : Nat} {s v x : Int32} {rsC : Nat → Nat → Int32 → pmM → pmR} {rsM : Nat → pmM → pmR} {P2 Q2 : Nat → Nat → Prop} {G2 : (Nat → Nat → Int32) → (Nat → Nat → Int32) → Nat → Prop}
theorem s6_12 : ∀ m, X9_six 19 20 18 9 11 5 m = pm_oI (sx (sn 12)) m := six_g (by decide)
theorem s6_13 : ∀ m, X9_six 18 21 14 0 0 0 m = pm_oI (sx (sn 13)) m := six_g (by decide)
theorem s6_14 : ∀ m, X9_six 2 5 7 9 14 0 m = pm_oI (sx (sn 14)) m := six_g (by decide)
theorem s6_15 : ∀ m, X9_six 6 9 12 12 0 0 m = pm_oI (sx (sn 15)) m := six_g (by decide)
theorem s6_16 : ∀ m, X9_six 23 9 16 5 0 0 m = pm_oI (sx (sn 16)) m := six_g (by decide)
theorem s6_17 : ∀ m, X9_six 19 5 20 0 0 0 m = pm_oI (sx (sn 17)) m := six_g (by decide)
theorem s6_18 : ∀ m, X9_six 1 7 1 9 14 0 m = pm_oI (sx (sn 18)) m := six_g (by decide)
theorem kt_C {i : Nat} (h : ly c S) (hT : tB I T L) (hJ : jk I) (hp : p ≤ L) (hi : i < 7) (hW : tW T L p = sn (12 + i)) : X6_kindTaken 65 (c, w, S, tx I (tE iLt T L p) (nI p) v, K) = pm_oI (nI i) (c, w, S, tx I (tE iLt T L p) (nI p) v, K) := by
  have tk : ∀ k a, k < 19 → a = 3 + k → X7_took 65 a (c, w, S, tx I (tE iLt T L p) (nI p) v, K) = pm_oI (ly_b (decide (sn (12 + i) = sn k))) (c, w, S, tx I (tE iLt T L p) (nI p) v, K) := fun k a hk ha => by rw [tx_took h hT hJ hk ha hp, hW]
  have hii : i = 0 ∨ i = 1 ∨ i = 2 ∨ i = 3 ∨ i = 4 ∨ i = 5 ∨ i = 6 := by omega
  unfold X6_kindTaken X6_kindTaken_j93
  rcases hii with rfl | rfl | rfl | rfl | rfl | rfl | rfl
  · rw [lc_65 h, tk 12 15 (by omega) rfl, ly_cI, show decide (sn (12 + 0) = sn 12) = true from rfl, ib1]; rfl
  · rw [lc_65 h, tk 12 15 (by omega) rfl, ly_cI, show decide (sn (12 + 1) = sn 12) = false from rfl, ib0, lc_65 h, tk 13 16 (by omega) rfl, ly_cI, show decide (sn (12 + 1) = sn 13) = true from rfl, ib1]; rfl
  · rw [lc_65 h, tk 12 15 (by omega) rfl, ly_cI, show decide (sn (12 + 2) = sn 12) = false from rfl, ib0, lc_65 h, tk 13 16 (by omega) rfl, ly_cI, show decide (sn (12 + 2) = sn 13) = false from rfl, ib0, lc_65 h, tk 14 17 (by omega) rfl, ly_cI, show decide (sn (12 + 2) = sn 14) = true from rfl, ib1]; rfl
  · rw [lc_65 h, tk 12 15 (by omega) rfl, ly_cI, show decide (sn (12 + 3) = sn 12) = false from rfl, ib0, lc_65 h, tk 13 16 (by omega) rfl, ly_cI, show decide (sn (12 + 3) = sn 13) = false from rfl, ib0, lc_65 h, tk 14 17 (by omega) rfl, ly_cI, show decide (sn (12 + 3) = sn 14) = false from rfl, ib0, lc_65 h, tk 15 18 (by omega) rfl, ly_cI, show decide (sn (12 + 3) = sn 15) = true from rfl, ib1]; rfl
  · rw [lc_65 h, tk 12 15 (by omega) rfl, ly_cI, show decide (sn (12 + 4) = sn 12) = false from rfl, ib0, lc_65 h, tk 13 16 (by omega) rfl, ly_cI, show decide (sn (12 + 4) = sn 13) = false from rfl, ib0, lc_65 h, tk 14 17 (by omega) rfl, ly_cI, show decide (sn (12 + 4) = sn 14) = false from rfl, ib0, lc_65 h, tk 15 18 (by omega) rfl, ly_cI, show decide (sn (12 + 4) = sn 15) = false from rfl, ib0, lc_65 h, tk 16 19 (by omega) rfl, ly_cI, show decide (sn (12 + 4) = sn 16) = true from rfl, ib1]; rfl
  · rw [lc_65 h, tk 12 15 (by omega) rfl, ly_cI, show decide (sn (12 + 5) = sn 12) = false from rfl, ib0, lc_65 h, tk 13 16 (by omega) rfl, ly_cI, show decide (sn (12 + 5) = sn 13) = false from rfl, ib0, lc_65 h, tk 14 17 (by omega) rfl, ly_cI, show decide (sn (12 + 5) = sn 14) = false from rfl, ib0, lc_65 h, tk 15 18 (by omega) rfl, ly_cI, show decide (sn (12 + 5) = sn 15) = false from rfl, ib0, lc_65 h, tk 16 19 (by omega) rfl, ly_cI, show decide (sn (12 + 5) = sn 16) = false from rfl, ib0, lc_65 h, tk 17 20 (by omega) rfl, ly_cI, show decide (sn (12 + 5) = sn 17) = true from rfl, ib1]; rfl
  · rw [lc_65 h, tk 12 15 (by omega) rfl, ly_cI, show decide (sn (12 + 6) = sn 12) = false from rfl, ib0, lc_65 h, tk 13 16 (by omega) rfl, ly_cI, show decide (sn (12 + 6) = sn 13) = false from rfl, ib0, lc_65 h, tk 14 17 (by omega) rfl, ly_cI, show decide (sn (12 + 6) = sn 14) = false from rfl, ib0, lc_65 h, tk 15 18 (by omega) rfl, ly_cI, show decide (sn (12 + 6) = sn 15) = false from rfl, ib0, lc_65 h, tk 16 19 (by omega) rfl, ly_cI, show decide (sn (12 + 6) = sn 16) = false from rfl, ib0, lc_65 h, tk 17 20 (by omega) rfl, ly_cI, show decide (sn (12 + 6) = sn 17) = false from rfl, ib0, lc_65 h, tk 18 21 (by omega) rfl, ly_cI, show decide (sn (12 + 6) = sn 18) = true from rfl, ib1]; rfl
theorem kt_0 (h : ly c S) (hT : tB I T L) (hJ : jk I) (hp : p ≤ L) (hW : ∀ i, i < 7 → ¬ tW T L p = sn (12 + i)) : X6_kindTaken 65 (c, w, S, tx I (tE iLt T L p) (nI p) v, K) = pm_oI (-1) (c, w, S, tx I (tE iLt T L p) (nI p) v, K) := by
  have tk : ∀ k a, 12 ≤ k → k < 19 → a = 3 + k → X7_took 65 a (c, w, S, tx I (tE iLt T L p) (nI p) v, K) = pm_oI (ly_b false) (c, w, S, tx I (tE iLt T L p) (nI p) v, K) := fun k a h5 hk ha => by
    have := hW (k - 12) (by omega)
    rw [show 12 + (k - 12) = k by omega] at this
    rw [tx_took h hT hJ (by omega) ha hp, decide_eq_false this]
  unfold X6_kindTaken X6_kindTaken_j93
  rw [lc_65 h, tk 12 15 (by omega) (by omega) rfl, ly_cI, ib0, lc_65 h, tk 13 16 (by omega) (by omega) rfl, ly_cI, ib0, lc_65 h, tk 14 17 (by omega) (by omega) rfl, ly_cI, ib0, lc_65 h, tk 15 18 (by omega) (by omega) rfl, ly_cI, ib0, lc_65 h, tk 16 19 (by omega) (by omega) rfl, ly_cI, ib0, lc_65 h, tk 17 20 (by omega) (by omega) rfl, ly_cI, ib0, lc_65 h, tk 18 21 (by omega) (by omega) rfl, ly_cI, ib0]
theorem sh_M {i : Nat} (h : ly c S) (hM : mB J T L) (hp : p ≤ L) (hs : tS T L p = p) (hi : i < 7) (hW : tW T L p = sn (12 + i)) : X9_stepHere 108 (c, w, S, mx J p 0 x, K2) = pm_oI (nI i) (c, w, S, mx J p 0 x, K2) := by
  have tk : ∀ k a1 a2 a3 a4 a5 a6, k < 19 → (∀ m, X9_six a1 a2 a3 a4 a5 a6 m = pm_oI (sx (sn k)) m) → X9_isWord 108 a1 a2 a3 a4 a5 a6 (c, w, S, mx J p 0 x, K2) = pm_oI (ly_b (decide (sn (12 + i) = sn k))) (c, w, S, mx J p 0 x, K2) := fun k a1 a2 a3 a4 a5 a6 hk h6 => by rw [mx_isWord h hM hp h6 (sn_k hk), hs, hW]
  have hii : i = 0 ∨ i = 1 ∨ i = 2 ∨ i = 3 ∨ i = 4 ∨ i = 5 ∨ i = 6 := by omega
  unfold X9_stepHere X9_stepHere_j132
  rcases hii with rfl | rfl | rfl | rfl | rfl | rfl | rfl
  · rw [lc_108 h, tk 12 19 20 18 9 11 5 (by omega) s6_12, ly_cI, show decide (sn (12 + 0) = sn 12) = true from rfl, ib1]; rfl
  · rw [lc_108 h, tk 12 19 20 18 9 11 5 (by omega) s6_12, ly_cI, show decide (sn (12 + 1) = sn 12) = false from rfl, ib0, lc_108 h, tk 13 18 21 14 0 0 0 (by omega) s6_13, ly_cI, show decide (sn (12 + 1) = sn 13) = true from rfl, ib1]; rfl
  · rw [lc_108 h, tk 12 19 20 18 9 11 5 (by omega) s6_12, ly_cI, show decide (sn (12 + 2) = sn 12) = false from rfl, ib0, lc_108 h, tk 13 18 21 14 0 0 0 (by omega) s6_13, ly_cI, show decide (sn (12 + 2) = sn 13) = false from rfl, ib0, lc_108 h, tk 14 2 5 7 9 14 0 (by omega) s6_14, ly_cI, show decide (sn (12 + 2) = sn 14) = true from rfl, ib1]; rfl
  · rw [lc_108 h, tk 12 19 20 18 9 11 5 (by omega) s6_12, ly_cI, show decide (sn (12 + 3) = sn 12) = false from rfl, ib0, lc_108 h, tk 13 18 21 14 0 0 0 (by omega) s6_13, ly_cI, show decide (sn (12 + 3) = sn 13) = false from rfl, ib0, lc_108 h, tk 14 2 5 7 9 14 0 (by omega) s6_14, ly_cI, show decide (sn (12 + 3) = sn 14) = false from rfl, ib0, lc_108 h, tk 15 6 9 12 12 0 0 (by omega) s6_15, ly_cI, show decide (sn (12 + 3) = sn 15) = true from rfl, ib1]; rfl
  · rw [lc_108 h, tk 12 19 20 18 9 11 5 (by omega) s6_12, ly_cI, show decide (sn (12 + 4) = sn 12) = false from rfl, ib0, lc_108 h, tk 13 18 21 14 0 0 0 (by omega) s6_13, ly_cI, show decide (sn (12 + 4) = sn 13) = false from rfl, ib0, lc_108 h, tk 14 2 5 7 9 14 0 (by omega) s6_14, ly_cI, show decide (sn (12 + 4) = sn 14) = false from rfl, ib0, lc_108 h, tk 15 6 9 12 12 0 0 (by omega) s6_15, ly_cI, show decide (sn (12 + 4) = sn 15) = false from rfl, ib0, lc_108 h, tk 16 23 9 16 5 0 0 (by omega) s6_16, ly_cI, show decide (sn (12 + 4) = sn 16) = true from rfl, ib1]; rfl
  · rw [lc_108 h, tk 12 19 20 18 9 11 5 (by omega) s6_12, ly_cI, show decide (sn (12 + 5) = sn 12) = false from rfl, ib0, lc_108 h, tk 13 18 21 14 0 0 0 (by omega) s6_13, ly_cI, show decide (sn (12 + 5) = sn 13) = false from rfl, ib0, lc_108 h, tk 14 2 5 7 9 14 0 (by omega) s6_14, ly_cI, show decide (sn (12 + 5) = sn 14) = false from rfl, ib0, lc_108 h, tk 15 6 9 12 12 0 0 (by omega) s6_15, ly_cI, show decide (sn (12 + 5) = sn 15) = false from rfl, ib0, lc_108 h, tk 16 23 9 16 5 0 0 (by omega) s6_16, ly_cI, show decide (sn (12 + 5) = sn 16) = false from rfl, ib0, lc_108 h, tk 17 19 5 20 0 0 0 (by omega) s6_17, ly_cI, show decide (sn (12 + 5) = sn 17) = true from rfl, ib1]; rfl
  · rw [lc_108 h, tk 12 19 20 18 9 11 5 (by omega) s6_12, ly_cI, show decide (sn (12 + 6) = sn 12) = false from rfl, ib0, lc_108 h, tk 13 18 21 14 0 0 0 (by omega) s6_13, ly_cI, show decide (sn (12 + 6) = sn 13) = false from rfl, ib0, lc_108 h, tk 14 2 5 7 9 14 0 (by omega) s6_14, ly_cI, show decide (sn (12 + 6) = sn 14) = false from rfl, ib0, lc_108 h, tk 15 6 9 12 12 0 0 (by omega) s6_15, ly_cI, show decide (sn (12 + 6) = sn 15) = false from rfl, ib0, lc_108 h, tk 16 23 9 16 5 0 0 (by omega) s6_16, ly_cI, show decide (sn (12 + 6) = sn 16) = false from rfl, ib0, lc_108 h, tk 17 19 5 20 0 0 0 (by omega) s6_17, ly_cI, show decide (sn (12 + 6) = sn 17) = false from rfl, ib0, lc_108 h, tk 18 1 7 1 9 14 0 (by omega) s6_18, ly_cI, show decide (sn (12 + 6) = sn 18) = true from rfl, ib1]; rfl
theorem sh_0 (h : ly c S) (hM : mB J T L) (hp : p ≤ L) (hs : tS T L p = p) (hW : ∀ i, i < 7 → ¬ tW T L p = sn (12 + i)) : X9_stepHere 108 (c, w, S, mx J p 0 x, K2) = pm_oI (-1) (c, w, S, mx J p 0 x, K2) := by
  have tk : ∀ k a1 a2 a3 a4 a5 a6, 12 ≤ k → k < 19 → (∀ m, X9_six a1 a2 a3 a4 a5 a6 m = pm_oI (sx (sn k)) m) → X9_isWord 108 a1 a2 a3 a4 a5 a6 (c, w, S, mx J p 0 x, K2) = pm_oI (ly_b false) (c, w, S, mx J p 0 x, K2) := fun k a1 a2 a3 a4 a5 a6 h5 hk h6 => by
    have := hW (k - 12) (by omega)
    rw [show 12 + (k - 12) = k by omega] at this
    rw [mx_isWord h hM hp h6 (sn_k hk), hs, decide_eq_false this]
  unfold X9_stepHere X9_stepHere_j132
  rw [lc_108 h, tk 12 19 20 18 9 11 5 (by omega) (by omega) s6_12, ly_cI, ib0, lc_108 h, tk 13 18 21 14 0 0 0 (by omega) (by omega) s6_13, ly_cI, ib0, lc_108 h, tk 14 2 5 7 9 14 0 (by omega) (by omega) s6_14, ly_cI, ib0, lc_108 h, tk 15 6 9 12 12 0 0 (by omega) (by omega) s6_15, ly_cI, ib0, lc_108 h, tk 16 23 9 16 5 0 0 (by omega) (by omega) s6_16, ly_cI, ib0, lc_108 h, tk 17 19 5 20 0 0 0 (by omega) (by omega) s6_17, ly_cI, ib0, lc_108 h, tk 18 1 7 1 9 14 0 (by omega) (by omega) s6_18, ly_cI, ib0]
theorem tW_len {i : Nat} (hi : i < 7) (hp : p ≤ L) (hW : tW T L p = sn (12 + i)) : tE iLt T L p = p + (if i = 0 then 6 else if i = 1 then 3 else if i = 2 then 5 else if i = 3 then 4 else if i = 4 then 4 else if i = 5 then 3 else 5) := by
  have h1 : tE iLt T L p - p = (sn (12 + i)).length := by rw [← hW]; unfold tW; rw [tWn_len]
  have h2 := tE_ge (f := iLt) (T := T) hp
  have h3 : ∀ i, i < 7 → (sn (12 + i)).length = (if i = 0 then 6 else if i = 1 then 3 else if i = 2 then 5 else if i = 3 then 4 else if i = 4 then 4 else if i = 5 then 3 else 5) := by decide
  rw [h3 i hi] at h1
  omega
/-- a row of the one and of the other: what it is done with -/
def arw (n : Nat) (I J : Nat → Nat → Int32) (kd k : Nat) : Prop := (kd = 2 ∨ kd = 4) ∨ ∃ f, I 89 k = nI f ∧ J (455 + k) 1 = nI f ∧ (((kd = 1 ∨ kd = 3) ∧ 1 ≤ f ∧ f ≤ 99) ∨ (kd = 6 ∧ f ≤ 60) ∨ (kd = 5 ∧ f ≤ 3 ∧ ∃ g, I 90 k = nI g ∧ J (455 + k) 2 = nI g ∧ g ≤ 999) ∨ (kd = 0 ∧ f < n ∧ (∃ g, I 90 k = nI g ∧ J (455 + k) 2 = nI g ∧ g ≤ 7) ∧ ∃ g, I 91 k = nI g ∧ J (455 + k) 3 = nI g ∧ g ≤ 7))
def srw (n : Nat) (I J : Nat → Nat → Int32) (k m : Nat) : Prop := ∃ kd cl, I 88 k = nI kd ∧ J (455 + k) 0 = nI kd ∧ kd ≤ 6 ∧ I 92 k = nI cl ∧ J (455 + k) 4 = nI cl ∧ k < cl ∧ cl ≤ m ∧ arw n I J kd k
theorem srw_c {k m2 : Nat} (h : srw n I J k m) (hI : ∀ i, 88 ≤ i → i ≤ 92 → I1 i k = I i k) (hJ : ∀ j, J1 (455 + k) j = J (455 + k) j) (hm : m ≤ m2) : srw n I1 J1 k m2 := by
  obtain ⟨kd, cl, h1, h2, h3, h4, h5, h6, h7, h8⟩ := h
  refine ⟨kd, cl, by rw [hI 88 (by omega) (by omega)]; exact h1, by rw [hJ]; exact h2, h3, by rw [hI 92 (by omega) (by omega)]; exact h4, by rw [hJ]; exact h5, h6, by omega, ?_⟩
  unfold arw at h8 ⊢
  rw [hI 89 (by omega) (by omega), hI 90 (by omega) (by omega), hI 91 (by omega) (by omega), hJ, hJ, hJ]
  exact h8
/-- loops stand in each other at most so deep -/
def nst (J : Nat → Nat → Int32) : Nat → Nat → Nat → Prop
  | 0, f, t => ∀ k, f ≤ k → k < t → ¬ J (455 + k) 0 = nI 6
  | e + 1, f, t => ∀ k, f ≤ k → k < t → J (455 + k) 0 = nI 6 → ∃ cl, J (455 + k) 4 = nI cl ∧ cl ≤ t ∧ nst J e (k + 1) cl
theorem nst_c : ∀ {e f t : Nat}, nst J e f t → (∀ k j, k < t → J1 (455 + k) j = J (455 + k) j) → nst J1 e f t
  | 0, f, t, h, he => fun k h1 h2 => by rw [he k 0 h2]; exact h k h1 h2
  | e + 1, f, t, h, he => fun k h1 h2 h3 => by
    rw [he k 0 h2] at h3
    obtain ⟨cl, a1, a2, a3⟩ := h k h1 h2 h3
    exact ⟨cl, by rw [he k 4 h2]; exact a1, a2, nst_c a3 (fun k j hk => he k j (by omega))⟩
theorem nst_s : ∀ {e f t : Nat}, nst J e f t → nst J (e + 1) f t
  | 0, f, t, h => fun k h1 h2 h3 => absurd h3 (h k h1 h2)
  | e + 1, f, t, h => fun k h1 h2 h3 => by
    obtain ⟨cl, a1, a2, a3⟩ := h k h1 h2 h3
    exact ⟨cl, a1, a2, nst_s a3⟩
theorem nst_j : ∀ {e f t u : Nat}, nst J e f t → nst J e t u → t ≤ u → nst J e f u
  | 0, f, t, u, h, h2, _ => fun k h1 h3 => by
    rcases Nat.lt_or_ge k t with a | a
    · exact h k h1 a
    · exact h2 k a h3
  | e + 1, f, t, u, h, h2, htu => fun k h1 h3 h4 => by
    rcases Nat.lt_or_ge k t with a | a
    · obtain ⟨cl, a1, a2, a3⟩ := h k h1 a h4
      exact ⟨cl, a1, by omega, a3⟩
    · exact h2 k a h3 h4
theorem nst_1 {e f : Nat} (h : ¬ J (455 + f) 0 = nI 6) : nst J e f (f + 1) := by
  cases e with
  | zero => exact fun k h1 h2 => by rw [show k = f by omega]; exact h
  | succ e => exact fun k h1 h2 h3 => by rw [show k = f by omega] at h3; exact absurd h3 h
theorem nst_0 {e f : Nat} : nst J e f f := by
  cases e with
  | zero => exact fun k h1 h2 => by omega
  | succ e => exact fun k h1 h2 h3 => by omega
def PW (m i j : Nat) : Prop := (i = 87 ∧ j = 5) ∨ (88 ≤ i ∧ i ≤ 92 ∧ m ≤ j)
def QW (m i j : Nat) : Prop := (i = 108 ∧ (j = 8 ∨ j = 28)) ∨ (455 + m ≤ i ∧ i ≤ 534)
theorem PW_T (h : tB I T L) (ho : only (PW m) I I1) : tB I1 T L := tB_o h ho (by unfold PW; omega) (fun k _ => by unfold PW; omega)
theorem QW_T (h : mB J T L) (ho : only (QW m) J J1) : mB J1 T L := mB_o h ho (by unfold QW; omega) (fun k _ => by unfold QW; omega)
theorem PW_jk (h : jk I) (ho : only (PW m) I I1) : jk I1 := jk_o h ho (fun i j hi => by unfold PW; omega)
/-- what a reader of steps begins with -/
def WS (T : Nat → Nat) (L n m o : Nat) (I J : Nat → Nat → Int32) (p : Nat) : Prop := tB I T L ∧ mB J T L ∧ jk I ∧ p ≤ L ∧ I 87 5 = nI m ∧ J 108 28 = nI m ∧ 5 * m ≤ p ∧ J 108 8 = nI o ∧ I 87 6 = nI n ∧ J 108 13 = nI n
/-- and leaves behind -/
def GW (L n m o p : Nat) (I1 J1 : Nat → Nat → Int32) (p1 : Nat) : Prop := p ≤ p1 ∧ p1 ≤ L ∧ J1 108 8 = nI o ∧ ∃ m1, m ≤ m1 ∧ 5 * m1 ≤ p1 ∧ I1 87 5 = nI m1 ∧ J1 108 28 = nI m1 ∧ (∀ k, m ≤ k → k < m1 → srw n I1 J1 k m1) ∧ nst J1 (6 - o) m m1
theorem WS_on {m1 o1 p1 : Nat} (h : WS T L n m o I J p) (hI : only (PW m) I I1) (hJ : only (QW m) J J1) (h1 : p1 ≤ L) (h2 : I1 87 5 = nI m1) (h3 : J1 108 28 = nI m1) (h4 : 5 * m1 ≤ p1) (h5 : J1 108 8 = nI o1) : WS T L n m1 o1 I1 J1 p1 := by
  obtain ⟨a1, a2, a3, a4, a5, a6, a7, a8, a9, a10⟩ := h
  exact ⟨PW_T a1 hI, QW_T a2 hJ, PW_jk a3 hI, h1, h2, h3, h4, h5, by rw [hI 87 6 (by unfold PW; omega)]; exact a9, by rw [hJ 108 13 (by unfold QW; omega)]; exact a10⟩
/-- a step's end: the row is closed, a sign stands there -/
def fE (FC : pmM → pmR) (x4 : Int32) (m3 : pmM) : pmR := if x4 = 0 then pm_oI 0 m3 else (pm_rc 7 65 m3 <| pm_cI (X7_takeSign 65 59 m3) fun x6 m5 => if x6 = 0 then pm_oI 0 m5 else FC m5)
theorem sg_R {m2 : Nat} {FC FM : pmM → pmR} {FCl : Int32 → pmM → pmR} (h : ly c S) (hT : tB I T L) (hM : mB J T L) (hp : p ≤ L) (hm : m < 80) (e28 : J 108 28 = nI m2)
    (hok : tS T L p < L → p ≤ tS T L p → rO c w S K K2 P2 Q2 I0 J0 x G2 (pm_cI (FC (c, w, S, tx I (tS T L p + 1) s v, K)) FCl) (FM (c, w, S, mx (ly_u J (455 + m) 4 (nI m2)) (tS T L p + 1) 0 x, K2)))
    (hno : ∀ q pp, 1 ≤ 1 ∧ 1 ≤ 3 ∧ q ≤ 600 ∧ pp ≤ 600 → rO c w S K K2 P2 Q2 I0 J0 x G2 (FCl 0 (c, w, S, tx (tf I 1 q) pp s v, K)) (FM (c, w, S, mx (ly_u J (455 + m) 4 (nI m2)) pp 1 (nI q), K2))) :
    rO c w S K K2 P2 Q2 I0 J0 x G2 (pm_cI (fE FC 1 (c, w, S, tx I p s v, K)) FCl) (pm_cV (X9_readsStep_j225 rsM 108 (455 + m) (c, w, S, mx J p 0 x, K2)) FM) := by
  unfold X9_readsStep_j225 fE
  rw [i10, lc_65 h, ly_cc, lg_108 h, mx_nj (by omega), e28, st_i (i := 4) 4 rfl, ls_455 h hm (by omega), mx_un (by omega), lc_108 h, ly_cvv, show (59 : Int32) = nI 59 from rfl]
  refine rO_sign h hT (mB_o (P := fun i _ => i = 455 + m) hM (only_u only_r rfl) (by omega) (fun k _ => by omega)) hp hp rfl (by omega) (fun hb h1 h2 => ?_) (fun q pp hk => ?_)
  · rw [i10, ly_cV]; exact hok h1 h2
  · rw [i00, ly_cI, ly_cV]; exact hno q pp hk
theorem j225_F {y : Int32} (h : ly c S) (hm : m < 80) (hg : 1 ≤ g ∧ g ≤ 3) : X9_readsStep_j225 rsM 108 (455 + m) (c, w, S, mx J p g y, K2) = pm_oV (c, w, S, mx (ly_u J (455 + m) 4 (J 108 28)) p g y, K2) := by
  unfold X9_readsStep_j225
  rw [lg_108 h, mx_nj (by omega), st_i (i := 4) 4 rfl, ls_455 h hm (by omega), mx_un (by omega), lc_108 h, mx_signF h (by omega), ly_cV]
/-- as rO_num, with any bound -/
theorem rO_numP {P Q : Nat → Nat → Prop} {lo hi : Int32} {p2 : Nat} {Bd : Nat → Prop} (h : ly c S) (hT : tB I T L) (hM : mB J T L) (hp : p ≤ L) (hp2 : p2 ≤ L) (hpp : tS T L p2 = tS T L p) (hb : ∀ z : Nat, z ≤ 100000 → nI z ≤ hi → Bd z) {RC : Int32 → pmM → pmR} {RM : Int32 → pmM → pmR} {G : (Nat → Nat → Int32) → (Nat → Nat → Int32) → Nat → Prop}
    (hok : ∀ z, lo ≤ nI z → Bd z → tS T L p < L → tE iDg T L (tS T L p) ≤ L → tS T L p < tE iDg T L (tS T L p) → rO c w S K K2 P Q I0 J0 x G (RC 1 (c, w, S, tx I (tE iDg T L (tS T L p)) (nI (tS T L p)) (nI z), K)) (RM (nI z) (c, w, S, mx J (tE iDg T L (tS T L p)) 0 x, K2)))
    (hno : ∀ k q pp s v, 1 ≤ k ∧ k ≤ 3 ∧ q ≤ 600 ∧ pp ≤ 600 → rO c w S K K2 P Q I0 J0 x G (RC 0 (c, w, S, tx (tf I k q) pp s v, K)) (RM 0 (c, w, S, mx J pp k (nI q), K2))) :
    rO c w S K K2 P Q I0 J0 x G (pm_cI (X7_takeNumber 65 lo hi (c, w, S, tx I p s v, K)) RC) (pm_cI (X9_number 108 lo hi (c, w, S, mx J p2 0 x, K2)) RM) := by
  have hq : tS T L p ≤ L := tE_lL hp
  have hL := hT.2.1
  rcases tI_cases iDg T L (tS T L p) with hd | hd
  · by_cases hr : lo ≤ nI (tN T L (tS T L p)) ∧ nI (tN T L (tS T L p)) ≤ hi
    · rw [tx_num1 h hT hp hd hr, mx_num1 h hM hp2 (by rw [hpp]; exact hd) (by rw [hpp]; exact hr), ly_cI, ly_cI, hpp]
      exact hok _ hr.1 (hb _ tN_le hr.2) (of_decide_eq_true hd).1 (tE_lL hq) (tE_gt hd)
    · rw [tx_num2 h hT hp hd hr, mx_num2 h hM hp2 (by rw [hpp]; exact hd) (by rw [hpp]; exact hr), ly_cI, ly_cI, hpp]
      exact hno _ _ _ _ _ (by have := tE_lL (f := iDg) (T := T) hq; omega)
  · rw [tx_num0 h hT hp hd, mx_num0 h hM hp2 (by rw [hpp]; exact hd), ly_cI, ly_cI, hpp]
    exact hno _ _ _ _ _ (by have := tE_lL (f := iDg) (T := T) hq; omega)
/-- a number of a step, into its first place -/
theorem rf_R {lo hi : Int32} {Bd : Nat → Prop} {RC : Int32 → pmM → pmR} {RM FM : pmM → pmR} (h : ly c S) (hT : tB I T L) (hM : mB J T L) (hp : p ≤ L) (hm : m < 30) (hb : ∀ z : Nat, z ≤ 100000 → nI z ≤ hi → Bd z)
    (hok : ∀ z p1 s v, lo ≤ nI z → Bd z → p < p1 → p1 ≤ L → rO c w S K K2 P2 Q2 I0 J0 x G2 (RC 1 (c, w, S, tx (ly_u I 89 m (nI z)) p1 s v, K)) (pm_cV (RM (c, w, S, mx (ly_u J (455 + m) 1 (nI z)) p1 0 x, K2)) FM))
    (hno : ∀ k q pp p1 s v, 1 ≤ k ∧ k ≤ 3 ∧ q ≤ 600 ∧ pp ≤ 600 → rO c w S K K2 P2 Q2 I0 J0 x G2 (RC 0 (c, w, S, tx (tf I k q) p1 s v, K)) (pm_cV (RM (c, w, S, mx (ly_u J (455 + m) 1 0) pp k (nI q), K2)) FM)) :
    rO c w S K K2 P2 Q2 I0 J0 x G2 (pm_cI (X6_readFirst 87 65 (nI m) lo hi (c, w, S, tx I p s v, K)) RC) (pm_cV (pm_cI (X9_number 108 lo hi (c, w, S, mx J p 0 x, K2)) fun x12 m11 => pm_st 100 (455 + m) 1 x12 m11 fun m13 => RM m13) FM) := by
  have hpq : p ≤ tS T L p := tE_ge hp
  unfold X6_readFirst
  rw [lc_65 h, ly_cc, ly_civ]
  refine rO_numP h hT hM hp hp rfl hb (fun z h0 hz h1 h2 h3 => ?_) (fun k q pp s v hk => ?_)
  · rw [i10, lr_87_1 h, lg_65 h, tx5, ls_89 h hm, tx_un (by omega), ly_cI, st_i (i := 1) 1 rfl, ls_455 h (by omega) (by omega), mx_un (by omega)]
    exact hok z _ _ _ h0 hz (by omega) h2
  · rw [i00, ly_cI, st_i (i := 1) 1 rfl, ls_455 h (by omega) (by omega), mx_un (by omega)]
    exact hno k q pp _ _ _ hk
theorem rs_R {hi : Int32} {Bd : Nat → Prop} {RC : Int32 → pmM → pmR} {RM FM : pmM → pmR} (h : ly c S) (hT : tB I T L) (hM : mB J T L) (hp : p ≤ L) (hm : m < 30) (hb : ∀ z : Nat, z ≤ 100000 → nI z ≤ hi → Bd z)
    (hok : ∀ z p1 s v, Bd z → p < p1 → p1 ≤ L → rO c w S K K2 P2 Q2 I0 J0 x G2 (RC 1 (c, w, S, tx (ly_u I 90 m (nI z)) p1 s v, K)) (pm_cV (RM (c, w, S, mx (ly_u J (455 + m) 2 (nI z)) p1 0 x, K2)) FM))
    (hno : ∀ k q pp p1 s v, 1 ≤ k ∧ k ≤ 3 ∧ q ≤ 600 ∧ pp ≤ 600 → rO c w S K K2 P2 Q2 I0 J0 x G2 (RC 0 (c, w, S, tx (tf I k q) p1 s v, K)) (pm_cV (RM (c, w, S, mx (ly_u J (455 + m) 2 0) pp k (nI q), K2)) FM)) :
    rO c w S K K2 P2 Q2 I0 J0 x G2 (pm_cI (X6_readSecond 87 65 (nI m) hi (c, w, S, tx I p s v, K)) RC) (pm_cV (pm_cI (X9_number 108 0 hi (c, w, S, mx J p 0 x, K2)) fun x12 m11 => pm_st 100 (455 + m) 2 x12 m11 fun m13 => RM m13) FM) := by
  have hpq : p ≤ tS T L p := tE_ge hp
  unfold X6_readSecond
  rw [lc_65 h, ly_cc, ly_civ]
  refine rO_numP h hT hM hp hp rfl hb (fun z h0 hz h1 h2 h3 => ?_) (fun k q pp s v hk => ?_)
  · rw [i10, lr_87_2 h, lg_65 h, tx5, ls_90 h hm, tx_un (by omega), ly_cI, st_i (i := 2) 2 rfl, ls_455 h (by omega) (by omega), mx_un (by omega)]
    exact hok z _ _ _ hz (by omega) h2
  · rw [i00, ly_cI, st_i (i := 2) 2 rfl, ls_455 h (by omega) (by omega), mx_un (by omega)]
    exact hno k q pp _ _ _ hk
end WKR
