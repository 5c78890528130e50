/-! duel -/
section DUE
variable {c w : Nat} {S : Nat → pmS} {I I1 I2 J : Nat → Nat → Int32} {K K1 : Nat → Nat → Int64} {n : Nat} {wd : Nat → Nat} {q : Nat → Nat → Nat} {r : Nat → Int32} {a : Nat} {se : Nat → Nat} {W G d : Nat} {m : pmM} {x y z i j A F E : Int32}
def hby (x y i j : Int32) : Int32 := if i = 0 then (if j = 0 then -y else x) else (if j = 0 then 0 else y)
theorem hb_C : X8_hadBy x y i j m = pm_oI (hby x y i j) m := by
  unfold X8_hadBy X8_hadBy_j24 X8_hadBy_j14 hby
  by_cases h1 : i = 0
  · rw [if_pos h1, if_pos h1]
    by_cases h2 : j = 0
    · rw [if_pos h2, if_pos h2]
    · rw [if_neg h2, if_neg h2]
  · rw [if_neg h1, if_neg h1]
    by_cases h2 : j = 0
    · rw [if_pos h2, if_pos h2]
    · rw [if_neg h2, if_neg h2]
theorem hb_M (hi : i = 0 ∨ i = 1) (hj : j = 0 ∨ j = 1) : X9_hasBy i j x y m = pm_oI (hby x y i j) m := by
  unfold X9_hasBy X9_hasBy_j27 hby
  rcases hi with rfl | rfl
  · rcases hj with rfl | rfl
    · rw [if_pos rfl, if_pos rfl, if_pos rfl, if_pos rfl]
    · rw [if_neg (show ¬ (0 : Int32) = 1 by decide), if_pos rfl, if_pos rfl, if_neg (show ¬ (1 : Int32) = 0 by decide)]
  · rcases hj with rfl | rfl
    · rw [if_neg (show ¬ (1 : Int32) = 0 by decide), if_neg (show ¬ (1 : Int32) = 0 by decide), if_neg (show ¬ (1 : Int32) = 0 by decide), if_pos rfl]
    · rw [if_pos rfl, if_neg (show ¬ (1 : Int32) = 0 by decide), if_neg (show ¬ (1 : Int32) = 0 by decide), if_neg (show ¬ (1 : Int32) = 0 by decide)]
def bst (x y i j : Int32) : Bool := decide (¬ hby x y i j < hby x y (1 - i) j)
theorem rs_C : X8_restsThere x y i j m = pm_oI (ly_b (bst x y i j && bst x y j i)) m := by
  unfold X8_restsThere X8_restsThere_j42 X8_restsThere_j43
  rw [hb_C, ly_cI, hb_C, ly_cI]
  by_cases h1 : hby x y i j < hby x y (1 - i) j
  · rw [if_pos h1, show bst x y i j = false from decide_eq_false (fun e => e h1)]
    rfl
  · rw [if_neg h1, hb_C, ly_cI, hb_C, ly_cI, show bst x y i j = true from decide_eq_true h1]
    by_cases h2 : hby x y j i < hby x y (1 - j) i
    · rw [if_pos h2, show bst x y j i = false from decide_eq_false (fun e => e h2)]
      rfl
    · rw [if_neg h2, show bst x y j i = true from decide_eq_true h2]
      rfl
theorem one_s (hi : i = 0 ∨ i = 1) : (1 : Int32) - i = 0 ∨ (1 : Int32) - i = 1 := by
  rcases hi with rfl | rfl
  · exact Or.inr (by decide)
  · exact Or.inl (by decide)
theorem dbs_M (hi : i = 0 ∨ i = 1) (hj : j = 0 ∨ j = 1) : X9_isBest i j x y m = pm_oI (ly_b (bst x y i j)) m := by
  unfold X9_isBest X9_isBest_j24
  rw [hb_M hi hj, ly_cI, hb_M (one_s hi) hj, ly_cI]
  by_cases h1 : hby x y i j < hby x y (1 - i) j
  · rw [if_pos h1, show bst x y i j = false from decide_eq_false (fun e => e h1)]
    rfl
  · rw [if_neg h1, show bst x y i j = true from decide_eq_true h1]
    rfl
def dst (x y i j : Int32) (t : Int32 × Int32 × Int32) : Int32 × Int32 × Int32 := if bst x y i j && bst x y j i then (if t.1 = 0 then (t.1 + 1, 10 * i + j, hby x y i j + hby x y j i) else (t.1 + 1, t.2.1, t.2.2)) else t
theorem st_C {a5 a9 : Int32 × Int32 × Int32 × Int32 × pmM → pmR} {t : Int32 × Int32 × Int32} {j2 : Int32} (hj : ¬ 1 < j) (e : j + 1 = j2) : X8_duel_L59 a5 x y z i a9 (t.1, t.2.1, t.2.2, j, m) = a9 ((dst x y i j t).1, (dst x y i j t).2.1, (dst x y i j t).2.2, j2, m) := by
  obtain ⟨A, F, E⟩ := t
  unfold X8_duel_L59 X8_duel_j113 X8_duel_j116 dst
  simp only
  rw [if_neg hj, rs_C, ly_cI]
  cases hb : (bst x y i j && bst x y j i)
  · rw [ib0, ly_bI, e]
    simp only [Bool.false_eq_true, if_false]
  · rw [ib1]
    by_cases hA : A = 0
    · rw [if_pos hA, ly_bI, hb_C, ly_cI, hb_C, ly_cI, ly_bI, ly_bI, ly_bI, e]
      simp only [if_true, if_pos hA]
    · rw [if_neg hA, ly_bI, ly_bI, e]
      simp only [if_true, if_neg hA]
theorem st_M {a5 a9 : Int32 × Int32 × Int32 × Int32 × pmM → pmR} {t : Int32 × Int32 × Int32} {j2 : Int32} (hi : i = 0 ∨ i = 1) (hj : j = 0 ∨ j = 1) (e : j + 1 = j2) : X9_duel_L71 a5 x y z i a9 (t.1, t.2.1, t.2.2, j, m) = a9 ((dst x y i j t).1, (dst x y i j t).2.1, (dst x y i j t).2.2, j2, m) := by
  obtain ⟨A, F, E⟩ := t
  have h2 : ¬ (2 : Int32) ≤ j := by rcases hj with rfl | rfl <;> decide
  unfold X9_duel_L71 X9_duel_j133 X9_duel_j153 X9_duel_j158 dst
  simp only
  rw [if_neg h2, dbs_M hi hj, ly_cI]
  cases hb : bst x y i j
  · rw [ib0, ly_bI, e]
    simp only [Bool.false_and, Bool.false_eq_true, if_false]
  · rw [ib1, dbs_M hj hi, ly_cI]
    cases hb2 : bst x y j i
    · rw [ib0, ly_bI, e]
      simp only [Bool.and_false, Bool.false_eq_true, if_false]
    · rw [ib1]
      by_cases hA : A = 0
      · rw [if_pos hA, hb_M hi hj, ly_cI, hb_M hj hi, ly_cI, ly_bI, ly_bI, e]
        simp only [Bool.and_self, if_true, if_pos hA]
      · rw [if_neg hA, if_neg hA, ly_bI, ly_bI, e]
        simp only [Bool.and_self, if_true, if_neg hA]
theorem ro_C {a5 : Int32 × Int32 × Int32 × Int32 × pmM → pmR} {t : Int32 × Int32 × Int32} {i2 : Int32} (e : i + 1 = i2) : pm_lp pm_N (X8_duel_L59 a5 x y z i) (t.1, t.2.1, t.2.2, 0, m) = a5 ((dst x y i 1 (dst x y i 0 t)).1, (dst x y i 1 (dst x y i 0 t)).2.1, (dst x y i 1 (dst x y i 0 t)).2.2, i2, m) := by
  show pm_lp (99997 + 1 + 1 + 1) _ _ = _
  rw [ly_S, st_C (j2 := 1) (by decide) (by decide), ly_S, st_C (j2 := 2) (by decide) (by decide), ly_S]
  unfold X8_duel_L59
  simp only
  rw [if_pos (by decide), ly_bI, e]
theorem ro_M {a5 : Int32 × Int32 × Int32 × Int32 × pmM → pmR} {t : Int32 × Int32 × Int32} {i2 : Int32} (hi : i = 0 ∨ i = 1) (e : i + 1 = i2) : pm_lp pm_N (X9_duel_L71 a5 x y z i) (t.1, t.2.1, t.2.2, 0, m) = a5 ((dst x y i 1 (dst x y i 0 t)).1, (dst x y i 1 (dst x y i 0 t)).2.1, (dst x y i 1 (dst x y i 0 t)).2.2, i2, m) := by
  show pm_lp (99997 + 1 + 1 + 1) _ _ = _
  rw [ly_S, st_M (j2 := 1) hi (Or.inl rfl) (by decide), ly_S, st_M (j2 := 2) hi (Or.inr rfl) (by decide), ly_S]
  unfold X9_duel_L71
  simp only
  rw [if_pos (by decide), ly_bI, e]
def dut (x y : Int32) : Int32 × Int32 × Int32 := dst x y 1 1 (dst x y 1 0 (dst x y 0 1 (dst x y 0 0 (0, -1, 0))))
def dur (x y z : Int32) : Int32 := if z = 0 then (dut x y).1 else if z = 1 then (dut x y).2.1 else (dut x y).2.2
theorem du_C : pm_lp pm_N (X8_duel_L50 x y z) (0, -1, 0, 0, m) = pm_oI (dur x y z) m := by
  show pm_lp (99997 + 1 + 1 + 1) _ (((0, -1, 0) : Int32 × Int32 × Int32).1, ((0, -1, 0) : Int32 × Int32 × Int32).2.1, ((0, -1, 0) : Int32 × Int32 × Int32).2.2, 0, m) = _
  rw [ly_S]
  have s1 : ∀ (a5 : Int32 × Int32 × Int32 × Int32 × pmM → pmR) (t : Int32 × Int32 × Int32) (i i2 : Int32), ¬ 1 < i → i + 1 = i2 → X8_duel_L50 x y z a5 (t.1, t.2.1, t.2.2, i, m) = a5 ((dst x y i 1 (dst x y i 0 t)).1, (dst x y i 1 (dst x y i 0 t)).2.1, (dst x y i 1 (dst x y i 0 t)).2.2, i2, m) := fun a5 t i i2 h1 e => by
    unfold X8_duel_L50
    simp only
    rw [if_neg h1]
    exact ro_C e
  rw [s1 _ _ 0 1 (by decide) (by decide), ly_S, s1 _ _ 1 2 (by decide) (by decide), ly_S]
  unfold X8_duel_L50 X8_duel_j149 dur dut
  simp only
  rw [if_pos (show (1 : Int32) < 2 by decide)]
  split
  · rfl
  · split <;> rfl
theorem du_M : pm_lp pm_N (X9_duel_L62 x y z) (0, -1, 0, 0, m) = pm_oI (dur x y z) m := by
  show pm_lp (99997 + 1 + 1 + 1) _ (((0, -1, 0) : Int32 × Int32 × Int32).1, ((0, -1, 0) : Int32 × Int32 × Int32).2.1, ((0, -1, 0) : Int32 × Int32 × Int32).2.2, 0, m) = _
  rw [ly_S]
  have s1 : ∀ (a5 : Int32 × Int32 × Int32 × Int32 × pmM → pmR) (t : Int32 × Int32 × Int32) (i i2 : Int32), i = 0 ∨ i = 1 → i + 1 = i2 → X9_duel_L62 x y z a5 (t.1, t.2.1, t.2.2, i, m) = a5 ((dst x y i 1 (dst x y i 0 t)).1, (dst x y i 1 (dst x y i 0 t)).2.1, (dst x y i 1 (dst x y i 0 t)).2.2, i2, m) := fun a5 t i i2 h1 e => by
    unfold X9_duel_L62
    simp only
    rw [if_neg (show ¬ (2 : Int32) ≤ i by rcases h1 with rfl | rfl <;> decide)]
    exact ro_M h1 e
  rw [s1 _ _ 0 1 (Or.inl rfl) (by decide), ly_S, s1 _ _ 1 2 (Or.inr rfl) (by decide), ly_S]
  unfold X9_duel_L62 X9_duel_j191 dur dut
  simp only
  rw [if_pos (show (2 : Int32) ≤ 2 by decide)]
  split
  · rfl
  · split <;> rfl
theorem ca_duel (x y z : Int32) (h : ly c S) (hJ : JJ I n wd q r a se W G) : ag isI (I 0) c w S (fun k => k) (X8_duel 64 x y z (c, w, S, I, K)) (X9_duel 108 x y z) := by
  have e34 : X8_duel_j34 x y z 64 (c, w, S, I, K) = rX c w S I K 1 := by
    unfold X8_duel_j34 X8_duel_j35
    rw [lc_64 h, mu_cV h]
  have m35 : ∀ c1 w1 S1 I1 K2, ly c1 S1 → X9_duel_j35 x y z 108 (c1, w1, S1, ly_u I1 108 0 0, K2) = pm_oI 0 (c1, w1, S1, bI I1 1 1, K2) := by
    intro c1 w1 S1 I1 K2 h1
    unfold X9_duel_j35 X9_duel_j40
    rw [lc_108 h1, bad_11 h1, ly_cI, i10]
  by_cases hx : 0 ≤ x ∧ x ≤ 99
  case neg =>
    refine ag_no (K := K) (k := 1) (b := .int 0) h hJ (by omega) ⟨_, rfl⟩ ?_ (fun c1 w1 S1 I1 K2 h1 hI => ?_)
    · unfold X8_duel
      by_cases h1 : x < 0
      · rw [if_pos h1, e34]
      · rw [if_neg h1, if_pos (Int32.not_le.mp (fun e => hx ⟨Int32.not_lt.mp h1, e⟩)), e34]
    · unfold X9_duel
      rw [lp_108 h1, rm_in, ly_cI, decide_eq_false hx, ib0, m35 _ _ _ _ _ h1]
  by_cases hy : 0 ≤ y ∧ y ≤ 99
  case neg =>
    refine ag_no (K := K) (k := 1) (b := .int 0) h hJ (by omega) ⟨_, rfl⟩ ?_ (fun c1 w1 S1 I1 K2 h1 hI => ?_)
    · unfold X8_duel
      rw [if_neg (Int32.not_lt.mpr hx.1), if_neg (Int32.not_lt.mpr hx.2)]
      by_cases h1 : y < 0
      · rw [if_pos h1, e34]
      · rw [if_neg h1, if_pos (Int32.not_le.mp (fun e => hy ⟨Int32.not_lt.mp h1, e⟩)), e34]
    · unfold X9_duel
      rw [lp_108 h1, rm_in, ly_cI, decide_eq_true hx, ib1, rm_in, ly_cI, decide_eq_false hy, ib0, m35 _ _ _ _ _ h1]
  by_cases hz : 0 ≤ z ∧ z ≤ 2
  case neg =>
    refine ag_no (K := K) (k := 1) (b := .int 0) h hJ (by omega) ⟨_, rfl⟩ ?_ (fun c1 w1 S1 I1 K2 h1 hI => ?_)
    · unfold X8_duel
      rw [if_neg (Int32.not_lt.mpr hx.1), if_neg (Int32.not_lt.mpr hx.2), if_neg (Int32.not_lt.mpr hy.1), if_neg (Int32.not_lt.mpr hy.2)]
      by_cases h1 : z < 0
      · rw [if_pos h1, e34]
      · rw [if_neg h1, if_pos (Int32.not_le.mp (fun e => hz ⟨Int32.not_lt.mp h1, e⟩)), e34]
    · unfold X9_duel
      rw [lp_108 h1, rm_in, ly_cI, decide_eq_true hx, ib1, rm_in, ly_cI, decide_eq_true hy, ib1, rm_in, ly_cI, decide_eq_false hz, ib0, m35 _ _ _ _ _ h1]
  refine ag_ro (v := .int (dur x y z)) (I1 := I) (K1 := K) h hJ ⟨_, rfl⟩ ?_ same_r (fun hJ1 K2 => ⟨ly_u I 108 0 0, K2, ?_, z0', s0, rfl⟩)
  · unfold X8_duel X8_duel_j35
    rw [if_neg (Int32.not_lt.mpr hx.1), if_neg (Int32.not_lt.mpr hx.2), if_neg (Int32.not_lt.mpr hy.1), if_neg (Int32.not_lt.mpr hy.2), if_neg (Int32.not_lt.mpr hz.1), if_neg (Int32.not_lt.mpr hz.2), lc_64 h, mu_cV1, du_C]
  · unfold X9_duel X9_duel_j40
    rw [lp_108 h, rm_in, ly_cI, decide_eq_true hx, ib1, rm_in, ly_cI, decide_eq_true hy, ib1, rm_in, ly_cI, decide_eq_true hz, ib1, lc_108 h, bad_z h, ly_cI, i00, du_M]
end DUE
