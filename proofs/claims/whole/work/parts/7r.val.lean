/-! value -/
section VAL
variable {c w : Nat} {S : Nat → pmS} {I I1 I2 J A D : Nat → Nat → Int32} {K K1 K2 : Nat → Nat → Int64} {n : Nat} {wd : Nat → Nat} {q : Nat → Nat → Nat} {r : Nat → Int32} {a : Nat} {se : Nat → Nat} {W G d : Nat} {s : Nat → Nat}
def rv (k : Nat) : Nat := ([0, 1, 2, 3, 1, 4, 3, 2, 1] : List Nat).getD k 0
theorem rv_I : ∀ j, j < 9 → ([0, 1, 2, 3, 1, 4, 3, 2, 1] : List Int32).getD j 0 = nI (rv j) := by decide
theorem rv_x : ∀ i, i < 9 → ∀ j, j < 9 → rv i ^^^ rv j < 16 := by decide
theorem rv_8 : ∀ i, i < 9 → rv i < 8 := by decide
def pf1 (l t : Nat) : Nat → Nat → Bool
  | 0, _ => false
  | i + 1, p => pf1 l t i p || decide (rv i ^^^ rv (l - i - t) = p)
def pfl (l : Nat) : Nat → Nat → Bool
  | 0, _ => false
  | 1, _ => false
  | t + 2, p => pfl l (t + 1) p || pf1 l (t + 1) (l + 1 - (t + 1)) p
theorem pfl_s {l t p : Nat} (ht : 1 ≤ t) : pfl l (t + 1) p = (pfl l t p || pf1 l t (l + 1 - t) p) := by
  obtain ⟨u, rfl⟩ : ∃ u, t = u + 1 := ⟨t - 1, by omega⟩
  rfl
theorem pfl_m : ∀ l, l < 9 → (∀ p, p < rv l → pfl l 3 p = true) ∧ pfl l 3 (rv l) = false := by decide
def PV (i _j : Nat) : Prop := i = 580 ∨ i = 581
theorem lq_M (h : ly c S) : ∃ D, X9_laysPiles 108 (c, w, S, A, K) = pm_oV (c, w, S, D, K) ∧ only PV A D ∧ ∀ k, k < 9 → D 580 k = nI (rv k) := by
  unfold X9_laysPiles
  refine ly_loop (fun l (E : Nat → Nat → Int32) => ((nI l, (c, w, S, E, K)) : Int32 × pmM)) 9 (fun l E => only PV A E ∧ ∀ k, k < l → E 580 k = nI (rv k)) (fun R => ∃ D, R = pm_oV (c, w, S, D, K) ∧ only PV A D ∧ ∀ k, k < 9 → D 580 k = nI (rv k)) ?_ ?_ pm_N 0 A ⟨only_r, fun k hk => by omega⟩ (by omega) (by rw [pm_NE]; omega)
  · intro again l E hl hQ hnx
    obtain ⟨q1, q2⟩ := hQ
    unfold X9_laysPiles_L2
    simp only
    rw [if_neg (show ¬ (8 : Int32) < nI l from Int32.not_lt.mpr (nI_le (b := 8) (by omega) (by omega)))]
    refine ly_loop (fun i (E : Nat → Nat → Int32) => ((nI i, (c, w, S, E, K)) : Int32 × pmM)) 16 (fun i E => (only PV A E ∧ ∀ k, k < l → E 580 k = nI (rv k)) ∧ ∀ p, p < i → E 581 p = ly_b (pfl l 1 p)) (fun R => ∃ D, R = pm_oV (c, w, S, D, K) ∧ only PV A D ∧ ∀ k, k < 9 → D 580 k = nI (rv k)) ?_ ?_ pm_N 0 E ⟨⟨q1, q2⟩, fun k hk => by omega⟩ (by omega) (by rw [pm_NE]; omega)
    · intro again2 i Z hi hQ hn2
      obtain ⟨⟨p1, p2⟩, p3⟩ := hQ
      unfold X9_laysPiles_L10
      simp only
      rw [if_neg (show ¬ (16 : Int32) ≤ nI i from nI_ge (b := 16) hi (by omega)), lr_108_50 h, ls_581 h hi, ly_bI, nI_1]
      refine hn2 _ ⟨⟨only_u p1 (by unfold PV; omega), fun k hk => by rw [ly_uE, if_neg (by omega)]; exact p2 k hk⟩, fun p hp => ?_⟩
      rw [ly_uE]
      by_cases e : p = i
      · rw [if_pos ⟨rfl, e⟩]; rfl
      · rw [if_neg (fun e2 => e e2.2)]; exact p3 p (by omega)
    · intro again2 Z hQ
      unfold X9_laysPiles_L10
      simp only
      rw [if_pos (show (16 : Int32) ≤ nI 16 from by decide)]
      refine ly_loop (fun t (E : Nat → Nat → Int32) => ((nI t, (c, w, S, E, K)) : Int32 × pmM)) 3 (fun t E => 1 ≤ t ∧ (only PV A E ∧ ∀ k, k < l → E 580 k = nI (rv k)) ∧ ∀ p, p < 16 → E 581 p = ly_b (pfl l t p)) (fun R => ∃ D, R = pm_oV (c, w, S, D, K) ∧ only PV A D ∧ ∀ k, k < 9 → D 580 k = nI (rv k)) ?_ ?_ pm_N 1 Z ⟨by omega, hQ⟩ (by omega) (by rw [pm_NE]; omega)
      · intro again3 t Z1 ht hQ hn3
        obtain ⟨t1, ⟨p1, p2⟩, p3⟩ := hQ
        unfold X9_laysPiles_L31
        simp only
        rw [if_neg (show ¬ (3 : Int32) ≤ nI t from nI_ge (b := 3) ht (by omega))]
        refine ly_loop (fun i (E : Nat → Nat → Int32) => ((nI i, (c, w, S, E, K)) : Int32 × pmM)) (l + 1 - t) (fun i E => (only PV A E ∧ ∀ k, k < l → E 580 k = nI (rv k)) ∧ ∀ p, p < 16 → E 581 p = ly_b (pfl l t p || pf1 l t i p)) (fun R => ∃ D, R = pm_oV (c, w, S, D, K) ∧ only PV A D ∧ ∀ k, k < 9 → D 580 k = nI (rv k)) ?_ ?_ pm_N 0 Z1 ⟨⟨p1, p2⟩, fun p hp => by rw [p3 p hp, show pf1 l t 0 p = false from rfl, Bool.or_false]⟩ (by omega) (by rw [pm_NE]; omega)
        · intro again4 i Z2 hi hQ hn4
          obtain ⟨⟨p1, p2⟩, p3⟩ := hQ
          have hx := rv_x i (by omega) (l - i - t) (by omega)
          unfold X9_laysPiles_L38
          simp only
          rw [show nI i + nI t = nI (i + t) from nI_add i t, if_neg (Int32.not_lt.mpr (nI_le (by omega) (by omega))), lr_108_50 h, lr_108_49 h, ld_580 h (by omega), p2 i (by omega), lr_108_49 h, show nI l - nI i - nI t = nI (l - i - t) by rw [pk_sub (by omega), pk_sub (by omega)], ld_580 h (by omega), p2 (l - i - t) (by omega), nI_xor, ls_581 h hx, ly_bI, nI_1]
          refine hn4 _ ⟨⟨only_u p1 (by unfold PV; omega), fun k hk => by rw [ly_uE, if_neg (by omega)]; exact p2 k hk⟩, fun p hp => ?_⟩
          rw [ly_uE, show pf1 l t (i + 1) p = (pf1 l t i p || decide (rv i ^^^ rv (l - i - t) = p)) from rfl]
          by_cases e : p = rv i ^^^ rv (l - i - t)
          · rw [if_pos ⟨rfl, e⟩, decide_eq_true e.symm, Bool.or_true, Bool.or_true]; rfl
          · rw [if_neg (fun e2 => e e2.2), decide_eq_false (fun e2 => e e2.symm), Bool.or_false]; exact p3 p hp
        · intro again4 Z2 hQ
          obtain ⟨⟨p1, p2⟩, p3⟩ := hQ
          unfold X9_laysPiles_L38
          simp only
          rw [show nI (l + 1 - t) + nI t = nI (l + 1 - t + t) from nI_add _ _, if_pos (nI_lt (by omega) (by omega)), ly_bI, nI_1]
          refine hn3 _ ⟨by omega, ⟨p1, p2⟩, fun p hp => ?_⟩
          rw [pfl_s t1]; exact p3 p hp
      · intro again3 Z1 hQ
        obtain ⟨t1, ⟨p1, p2⟩, p3⟩ := hQ
        obtain ⟨m1, m2⟩ := pfl_m l hl
        have hv := rv_8 l hl
        unfold X9_laysPiles_L31
        simp only
        rw [if_pos (show (3 : Int32) ≤ nI 3 from by decide)]
        refine ly_loop (fun p (_ : Unit) => ((nI p, (c, w, S, Z1, K)) : Int32 × pmM)) (rv l) (fun _ _ => True) (fun R => ∃ D, R = pm_oV (c, w, S, D, K) ∧ only PV A D ∧ ∀ k, k < 9 → D 580 k = nI (rv k)) ?_ ?_ pm_N 0 () trivial (by omega) (by rw [pm_NE]; omega)
        · intro again4 p _ hp _ hn4
          unfold X9_laysPiles_L82
          simp only
          rw [lr_108_50 h, ld_581 h (by omega), p3 p (by omega), m1 p hp, ib1, ly_bI, nI_1]
          exact hn4 () trivial
        · intro again4 _ _
          unfold X9_laysPiles_L82
          simp only
          rw [lr_108_50 h, ld_581 h (by omega), p3 _ (by omega), m2, ib0, lr_108_49 h, ls_580 h hl, ly_bI, nI_1]
          refine hnx _ ⟨only_u p1 (by unfold PV; omega), fun k hk => ?_⟩
          rw [ly_uE]
          by_cases e : k = l
          · rw [if_pos ⟨rfl, e⟩, e]
          · rw [if_neg (fun e2 => e e2.2)]; exact p2 k (by omega)
  · intro again E hQ
    unfold X9_laysPiles_L2
    simp only
    rw [if_pos (show (8 : Int32) < nI 9 from by decide)]
    exact ⟨E, rfl, hQ⟩
def vst (L : Nat → Bool) : Nat → Nat × Nat
  | 0 => (0, 0)
  | i + 1 => if L i then ((vst L i).1, (vst L i).2 + 1) else ((vst L i).1 ^^^ rv (vst L i).2, 0)
theorem vst_s {L : Nat → Bool} {i : Nat} : vst L (i + 1) = if L i then ((vst L i).1, (vst L i).2 + 1) else ((vst L i).1 ^^^ rv (vst L i).2, 0) := rfl
theorem vst_r {L : Nat → Bool} : ∀ i, (vst L i).2 ≤ i
  | 0 => Nat.le_refl _
  | i + 1 => by
    have := vst_r (L := L) i
    rw [vst_s]
    split
    · simp only; omega
    · simp only; omega
theorem vst_e : ∀ k, k < 9 → ∀ b, b < 2 ^ k → (vst (fun i => (2 ^ k - 1 - b).testBit i) 9).1 = (vst (fun i => decide (i < k) && !b.testBit i) (k + 1)).1 := by decide +kernel
theorem vo_C {x : Nat} (h : ly c S) (hk : jk I) (hx : x < 256) : X4_valueOf (nI x) (c, w, S, I, K) = pm_oI (nI (vst (fun i => x.testBit i) 9).1) (c, w, S, I, K) := by
  unfold X4_valueOf
  refine ly_loop (fun i (_ : Unit) => ((nI (vst (fun i => x.testBit i) i).1, nI (vst (fun i => x.testBit i) i).2, nI i, (c, w, S, I, K)) : Int32 × Int32 × Int32 × pmM)) 9 (fun _ _ => True) (fun R => R = pm_oI (nI (vst (fun i => x.testBit i) 9).1) (c, w, S, I, K)) ?_ ?_ pm_N 0 () trivial (by omega) (by rw [pm_NE]; omega)
  · intro again i _ hi _ hn
    have hn1 := hn () trivial
    rw [vst_s] at hn1
    have hrr := vst_r (L := fun i => x.testBit i) i
    unfold X4_valueOf_L6
    simp only
    rw [if_neg (show ¬ (8 : Int32) < nI i from Int32.not_lt.mpr (nI_le (b := 8) (by omega) (by omega))), show ((nI x >>> (nI i &&& 31)) &&& 1) = nI (if x.testBit i then 1 else 0) from rd_bit x hx i (by omega)]
    cases hb : x.testBit i
    · simp only [hb, Bool.false_eq_true, if_false] at hn1
      rw [if_neg (show ¬ nI (if false = true then 1 else 0) = 1 from by decide)]
      unfold X4_valueOf_j33 X4_valueOf_j43
      rw [ld_2 h (by omega), hk.2.1 _ (by omega), rv_I _ (by omega), nI_xor, ly_bI, ly_bI, nI_1]
      exact hn1
    · simp only [hb, if_true] at hn1
      have hi8 : i ≠ 8 := fun e => by
        rw [e, Nat.testBit_lt_two_pow (by omega)] at hb
        exact absurd hb (by decide)
      rw [if_pos (show nI (if true = true then 1 else 0) = 1 from rfl), if_neg (show ¬ (8 : Int32) ≤ nI (vst (fun i => x.testBit i) i).2 from nI_ge (b := 8) (by omega) (by omega)), ly_bI, nI_1]
      unfold X4_valueOf_j43
      rw [ly_bI, nI_1]
      exact hn1
  · intro again _ _
    unfold X4_valueOf_L6
    simp only
    rw [if_pos (show (8 : Int32) < nI 9 from by decide)]
theorem vo_M {b l k : Nat} (h : ly c S) (hl : l < 6) (hk8 : k ≤ 8) (hw : D 113 l = nI k) (hv : ∀ k, k < 9 → D 580 k = nI (rv k)) (hb : b < 256) : X9_valueOf 108 (nI b) (nI l) (c, w, S, D, K) = pm_oI (nI (vst (fun i => decide (i < k) && !b.testBit i) (k + 1)).1) (c, w, S, D, K) := by
  unfold X9_valueOf
  refine ly_loop (fun i (_ : Unit) => ((nI (vst (fun i => decide (i < k) && !b.testBit i) i).1, nI (vst (fun i => decide (i < k) && !b.testBit i) i).2, nI i, (c, w, S, D, K)) : Int32 × Int32 × Int32 × pmM)) (k + 1) (fun _ _ => True) (fun R => R = pm_oI (nI (vst (fun i => decide (i < k) && !b.testBit i) (k + 1)).1) (c, w, S, D, K)) ?_ ?_ pm_N 0 () trivial (by omega) (by rw [pm_NE]; omega)
  · intro again i _ hi _ hn
    have hn1 := hn () trivial
    rw [vst_s] at hn1
    have hrr := vst_r (L := fun i => decide (i < k) && !b.testBit i) i
    unfold X9_valueOf_L8
    simp only
    rw [lr_108_16 h, ld_113 h hl, hw, if_neg (Int32.not_lt.mpr (nI_le (by omega) (by omega))), lr_108_16 h, ld_113 h hl, hw]
    have drop : (decide (i < k) && !b.testBit i) = false → X9_valueOf_j45 again 108 (nI b) (nI l) (nI (vst (fun i => decide (i < k) && !b.testBit i) i).1) (nI (vst (fun i => decide (i < k) && !b.testBit i) i).2) (nI i) (c, w, S, D, K) = pm_oI (nI (vst (fun i => decide (i < k) && !b.testBit i) (k + 1)).1) (c, w, S, D, K) := fun e => by
      simp only [e, Bool.false_eq_true, if_false] at hn1
      unfold X9_valueOf_j45 X9_valueOf_j58
      rw [lr_108_49 h, ld_580 h (by omega), hv _ (by omega), nI_xor, ly_bI, ly_bI, nI_1]
      exact hn1
    by_cases hik : k ≤ i
    · rw [if_pos (nI_le hik (by omega))]
      exact drop (by rw [decide_eq_false (by omega), Bool.false_and])
    · rw [if_neg (nI_ge (by omega) (by omega)), rm_has hb (by omega), ly_cI]
      cases hbb : b.testBit i
      · have e : (decide (i < k) && !b.testBit i) = true := by rw [hbb, decide_eq_true (by omega)]; rfl
        simp only [e, if_true] at hn1
        rw [ib0, ly_bI, nI_1]
        unfold X9_valueOf_j58
        rw [ly_bI, nI_1]
        exact hn1
      · rw [ib1]
        exact drop (by rw [hbb]; simp)
  · intro again _ _
    unfold X9_valueOf_L8
    simp only
    rw [lr_108_16 h, ld_113 h hl, hw, if_pos (nI_lt (by omega) (by omega))]
theorem ca_value (y : Int32) (h : ly c S) (hJ : JJ I n wd q r a se W G) : ag isI (I 0) c w S (fun k => 1 - k) (X8_value 64 y (c, w, S, I, K)) (X9_value 108 y) := by
  obtain ⟨hPC, hPM, hDC, hDM, hr, hT, hS, hH, hc, hk, hL⟩ := id hJ
  have hW := hPC.1
  have hn6 := hW.1
  by_cases hy : y < 0 ∨ nI n ≤ y
  · refine ag_no (K := K) (k := 0) (b := .int 0) h hJ (by omega) ⟨_, rfl⟩ ?_ (fun c1 w1 S1 I1 K2 h1 hI => ?_)
    · unfold X8_value
      rw [lc_64 h, ml_no h hPC hy, rx_cV]
    · unfold X9_value X9_value_j19
      rw [lp_108 h1, lc_108 h1, il_no h1 (by rw [u0 (by omega), hI 108 13 (by omega) (by omega)]; exact hPM.2.1) hn6 hy, ly_cI, i00, lc_108 h1, bad_10 h1, ly_cI, i10]
  · have hy0 : ¬ y < 0 := fun e => hy (Or.inl e)
    obtain ⟨l, hl31, rfl⟩ := nI_of hy0
    have hl : l < n := by
      rcases Nat.lt_or_ge l n with e | e
      · exact e
      · exact absurd (Or.inr (nI_le e (by omega))) hy
    have hw := hW.2.1 l hl
    have hsl := (hr.1 l (by omega)).2
    have hp := pg_pow hW l
    have hv := vst_e (wd l) (by omega) (rd_s r l) hsl
    refine ag_ro (v := .int (nI (vst (fun i => (2 ^ wd l - 1 - rd_s r l).testBit i) 9).1)) (I1 := I) (K1 := K) h hJ ⟨_, rfl⟩ ?_ same_r (fun hJ1 K2 => ?_)
    · unfold X8_value
      rw [lc_64 h, ml_ok h hPC hl, ly_cV, lr_64_8 h, lc_93 h, rd_leftBits h hPC (Or.inl rfl) hDC hr hl, ly_cI, vo_C h hk (by omega), ly_cI]
    · obtain ⟨-, hPM1, -, hDM1, -, -, -, -, -, -, -⟩ := JJ_same hJ (s0 (I := I))
      obtain ⟨D, d1, d2, d3⟩ := lq_M (w := w) (K := K2) (A := ly_u I 108 0 0) h
      refine ⟨D, K2, ?_, by rw [d2 108 0 (by unfold PV; omega)]; exact z0', fun i j hn => (d2 i j (by unfold sc at hn; unfold PV; omega)).trans (s0 i j hn), rfl⟩
      have e5 : D 535 l = nI (rd_s r l) := by rw [d2 535 l (by unfold PV; omega)]; exact dm_s hDM1 hr (by omega)
      unfold X9_value X9_value_j19
      rw [lp_108 h, lc_108 h, il_ok h hPM1.2.1 hn6 hl, ly_cI, i10, lc_108 h, bad_z h, ly_cI, i00, lc_108 h, d1, ly_cV, lr_108_29 h, show (0 : Int32) + nI l = nI l from Int32.zero_add _, ld_535 h (by omega), e5, lc_108 h, vo_M (k := wd l) h (by omega) (by omega) (by rw [d2 113 l (by unfold PV; omega)]; exact hPM1.2.2.1 l (by omega)) d3 (by omega), ly_cI, hv]
end VAL
