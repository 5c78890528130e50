/-! often -/
section OFT
variable {c w : Nat} {S : Nat → pmS} {I I1 I2 J A D : Nat → Nat → Int32} {K K1 K2 : Nat → Nat → Int64} {n : Nat} {wd : Nat → Nat} {q : Nat → Nat → Nat} {r : Nat → Int32} {a : Nat} {se : Nat → Nat} {W G d : Nat} {s : Nat → Nat} {X Y : Nat → Nat}
def tfc (X Y : Nat → Nat) (y : Nat) : Nat → Nat
  | 0 => 0
  | p + 1 => tfc X Y y p + (if X p = 0 ∧ Y p = y then 1 else 0)
theorem tfc_s {y p : Nat} : tfc X Y y (p + 1) = tfc X Y y p + (if X p = 0 ∧ Y p = y then 1 else 0) := rfl
theorem tfc_le {y : Nat} : ∀ {p : Nat}, tfc X Y y p ≤ p
  | 0 => Nat.le_refl _
  | p + 1 => by
    have := tfc_le (y := y) (p := p)
    rw [tfc_s]
    split <;> omega
def flx (wd s : Nat → Nat) (n : Nat) : Nat → Nat := flw wd (fun l i => if (s l).testBit i then 1 else 0) n
theorem ts_C {y : Nat} (h : ly c S) (hP : pg_C I n wd q) (hC : dk_C I 93 r) (hr : dk_W n wd r) (hy : y < 16) : X0_timesSaid 93 (nI y) (c, w, S, I, K) = pm_oI (nI (tfc (flx wd (rd_s r) n) (flw wd q n) y (rd_sum wd n))) (c, w, S, I, K) := by
  have hW := hP.1
  have hn6 := hW.1
  unfold X0_timesSaid
  refine ly_loop (fun l (_ : Unit) => ((nI (tfc (flx wd (rd_s r) n) (flw wd q n) y (rd_sum wd l)), nI l, (c, w, S, I, K)) : Int32 × Int32 × pmM)) n (fun _ _ => True) (fun R => R = pm_oI (nI (tfc (flx wd (rd_s r) n) (flw wd q n) y (rd_sum wd n))) (c, w, S, I, K)) ?_ ?_ pm_N 0 () trivial (by omega) (by rw [pm_NE]; omega)
  · intro again l _ hl _ hnx
    have hw := hW.2.1 l hl
    unfold X0_timesSaid_L4
    simp only
    rw [lr_93_0 h, lg_67 h, hP.2.1, if_neg (nI_ge hl (by omega)), lc_93 h, rd_leftBits h hP (Or.inl rfl) hC hr hl, ly_cI]
    refine ly_loop (fun i (_ : Unit) => ((nI (tfc (flx wd (rd_s r) n) (flw wd q n) y (rd_sum wd l + i)), nI i, (c, w, S, I, K)) : Int32 × Int32 × pmM)) (wd l) (fun _ _ => True) (fun R => R = pm_oI (nI (tfc (flx wd (rd_s r) n) (flw wd q n) y (rd_sum wd n))) (c, w, S, I, K)) ?_ ?_ pm_N 0 () trivial (by omega) (by rw [pm_NE]; omega)
    · intro again2 i _ hi _ hn2
      have hq16 := hW.2.2.2 l i hl hi
      have hst := tfc_s (X := flx wd (rd_s r) n) (Y := flw wd q n) (y := y) (p := rd_sum wd l + i)
      rw [flw_e hl hi, show flx wd (rd_s r) n (rd_sum wd l + i) = (if (rd_s r l).testBit i then 1 else 0) from flw_e hl hi] at hst
      have hn3 := hn2 () trivial
      rw [show rd_sum wd l + (i + 1) = rd_sum wd l + i + 1 by omega, hst] at hn3
      unfold X0_timesSaid_L25
      simp only
      rw [lr_93_0 h, lr_67_0 h, ld_68 h (by omega), hP.2.2.1 l hl, if_neg (nI_ge hi (by omega)), show ((nI (2 ^ wd l - 1 - rd_s r l) >>> (nI i &&& 31)) &&& 1) = nI (if (rd_s r l).testBit i then 0 else 1) from lb_bit (wd l) (by omega) _ (hr.1 l (by omega)).2 i hi]
      cases hb : (rd_s r l).testBit i
      · rw [hb] at hn3
        rw [if_pos (show nI (if false = true then 0 else 1) = 1 from rfl), lr_93_0 h, lc_67 h, rd_wordAt h hP (by omega) (by omega), ly_cI, show rd_q n wd q l i = q l i from if_pos ⟨hl, hi⟩]
        by_cases hq : q l i = y
        · rw [if_pos (by rw [hq]), ly_bI, nI_1]
          unfold X0_timesSaid_j67
          rw [ly_bI, nI_1]
          rw [if_pos ⟨rfl, hq⟩] at hn3
          exact hn3
        · rw [if_neg (fun e => hq ((nI_eq (by omega) (by omega)).mp e))]
          unfold X0_timesSaid_j67
          rw [ly_bI, nI_1]
          rw [if_neg (fun e => hq e.2)] at hn3
          exact hn3
      · rw [hb] at hn3
        rw [if_neg (show ¬ nI (if true = true then 0 else 1) = 1 from by decide)]
        unfold X0_timesSaid_j67
        rw [ly_bI, nI_1]
        rw [if_neg (fun e => absurd e.1 (by decide))] at hn3
        exact hn3
    · intro again2 _ _
      unfold X0_timesSaid_L25
      simp only
      rw [lr_93_0 h, lr_67_0 h, ld_68 h (by omega), hP.2.2.1 l hl, if_pos (nI_le (Nat.le_refl _) (by omega)), ly_bI, nI_1]
      exact hnx () trivial
  · intro again _ _
    unfold X0_timesSaid_L4
    simp only
    rw [lr_93_0 h, lg_67 h, hP.2.1, if_pos (nI_le (Nat.le_refl _) (by omega))]
/-- the word said most often: how often, and which -/
def sel (T : Nat → Nat) : Nat → Nat × Int32
  | 0 => (0, -1)
  | y + 1 => if T y ≤ (sel T y).1 then sel T y else (T y, nI y)
theorem sel_s {T : Nat → Nat} {y : Nat} : sel T (y + 1) = if T y ≤ (sel T y).1 then sel T y else (T y, nI y) := rfl
theorem sel_i {T : Nat → Nat} : ∀ y, ((sel T y).2 = -1 ∧ (sel T y).1 = 0) ∨ ∃ u, u < y ∧ (sel T y).2 = nI u ∧ T u = (sel T y).1 ∧ 0 < (sel T y).1
  | 0 => Or.inl ⟨rfl, rfl⟩
  | y + 1 => by
    rw [sel_s]
    by_cases e : T y ≤ (sel T y).1
    · rw [if_pos e]
      rcases sel_i y with h | ⟨u, h1, h2⟩
      · exact Or.inl h
      · exact Or.inr ⟨u, by omega, h2⟩
    · rw [if_neg e]
      exact Or.inr ⟨y, by omega, rfl, rfl, by simp only; omega⟩
def ofr (T : Nat → Nat) (x : Int32) : Int32 := if (sel T 16).2 = -1 then -1 else if x = 0 then (sel T 16).2 else nI (sel T 16).1
theorem so_C {x : Int32} {T : Nat → Nat} (h : ly c S) (hT : ∀ y, y < 16 → T y ≤ 48 ∧ X0_timesSaid 93 (nI y) (c, w, S, I, K) = pm_oI (nI (T y)) (c, w, S, I, K)) : pm_lp pm_N (X8_often_L25 64 x) (0, -1, 0, (c, w, S, I, K)) = pm_oI (ofr T x) (c, w, S, I, K) := by
  refine ly_loop (fun y (_ : Unit) => ((nI (sel T y).1, (sel T y).2, nI y, (c, w, S, I, K)) : Int32 × Int32 × Int32 × pmM)) 16 (fun y _ => (sel T y).1 ≤ 48) (fun R => R = pm_oI (ofr T x) (c, w, S, I, K)) ?_ ?_ pm_N 0 () (Nat.zero_le _) (by omega) (by rw [pm_NE]; omega)
  · intro again y _ hy hQ hn
    obtain ⟨t1, t2⟩ := hT y hy
    rw [sel_s] at hn
    unfold X8_often_L25
    simp only
    rw [if_neg (show ¬ (15 : Int32) < nI y from Int32.not_lt.mpr (nI_le (b := 15) (by omega) (by omega))), lr_64_8 h, lc_93 h, t2, ly_cI]
    by_cases e : T y ≤ (sel T y).1
    · rw [if_pos (nI_le e (by omega))]
      rw [if_pos e] at hn
      unfold X8_often_j55
      rw [ly_bI, nI_1]
      exact hn () hQ
    · rw [if_neg (nI_ge (by omega) (by omega))]
      rw [if_neg e] at hn
      unfold X8_often_j55
      rw [ly_bI, nI_1]
      exact hn () t1
  · intro again _ hQ
    unfold X8_often_L25 X8_often_j77 ofr
    simp only
    rw [if_pos (show (15 : Int32) < nI 16 from by decide)]
    split
    · rfl
    · split <;> rfl
theorem so_M {x : Int32} {T : Nat → Nat} (h : ly c S) (hT : ∀ y, y < 16 → T y ≤ 48 ∧ D 593 y = nI (T y)) : pm_lp pm_N (X9_often_L100 108 x) (-1, 0, (c, w, S, D, K)) = pm_oI (ofr T x) (c, w, S, D, K) := by
  have hne : ∀ u, u < 16 → ¬ nI u = -1 := by decide
  refine ly_loop (fun y (_ : Unit) => (((sel T y).2, nI y, (c, w, S, D, K)) : Int32 × Int32 × pmM)) 16 (fun _ _ => True) (fun R => R = pm_oI (ofr T x) (c, w, S, D, K)) ?_ ?_ pm_N 0 () trivial (by omega) (by rw [pm_NE]; omega)
  · intro again y _ hy _ hn
    obtain ⟨t1, t2⟩ := hT y hy
    have hn1 := hn () trivial
    rw [sel_s] at hn1
    unfold X9_often_L100
    simp only
    rw [if_neg (show ¬ (16 : Int32) ≤ nI y from nI_ge (b := 16) hy (by omega)), lr_108_53 h, ld_593 h hy, t2]
    have keep : T y ≤ (sel T y).1 → X9_often_j143 again 108 x (sel T y).2 (nI y) (c, w, S, D, K) = pm_oI (ofr T x) (c, w, S, D, K) := fun e => by
      rw [if_pos e] at hn1
      unfold X9_often_j143 X9_often_j144
      rw [ly_bI, nI_1]
      exact hn1
    have take : ¬ T y ≤ (sel T y).1 → X9_often_j138 again 108 x (nI y) (c, w, S, D, K) = pm_oI (ofr T x) (c, w, S, D, K) := fun e => by
      rw [if_neg e] at hn1
      unfold X9_often_j138 X9_often_j144
      rw [ly_bI, nI_1]
      exact hn1
    by_cases h0 : T y ≤ 0
    · rw [if_pos (show nI (T y) ≤ 0 from (show nI (T y) ≤ nI 0 from nI_le h0 (by omega)))]
      exact keep (by omega)
    · rw [if_neg (show ¬ nI (T y) ≤ 0 from (show ¬ nI (T y) ≤ nI 0 from nI_ge (by omega) (by omega)))]
      rcases sel_i (T := T) y with ⟨e1, e2⟩ | ⟨u, e0, e1, e2, e3⟩
      · rw [if_pos e1]
        exact take (by omega)
      · obtain ⟨u1, u2⟩ := hT u (by omega)
        rw [if_neg (by rw [e1]; exact hne u (by omega)), lr_108_53 h, ld_593 h hy, lr_108_53 h, e1, ld_593 h (by omega), t2, u2, e2]
        rw [e1] at keep
        by_cases e : T y ≤ (sel T y).1
        · rw [if_pos (nI_le e (by omega))]
          exact keep e
        · rw [if_neg (nI_ge (by omega) (by omega))]
          exact take e
  · intro again _ _
    unfold X9_often_L100 X9_often_j160 X9_often_j170 ofr
    simp only
    rw [if_pos (show (16 : Int32) ≤ nI 16 from by decide)]
    rcases sel_i (T := T) 16 with ⟨e1, e2⟩ | ⟨u, e0, e1, e2, e3⟩
    · rw [e1, if_pos rfl, if_pos rfl]
      split <;> rfl
    · rw [e1, if_neg (hne u e0), if_neg (hne u e0)]
      by_cases hx : x = 0
      · rw [if_pos hx, if_pos hx]
      · rw [if_neg hx, if_neg hx, lr_108_53 h, ld_593 h e0, (hT u e0).2, e2]
def PO (i _j : Nat) : Prop := i = 593 ∨ i = 558 ∨ i = 559 ∨ i = 560
theorem ct_M {x : Int32} {N : Nat} (h : ly c S) (hN : N ≤ 48) (hX : ∀ p, p < N → D 559 p = nI (X p) ∧ X p ≤ 1) (hY : ∀ p, p < N → D 558 p = nI (Y p) ∧ Y p < 16) (h0 : ∀ y, y < 16 → D 593 y = 0) : ∃ E, pm_lp pm_N (X9_often_L61 108 x (nI N) (-1)) (0, (c, w, S, D, K)) = pm_oI (ofr (fun y => tfc X Y y N) x) (c, w, S, E, K) ∧ only PO D E := by
  refine ly_loop (fun p (E : Nat → Nat → Int32) => ((nI p, (c, w, S, E, K)) : Int32 × pmM)) N (fun p E => only (fun i _ => i = 593) D E ∧ ∀ y, y < 16 → E 593 y = nI (tfc X Y y p)) (fun R => ∃ E, R = pm_oI (ofr (fun y => tfc X Y y N) x) (c, w, S, E, K) ∧ only PO D E) ?_ ?_ pm_N 0 D ⟨only_r, h0⟩ (by omega) (by rw [pm_NE]; omega)
  · intro again p E hp hQ hn
    obtain ⟨q1, q2⟩ := hQ
    obtain ⟨x1, x2⟩ := hX p hp
    obtain ⟨y1, y2⟩ := hY p hp
    unfold X9_often_L61
    simp only
    rw [if_neg (nI_ge hp (by omega)), lr_108_53 h, lr_108_40 h, ld_558 h (by omega), q1 558 p (by omega), y1, ld_593 h y2, q2 _ y2, lr_108_41 h, ld_559 h (by omega), q1 559 p (by omega), x1, ls_593 h y2, ly_bI, nI_1]
    refine hn _ ⟨only_u q1 rfl, fun y hy => ?_⟩
    rw [ly_uE, tfc_s]
    by_cases e : y = Y p
    · rw [if_pos ⟨rfl, e⟩, e]
      rcases (show X p = 0 ∨ X p = 1 by omega) with e2 | e2
      · rw [e2, if_pos ⟨rfl, rfl⟩, show (1 : Int32) - nI 0 = 1 from by decide, nI_1]
      · rw [e2, if_neg (fun e => absurd e.1 (by omega)), show (1 : Int32) - nI 1 = 0 from by decide]
        exact Int32.add_zero _
    · rw [if_neg (fun e2 => e e2.2), if_neg (fun e2 => e e2.2.symm)]
      exact q2 y hy
  · intro again E hQ
    obtain ⟨q1, q2⟩ := hQ
    unfold X9_often_L61
    simp only
    rw [if_pos (nI_le (Nat.le_refl _) (by omega)), so_M (T := fun y => tfc X Y y N) h (fun y hy => ⟨Nat.le_trans tfc_le hN, q2 y hy⟩)]
    exact ⟨E, rfl, only_m q1 (fun i j e => Or.inl e)⟩
theorem ca_often (x : Int32) (h : ly c S) (hJ : JJ I n wd q r a se W G) : ag isI (I 0) c w S (fun k => k) (X8_often 64 x (c, w, S, I, K)) (X9_often 108 x) := by
  obtain ⟨hPC, hPM, hDC, hDM, hr, hT, hS, hH, hc, hk, hL⟩ := id hJ
  have hW := hPC.1
  have hn6 := hW.1
  have hsm := sum_48 hW (Nat.le_refl n)
  by_cases hx : 0 ≤ x ∧ x ≤ 1
  case neg =>
    refine ag_no (K := K) (k := 1) (b := .int 0) h hJ (by omega) ⟨_, rfl⟩ ?_ (fun c1 w1 S1 I1 K2 h1 hI => ?_)
    · unfold X8_often X8_often_j15
      rw [if_neg (fun e => hx (by rw [e]; decide)), if_neg (fun e => hx (by rw [e]; decide)), lc_64 h, mu_cV h]
    · unfold X9_often X9_often_j20
      rw [lp_108 h1, rm_in, ly_cI, decide_eq_false hx, ib0, lc_108 h1, bad_11 h1, ly_cI, i10]
  have hx01 : x = 0 ∨ x = 1 := by
    obtain ⟨k, hk, rfl⟩ := nI_of2 (n := 1) rfl (nI_lt0 hx.1) hx.2
    rcases (show k = 0 ∨ k = 1 by omega) with rfl | rfl
    · exact Or.inl rfl
    · exact Or.inr rfl
  refine ag_ro (v := .int (ofr (fun y => tfc (flx wd (rd_s r) n) (flw wd q n) y (rd_sum wd n)) x)) (I1 := I) (K1 := K) h hJ ⟨_, rfl⟩ ?_ same_r (fun hJ1 K2 => ?_)
  · have e : X8_often 64 x (c, w, S, I, K) = X8_often_j15 64 x 1 64 (c, w, S, I, K) := by
      unfold X8_often X8_often_j10
      rcases hx01 with rfl | rfl
      · rw [if_pos rfl]
      · rw [if_neg (by decide), if_pos rfl]
    rw [e]
    unfold X8_often_j15
    rw [lc_64 h, mu_cV1, so_C (T := fun y => tfc (flx wd (rd_s r) n) (flw wd q n) y (rd_sum wd n)) h (fun y hy => ⟨Nat.le_trans tfc_le (by omega), ts_C h hPC hDC hr hy⟩)]
  · -- the model
    have key : ∃ E, pm_lp pm_N (X9_often_L32 108 x) (0, (c, w, S, ly_u I 108 0 0, K2)) = pm_oI (ofr (fun y => tfc (flx wd (rd_s r) n) (flw wd q n) y (rd_sum wd n)) x) (c, w, S, E, K2) ∧ only PO (ly_u I 108 0 0) E := by
      refine ly_loop (fun i (E : Nat → Nat → Int32) => ((nI i, (c, w, S, E, K2)) : Int32 × pmM)) 16 (fun i E => only (fun i _ => i = 593) (ly_u I 108 0 0) E ∧ ∀ y, y < i → E 593 y = 0) (fun R => ∃ E, R = pm_oI (ofr (fun y => tfc (flx wd (rd_s r) n) (flw wd q n) y (rd_sum wd n)) x) (c, w, S, E, K2) ∧ only PO (ly_u I 108 0 0) E) ?_ ?_ pm_N 0 (ly_u I 108 0 0) ⟨only_r, fun y hy => by omega⟩ (by omega) (by rw [pm_NE]; omega)
      · intro again i E hi hQ hn
        unfold X9_often_L32
        simp only
        rw [if_neg (show ¬ (16 : Int32) ≤ nI i from nI_ge (b := 16) hi (by omega)), lr_108_53 h, ls_593 h hi, ly_bI, nI_1]
        refine hn _ ⟨only_u hQ.1 rfl, fun y hy => ?_⟩
        rw [ly_uE]
        by_cases e : y = i
        · rw [if_pos ⟨rfl, e⟩]
        · rw [if_neg (fun e2 => e e2.2)]; exact hQ.2 y (by omega)
      · intro again E hQ
        obtain ⟨q1, q2⟩ := hQ
        have hsE : same I E := fun i j hn => (q1 i j (by unfold sc at hn; omega)).trans (s0 i j hn)
        obtain ⟨-, hPM1, -, hDM1, -, -, -, -, -, -, -⟩ := JJ_same hJ hsE
        obtain ⟨D, d1, d2, d3⟩ := lz_M (w := w) (K := K2) h hPM1 hDM1 hr
        unfold X9_often_L32
        simp only
        rw [if_pos (show (16 : Int32) ≤ nI 16 from by decide), lc_108 h, d1, ly_cI]
        obtain ⟨F, f1, f2⟩ := ct_M (w := w) (K := K2) (D := D) (x := x) (X := flx wd (rd_s r) n) (Y := flw wd q n) (N := rd_sum wd n) h (by omega) (fun p hp => by
          obtain ⟨l, i, hl, hi, rfl⟩ := fl_ex hp
          rw [show flx wd (rd_s r) n (rd_sum wd l + i) = (if (rd_s r l).testBit i then 1 else 0) from flw_e hl hi]
          exact ⟨(d3 l hl i hi).2.1, by split <;> omega⟩) (fun p hp => by
          obtain ⟨l, i, hl, hi, rfl⟩ := fl_ex hp
          have := hW.2.2.2 l i hl hi
          rw [flw_e hl hi]; exact ⟨(d3 l hl i hi).1, this⟩) (fun y hy => by rw [d2 593 y (by unfold PZ; omega)]; exact q2 y hy)
        exact ⟨F, f1, only_t (only_t (only_m q1 (fun i j e => Or.inl e)) (only_m d2 (fun i j e => by unfold PZ at e; unfold PO; omega))) f2⟩
    obtain ⟨E, k1, k2⟩ := key
    refine ⟨E, K2, ?_, by rw [k2 108 0 (by unfold PO; omega)]; exact z0', fun i j hn => (k2 i j (by unfold sc at hn; unfold PO; omega)).trans (s0 i j hn), rfl⟩
    unfold X9_often X9_often_j20
    rw [lp_108 h, rm_in, ly_cI, decide_eq_true hx, ib1, lc_108 h, bad_z h, ly_cI, i00, k1]
end OFT
