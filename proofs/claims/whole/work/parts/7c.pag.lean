/-! a page read: the call -/
section PAL
variable {c w : Nat} {S : Nat → pmS} {I I1 I2 J J1 A B E : Nat → Nat → Int32} {K K2 : Nat → Nat → Int64} {T : Nat → Nat} {L p g n : Nat} {s v x : Int32} {wd : Nat → Nat} {q : Nat → Nat → Nat} {r : Nat → Int32} {a : Nat} {se : Nat → Nat} {W G : Nat}
def PH (i j : Nat) : Prop := (i = 108 ∧ (j = 13 ∨ j = 19 ∨ j = 33 ∨ j = 34 ∨ j = 35 ∨ j = 36)) ∨ i = 113 ∨ (122 ≤ i ∧ i ≤ 127) ∨ i = 535
/-- what beginsAnew makes -/
def BA (A D : Nat → Nat → Int32) (n : Nat) : Prop := only PH A D ∧ D 108 13 = nI n ∧ (∀ l, l < 6 → D 113 l = if l < n then A 112 l else nI 0) ∧ (∀ l, l < n → ∀ i, i < 8 → D (122 + l) i = A (115 + l) i) ∧ (∀ l, l < 6 → D 535 l = nI 0) ∧ (∀ k, k < 4 → D 535 (6 + k) = A 111 k) ∧ D 535 10 = A 108 12 ∧ (∀ k, 11 ≤ k → k < 14 → D 535 k = nI 0) ∧ D 108 19 = nI 0 ∧ D 108 33 = nI 0 ∧ D 108 34 = nI 0 ∧ D 108 35 = nI 0 ∧ D 108 36 = nI 0
theorem ba_M (h : ly c S) (hn : n ≤ 6) (e11 : A 108 11 = nI n) : ∃ D, X9_beginsAnew 108 (c, w, S, A, K) = pm_oV (c, w, S, D, K) ∧ BA A D n := by
  unfold X9_beginsAnew
  rw [lg_108 h, e11, lp_108 h]
  have o0 : only PH A (ly_u A 108 13 (nI n)) := only_u only_r (by unfold PH; omega)
  have e13 : ly_u A 108 13 (nI n) 108 13 = nI n := by rw [ly_uE, if_pos ⟨rfl, rfl⟩]
  generalize ly_u A 108 13 (nI n) = A0 at o0 e13 ⊢
  refine ly_loop (fun l (E : Nat → Nat → Int32) => ((nI l, (c, w, S, E, K)) : Int32 × pmM)) 6 (fun l E => only PH A E ∧ E 108 13 = nI n ∧ ∀ u, u < l → E 113 u = if u < n then A 112 u else nI 0) (fun R => ∃ D, R = pm_oV (c, w, S, D, K) ∧ BA A D n) ?_ ?_ pm_N 0 A0 ⟨o0, e13, fun u hu => by omega⟩ (by omega) (by rw [pm_NE]; omega)
  · intro again l E hl hQ hnx
    obtain ⟨q1, q2, q3⟩ := hQ
    unfold X9_beginsAnew_L10 X9_beginsAnew_j39
    simp only
    rw [if_neg (show ¬ (6 : Int32) ≤ nI l from nI_ge (b := 6) hl (by omega)), lr_108_16 h, lg_108 h, q2]
    by_cases hln : l < n
    · rw [if_neg (nI_ge hln (by omega)), lr_108_15 h, ld_112 h hl, q1 112 l (by unfold PH; omega), ls_113 h hl, ly_bI, nI_1]
      refine hnx _ ⟨only_u q1 (by unfold PH; omega), by rw [ly_uE, if_neg (by omega)]; exact q2, fun u hu => ?_⟩
      by_cases e : u = l
      · subst e; rw [ly_uE, if_pos ⟨rfl, rfl⟩, if_pos hln]
      · rw [ly_uE, if_neg (by omega)]; exact q3 u (by omega)
    · rw [if_pos (nI_le (by omega) (by omega)), ls_113 h hl, ly_bI, nI_1]
      refine hnx _ ⟨only_u q1 (by unfold PH; omega), by rw [ly_uE, if_neg (by omega)]; exact q2, fun u hu => ?_⟩
      by_cases e : u = l
      · subst e; rw [ly_uE, if_pos ⟨rfl, rfl⟩, if_neg hln]; rfl
      · rw [ly_uE, if_neg (by omega)]; exact q3 u (by omega)
  · intro again E hQ
    obtain ⟨q1, q2, q3⟩ := hQ
    obtain ⟨Z, z1, z2, z3⟩ := la_M (w := w) (K := K) (A := E) h hn
    unfold X9_beginsAnew_L10
    simp only
    rw [if_pos (show (6 : Int32) ≤ nI 6 by decide), lr_108_17 h, lr_108_18 h, lg_108 h, q2, z1, ly_cV]
    have oZ : only PH A Z := only_t q1 (only_m z2 (fun i j e => by unfold PH; omega))
    have w13 : Z 108 13 = nI n := by rw [z2 108 13 (by omega)]; exact q2
    have w113 : ∀ l, l < 6 → Z 113 l = if l < n then A 112 l else nI 0 := fun l hl => by rw [z2 113 l (by omega)]; exact q3 l hl
    have w122 : ∀ l, l < n → ∀ i, i < 8 → Z (122 + l) i = A (115 + l) i := fun l hl i hi => by rw [z3 l hl i hi, q1 (115 + l) i (by unfold PH; omega)]
    refine ly_loop (fun k (E : Nat → Nat → Int32) => ((nI k, (c, w, S, E, K)) : Int32 × pmM)) 14 (fun k E => but 535 Z E ∧ ∀ u, u < k → E 535 u = nI 0) (fun R => ∃ D, R = pm_oV (c, w, S, D, K) ∧ BA A D n) ?_ ?_ pm_N 0 Z ⟨but_r, fun u hu => by omega⟩ (by omega) (by rw [pm_NE]; omega)
    · intro again2 k E2 hk hQ2 hn2
      obtain ⟨p1, p2⟩ := hQ2
      unfold X9_beginsAnew_L63
      simp only
      rw [if_neg (show ¬ (14 : Int32) ≤ nI k from nI_ge (b := 14) hk (by omega)), lr_108_29 h, ls_535 h hk, ly_bI, nI_1]
      refine hn2 _ ⟨but_u p1, fun u hu => ?_⟩
      by_cases e : u = k
      · subst e; rw [ly_uE, if_pos ⟨rfl, rfl⟩]; rfl
      · rw [ly_uE, if_neg (by omega)]; exact p2 u (by omega)
    · intro again2 E2 hQ2
      obtain ⟨p1, p2⟩ := hQ2
      unfold X9_beginsAnew_L63
      simp only
      rw [if_pos (show (14 : Int32) ≤ nI 14 by decide)]
      refine ly_loop (fun k (E : Nat → Nat → Int32) => ((nI k, (c, w, S, E, K)) : Int32 × pmM)) 4 (fun k E => but 535 Z E ∧ (∀ u, u < k → E 535 (6 + u) = A 111 u) ∧ ∀ u, u < 14 → ¬ (6 ≤ u ∧ u < 6 + k) → E 535 u = nI 0) (fun R => ∃ D, R = pm_oV (c, w, S, D, K) ∧ BA A D n) ?_ ?_ pm_N 0 E2 ⟨p1, fun u hu => by omega, fun u hu _ => p2 u hu⟩ (by omega) (by rw [pm_NE]; omega)
      · intro again3 k E3 hk hQ3 hn3
        obtain ⟨m1, m2, m3⟩ := hQ3
        unfold X9_beginsAnew_L84
        simp only
        rw [if_neg (show ¬ (4 : Int32) ≤ nI k from nI_ge (b := 4) hk (by omega)), lr_108_29 h, lr_108_14 h, ld_111 h hk, m1 111 k (by omega), oZ 111 k (by unfold PH; omega), show (6 : Int32) + nI k = nI (6 + k) from nI_add 6 k, ls_535 h (by omega), ly_bI, nI_1]
        refine hn3 _ ⟨but_u m1, fun u hu => ?_, fun u hu hn => ?_⟩
        · by_cases e : u = k
          · subst e; rw [ly_uE, if_pos ⟨rfl, rfl⟩]
          · rw [ly_uE, if_neg (by omega)]; exact m2 u (by omega)
        · rw [ly_uE, if_neg (by omega)]; exact m3 u hu (by omega)
      · intro again3 E3 hQ3
        obtain ⟨m1, m2, m3⟩ := hQ3
        unfold X9_beginsAnew_L84
        simp only
        rw [if_pos (show (4 : Int32) ≤ nI 4 by decide), lr_108_29 h, lg_108 h, m1 108 12 (by omega), oZ 108 12 (by unfold PH; omega), st_i (i := 10) 10 rfl, ls_535 h (by omega), lp_108 h, lp_108 h, lp_108 h, lp_108 h, lp_108 h]
        have oE : only PH A E3 := only_t oZ (fun i j hn => m1 i j (fun e => hn (by unfold PH; omega)))
        have fz : ∀ i j, i ≠ 108 → ly_u (ly_u (ly_u (ly_u (ly_u (ly_u E3 535 10 (A 108 12)) 108 19 0) 108 33 0) 108 34 0) 108 35 0) 108 36 0 i j = ly_u E3 535 10 (A 108 12) i j := fun i j n1 => by rw [ly_uE, if_neg (by omega), ly_uE, if_neg (by omega), ly_uE, if_neg (by omega), ly_uE, if_neg (by omega), ly_uE, if_neg (by omega)]
        refine ⟨_, rfl, only_u (only_u (only_u (only_u (only_u (only_u oE (by unfold PH; omega)) (by unfold PH; omega)) (by unfold PH; omega)) (by unfold PH; omega)) (by unfold PH; omega)) (by unfold PH; omega), ?_, fun l hl => ?_, fun l hl i hi => ?_, fun l hl => ?_, fun k hk => ?_, ?_, fun k hk hk2 => ?_, ?_, ?_, ?_, ?_, ?_⟩
        · rw [ly_uE, if_neg (by omega), ly_uE, if_neg (by omega), ly_uE, if_neg (by omega), ly_uE, if_neg (by omega), ly_uE, if_neg (by omega), ly_uE, if_neg (by omega), m1 108 13 (by omega)]; exact w13
        · rw [fz _ _ (by omega), ly_uE, if_neg (by omega), m1 113 l (by omega)]; exact w113 l hl
        · rw [fz _ _ (by omega), ly_uE, if_neg (by omega), m1 _ _ (by omega)]; exact w122 l hl i hi
        · rw [fz _ _ (by omega), ly_uE, if_neg (by omega)]; exact m3 l (by omega) (by omega)
        · rw [fz _ _ (by omega), ly_uE, if_neg (by omega)]; exact m2 k hk
        · rw [fz _ _ (by omega), ly_uE, if_pos ⟨rfl, rfl⟩]
        · rw [fz _ _ (by omega), ly_uE, if_neg (by omega)]; exact m3 k (by omega) (by omega)
        all_goals (simp [ly_uE] <;> rfl)
/-- where a text alone was read, with a fault or not -/
theorem JJ_t (hJ : JJ I n wd q r a se W G) (ho : ∀ i j, dA i j → i ≠ 65 → ¬ (i = 108 ∧ (j = 1 ∨ j = 3)) → I2 i j = I i j) (ht : jt I2) : JJ I2 n wd q r a se W G := by
  obtain ⟨h1, h2, h3, h4, h5, h6, h7, h8, h9, h10, h11⟩ := hJ
  refine ⟨pg_C_c h1 ?_, pg_M_c h2 ?_, dk_C_c h3 ?_, dk_M_c h4 ?_, h5, ht, js_c h7 ?_, jh_c h8 ?_, jc_c h9 ?_, jk_c h10 ?_, jl_c h11 ?_⟩
  · intro i j e; exact ho i j (by unfold dA; simp [e]) (by unfold dPC at e; omega) (by unfold dPC at e; omega)
  · intro i j e; exact ho i j (by unfold dA; simp [e]) (by unfold dPM at e; omega) (by unfold dPM at e; omega)
  · intro i j e; exact ho i j (by unfold dA; simp [e]) (by unfold dDC at e; omega) (by unfold dDC at e; omega)
  · intro i j e; exact ho i j (by unfold dA; simp [e]) (by unfold dDM at e; omega) (by unfold dDM at e; omega)
  · intro i j e; exact ho i j (by unfold dA; simp [e]) (by unfold dS at e; omega) (by unfold dS at e; omega)
  · intro i j e; exact ho i j (by unfold dA; simp [e]) (by unfold dH at e; omega) (by unfold dH at e; omega)
  · intro i j e; exact ho i j (by unfold dA; simp [e]) (by unfold dCC at e; omega) (by unfold dCC at e; omega)
  · intro i j e; exact ho i j (by unfold dA; simp [e]) (by unfold dK at e; omega) (by unfold dK at e; omega)
  · intro i j e; exact ho i j (by unfold dA; simp [e]) (by unfold dL at e; omega) (by unfold dL at e; omega)
/-- the text as a function -/
theorem jt_T (hT : jt I) : ∃ T : Nat → Nat, (∀ k, k < 600 → I 66 k = nI (T k) ∧ I 109 k = nI (T k) ∧ T k < 256) := by
  refine ⟨fun k => nz (I 109 k), fun k hk => ?_⟩
  obtain ⟨e1, b, hb, e2⟩ := hT.2.1 k hk
  have : nz (I 109 k) = b := by unfold nz; rw [e2, nI_clamp (by omega)]
  simp only
  rw [this, e1, e2]
  exact ⟨rfl, rfl, hb⟩
theorem op_B {N : Nat} (hT : ∀ k, k < 600 → I 66 k = nI (T k) ∧ I 109 k = nI (T k) ∧ T k < 256) (hN : N ≤ 600) : tB (opn I N) T N ∧ opn I N 65 3 = nI 0 ∧ opn I N 65 1 = nI 0 ∧ opn I N 65 7 = -1 ∧ ∀ i j, i ≠ 65 → opn I N i j = I i j := by
  have ho : ∀ i j, i ≠ 65 → opn I N i j = I i j := fun i j n1 => by unfold opn; rw [ly_uE, if_neg (by omega), ly_uE, if_neg (by omega), ly_uE, if_neg (by omega), ly_uE, if_neg (by omega), ly_uE, if_neg (by omega)]
  refine ⟨⟨?_, hN, fun k hk => ?_⟩, ?_, ?_, ?_, ho⟩
  · simp [opn, ly_uE]
  · rw [ho 66 k (by omega)]; exact ⟨(hT k hk).1, (hT k hk).2.2⟩
  · simp [opn, ly_uE]
  · simp [opn, ly_uE]
  · simp [opn, ly_uE]
end PAL
