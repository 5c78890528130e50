/-! sentence: both agree -/
section SEO
variable {c w : Nat} {S : Nat → pmS} {I I1 I2 J J1 A B E O : Nat → Nat → Int32} {K K2 : Nat → Nat → Int64} {T : Nat → Nat} {L p g n N : Nat} {s v x : Int32} {wd : Nat → Nat} {q : Nat → Nat → Nat} {r : Nat → Int32} {a : Nat} {se : Nat → Nat} {W G : Nat}
theorem sb_M {so : Nat} (h : ly c S) (hso : so ≤ 12) : ∃ D, pm_lp pm_N (X9_sentence_L126 108 (nI so)) (0, (c, w, S, A, K)) = pm_oI (nI so) (c, w, S, D, K) ∧ but 452 A D ∧ ∀ k, k < so → D 452 k = A 453 k := by
  refine ly_loop (fun i (E : Nat → Nat → Int32) => ((nI i, (c, w, S, E, K)) : Int32 × pmM)) so (fun i E => but 452 A E ∧ ∀ k, k < i → E 452 k = A 453 k) (fun R => ∃ D, R = pm_oI (nI so) (c, w, S, D, K) ∧ but 452 A D ∧ ∀ k, k < so → D 452 k = A 453 k) ?_ ?_ pm_N 0 A ⟨but_r, fun k hk => by omega⟩ (by omega) (by rw [pm_NE]; omega)
  · intro again i E hi hQ hn
    obtain ⟨q1, q2⟩ := hQ
    unfold X9_sentence_L126
    simp only
    rw [if_neg (nI_ge hi (by omega)), lr_108_25 h, lr_108_26 h, ld_453 h (by omega), q1 453 i (by omega), ls_452 h (by omega), ly_bI, nI_1]
    refine hn _ ⟨but_u q1, fun k hk => ?_⟩
    by_cases e : k = i
    · subst e; rw [ly_uE, if_pos ⟨rfl, rfl⟩]
    · rw [ly_uE, if_neg (by omega)]; exact q2 k (by omega)
  · intro again E hQ
    unfold X9_sentence_L126
    simp only
    rw [if_pos (nI_le (Nat.le_refl _) (by omega))]
    exact ⟨E, rfl, hQ⟩
def X8_snE (m4 : pmM) : pmR := pm_gR 8 64 5 m4 fun r6 => pm_gR 8 64 6 m4 fun r7 => pm_rc 3 r6 m4 <| pm_cV (X3_takeOver r6 r7 m4) fun m8 => pm_gR 8 64 5 m8 fun r9 => pm_gI 3 r9 1 m8 fun x10 => pm_oI x10 m8
theorem es_C (h : ly c S) : X8_snE (c, w, S, A, K) = pm_oI (A 85 1) (c, w, S, ly_u (ly_c A 86 0 84 0 12) 83 1 (A 85 1), K) := by
  unfold X8_snE X3_takeOver
  rw [lr_64_5 h, lr_64_6 h, lc_83 h, lr_85_0 h, lr_83_0 h, lcp (x := 0) (y := 0) (z := 12) (sp := 0) (dp := 0) (m := 12) 12 12 h rfl rfl rfl rfl (by omega) (by omega) (by omega) (by omega) rfl rfl rfl, lg_85 h, show ly_c A 86 0 84 0 12 85 1 = A 85 1 by rw [ly_cE, if_neg (by omega)], lp_83 h, ly_cV, lr_64_5 h, lg_83 h, show ly_u (ly_c A 86 0 84 0 12) 83 1 (A 85 1) 83 1 = A 85 1 by rw [ly_uE, if_pos ⟨rfl, rfl⟩]]
theorem ca_sentence (y : Int32) (h : ly c S) (hJ : JJ I n wd q r a se W G) : ag isI (I 0) c w S (fun k => k) (X8_sentence 64 y (c, w, S, I, K)) (X9_sentence 108 y) := by
  obtain ⟨hPC, hPM, hDC0, hDM, hr, hT, hS, hH, hc, hk, hL⟩ := id hJ
  obtain ⟨T, hTT⟩ := jt_T hT
  obtain ⟨⟨F, hF6, hF1, hF2⟩, hB, hfa⟩ := hT
  by_cases hy : 0 ≤ y ∧ y ≤ 60 ∧ y ≤ nI F
  case neg =>
    refine ag_no (K := K) (k := 1) (b := .int 0) h hJ (by omega) ⟨_, rfl⟩ ?_ (fun c1 w1 S1 I1 K2 h1 hI => ?_)
    · unfold X8_sentence
      rw [lc_64 h, op_no h hF1 hy, rx_cV]
    · have e1 : ly_u I1 108 0 0 108 1 = nI F := by rw [u0 (by omega), hI 108 1 (by omega) (by omega)]; exact hF2
      unfold X9_sentence X9_sentence_j24 X9_sentence_j29
      rw [lp_108 h1, lg_108 h1, e1, rm_in, ly_cI]
      by_cases hy2 : 0 ≤ y ∧ y ≤ nI F
      · rw [decide_eq_true hy2, ib1, if_neg (fun e => hy ⟨hy2.1, e, hy2.2⟩), lc_108 h1, bad_11 h1, ly_cI, i10]
      · rw [decide_eq_false hy2, ib0, lc_108 h1, bad_11 h1, ly_cI, i10]
  obtain ⟨N, hN31, rfl⟩ := nI_of (nI_lt0 hy.1)
  have hNF : N ≤ F := (nI_leI hN31 (by omega)).mp hy.2.2
  obtain ⟨hO, hO3, hO1, hO7, hOo⟩ := op_B (N := N) hTT (by omega)
  have hcl : ∀ RC : pmR, X3_readFrom 85 65 (c, w, S, opn I N, K) = RC → X8_sentence 64 (nI N) (c, w, S, I, K) = pm_cI RC fun x5 m4 => if x5 = 0 then (pm_gR 8 64 0 m4 fun r20 => pm_gI 7 r20 6 m4 fun x21 => pm_oI (x21 - 10) m4) else X8_snE m4 := fun RC hRC => by
    unfold X8_sentence
    rw [lc_64 h, op_ok h hF1 hF6 hNF hy.2.1, ly_cV, lr_64_6 h, lr_64_0 h, lc_85 h, hRC]
    rfl
  have hmo : ∀ (Dm : Nat → Nat → Int32) (K2 : Nat → Nat → Int64), Dm 108 1 = nI F → X9_sentence 108 (nI N) (c, w, S, Dm, K2) = (pm_cV (X9_starts 108 (nI N) (c, w, S, ly_u Dm 108 0 0, K2)) fun m7 => pm_lp pm_N (X9_sentence_L46 108) (0, m7)) := fun Dm K2 e => by
    unfold X9_sentence X9_sentence_j24 X9_sentence_j29
    rw [lp_108 h, lg_108 h, u0 (by omega), e, rm_in, ly_cI, decide_eq_true ⟨hy.1, hy.2.2⟩, ib1, if_pos hy.2.1, lc_108 h, bad_z h, ly_cI, i00, lc_108 h]
  obtain ⟨RM0, so, hso, hrO, -⟩ := sn_both (w := w) (K := K) (K2 := K) (J := I) h hO hO3 (fun k hk => ⟨(hTT k hk).2.1, (hTT k hk).2.2⟩)
  rcases hrO with ⟨I1, J1, p1, s1, v1, r1, -, o1, -, hS1⟩ | ⟨I1, J1, p1, p2, s1, v1, k1, q1, r1, -, hk1, o1, -⟩
  · -- read well
    have hCm : ∀ i j, i ≠ 65 → i ≠ 85 → i ≠ 86 → tx I1 p1 s1 v1 i j = I i j := fun i j n1 n2 n3 => by rw [tx_n n1, o1 i j (by unfold PS; omega), hOo i j n1]
    have hC1 : tx I1 p1 s1 v1 65 1 = nI 0 := by rw [tx_nj (by omega), o1 65 1 (by unfold PS; omega)]; exact hO1
    have hC7 : tx I1 p1 s1 v1 65 7 = -1 := by rw [tx_nj (by omega), o1 65 7 (by unfold PS; omega)]; exact hO7
    have hC85 : tx I1 p1 s1 v1 85 1 = nI so := by rw [tx_n (by omega)]; exact hS1.1
    have hcl2 := hcl _ r1
    rw [ly_cI, i10] at hcl2
    generalize tx I1 p1 s1 v1 = Cm at r1 hCm hC1 hC7 hC85 hcl2
    rw [es_C h, hC85] at hcl2
    have hD84 : ∀ k, k < 12 → ly_u (ly_c Cm 86 0 84 0 12) 83 1 (nI so) 84 k = Cm 86 k := fun k hk => by rw [ly_uE, if_neg (by omega), ly_cE, if_pos ⟨rfl, by omega, by omega⟩]; congr 1; omega
    have hD83 : ly_u (ly_c Cm 86 0 84 0 12) 83 1 (nI so) 83 1 = nI so := by rw [ly_uE, if_pos ⟨rfl, rfl⟩]
    have hDC : ∀ i j, i ≠ 84 → i ≠ 83 → ly_u (ly_c Cm 86 0 84 0 12) 83 1 (nI so) i j = Cm i j := fun i j n1 n2 => by rw [ly_uE, if_neg (by omega), ly_cE, if_neg (by omega)]
    generalize ly_u (ly_c Cm 86 0 84 0 12) 83 1 (nI so) = Dm at hcl2 hD84 hD83 hDC
    have hDm : ∀ i j, i ≠ 84 → i ≠ 83 → i ≠ 65 → i ≠ 85 → i ≠ 86 → Dm i j = I i j := fun i j n1 n2 n3 n4 n5 => by rw [hDC i j n1 n2]; exact hCm i j n3 n4 n5
    have e108 : Dm 108 1 = nI F := by rw [hDm 108 1 (by omega) (by omega) (by omega) (by omega) (by omega)]; exact hF2
    refine ⟨c, w, S, Dm, K, ⟨by omega, by omega, by omega, h, rfl, fun j => hDm 0 j (by omega) (by omega) (by omega) (by omega) (by omega)⟩, Or.inl ⟨.int (nI so), ⟨_, rfl⟩, hcl2, fun K2 => ?_⟩⟩
    have hb109 : ∀ k, k < 600 → ly_u Dm 108 0 0 109 k = nI (T k) ∧ T k < 256 := fun k hk => by rw [u0 (by omega), hDm 109 k (by omega) (by omega) (by omega) (by omega) (by omega)]; exact ⟨(hTT k hk).2.1, (hTT k hk).2.2⟩
    obtain ⟨RM, so2, hso2, hrO, hRM⟩ := sn_both (w := w) (K := K) (K2 := K2) (J := ly_u Dm 108 0 0) h hO hO3 hb109
    rcases hrO with ⟨I3, J3, p3, s3, v3, x1, x2, o3, o4, hS3⟩ | ⟨I3, J3, p3, p4, s3, v3, k3, q3, x1, -, -, -, -⟩
    case inr => exact absurd (oI_inj (r1.symm.trans x1)).1 (by decide)
    have hI3 : tx I3 p3 s3 v3 = Cm := m_inj (oI_inj (x1.symm.trans r1)).2
    have eI3 : ∀ i j, i ≠ 65 → I3 i j = Cm i j := fun i j n1 => by rw [← hI3, tx_n n1]
    have eso : so2 = so := by
      have e := hS3.1
      rw [eI3 85 1 (by omega), hC85] at e
      exact ((nI_eq (by omega) (by omega)).mp e).symm
    subst eso
    have hJ3 : ∀ i j, i ≠ 453 → ¬ (i = 108 ∧ (j = 0 ∨ j = 1 ∨ j = 2 ∨ j = 7 ∨ j = 8)) → J3 i j = Dm i j := fun i j n1 n2 => by
      rw [o4 i j (by unfold QS; omega)]
      unfold mst
      rw [ly_uE, if_neg (by omega), ly_uE, if_neg (by omega), ly_uE, if_neg (by omega), ly_uE, if_neg (by omega), u0 (by omega)]
    have hJ31 : J3 108 1 = nI 0 ∧ J3 108 0 = nI 0 := by
      constructor
      · rw [o4 108 1 (by unfold QS; omega)]; unfold mst; simp (disch := omega) only [ly_uE, if_neg, if_pos, and_self, if_true]
      · rw [o4 108 0 (by unfold QS; omega)]; unfold mst; simp (disch := omega) only [ly_uE, if_neg, if_pos, and_self, if_true]; rfl
    have eA : ∀ i j, ¬ (i = 108 ∧ 3 ≤ j ∧ j ≤ 6) → ¬ (i = 108 ∧ j = 33) → ly_u (mx (ly_u J3 108 3 (-1)) p3 0 (-1)) 108 33 (nI so2) i j = J3 i j := fun i j hn hn2 => by
      rw [ly_uE, if_neg hn2]
      by_cases e : i = 108
      · subst e; rw [mx_nj (by omega), ly_uE, if_neg (by omega)]
      · rw [mx_n e, ly_uE, if_neg (by omega)]
    have eA3 : ly_u (mx (ly_u J3 108 3 (-1)) p3 0 (-1)) 108 33 (nI so2) 108 3 = -1 := by rw [ly_uE, if_neg (by omega), mx_nj (by omega), ly_uE, if_pos ⟨rfl, rfl⟩]
    have eA33 : ly_u (mx (ly_u J3 108 3 (-1)) p3 0 (-1)) 108 33 (nI so2) 108 33 = nI so2 := by rw [ly_uE, if_pos ⟨rfl, rfl⟩]
    obtain ⟨D2, f1, f2, f3⟩ := sb_M (w := w) (K := K2) (A := ly_u (mx (ly_u J3 108 3 (-1)) p3 0 (-1)) 108 33 (nI so2)) h hso2
    generalize hA2 : ly_u (mx (ly_u J3 108 3 (-1)) p3 0 (-1)) 108 33 (nI so2) = A2 at eA eA3 eA33 f1 f2 f3
    have eF : ∀ i j, i ≠ 452 → i ≠ 453 → ¬ (i = 108 ∧ (j ≤ 8 ∨ j = 33)) → D2 i j = Dm i j := fun i j n1 n2 n3 => by rw [f2 i j n1, eA i j (by omega) (by omega)]; exact hJ3 i j n2 (by omega)
    have eFI : ∀ i j, i ≠ 452 → i ≠ 453 → ¬ (i = 108 ∧ (j ≤ 8 ∨ j = 33)) → i ≠ 84 → i ≠ 83 → i ≠ 65 → i ≠ 85 → i ≠ 86 → D2 i j = I i j := fun i j n1 n2 n3 n4 n5 n6 n7 n8 => by rw [eF i j n1 n2 n3]; exact hDm i j n4 n5 n6 n7 n8
    refine ⟨D2, K2, ?_, ?_, ⟨fun j => eFI 0 j (by omega) (by omega) (by omega) (by omega) (by omega) (by omega) (by omega) (by omega), n, wd, q, r, so2, fun k => nz (Cm 86 k), W, G, ?_⟩, rfl⟩
    · rw [hmo Dm K2 e108, hRM, x2, ly_cV]
      unfold X9_sentence_j102
      rw [lg_108 h, mx5, n00, lp_108 h, mx_unj (by omega), lp_108 h, hA2, f1]
    · rw [f2 108 0 (by omega), eA 108 0 (by omega) (by omega)]; exact hJ31.2
    · refine ⟨pg_C_c hPC ?_, pg_M_c hPM ?_, dk_C_c hDC0 ?_, dk_M_c hDM ?_, hr, ⟨⟨0, by omega, ?_, ?_⟩, fun k hk => ?_, ?_⟩, ⟨hso2, ?_, ?_, fun k hk => ?_⟩, jh_c hH ?_, jc_c hc ?_, jk_c hk ?_, jl_c hL ?_⟩
      · intro i j e; unfold dPC at e; exact eFI i j (by omega) (by omega) (by omega) (by omega) (by omega) (by omega) (by omega) (by omega)
      · intro i j e; unfold dPM at e; exact eFI i j (by omega) (by omega) (by omega) (by omega) (by omega) (by omega) (by omega) (by omega)
      · intro i j e; unfold dDC at e; exact eFI i j (by omega) (by omega) (by omega) (by omega) (by omega) (by omega) (by omega) (by omega)
      · intro i j e; unfold dDM at e; exact eFI i j (by omega) (by omega) (by omega) (by omega) (by omega) (by omega) (by omega) (by omega)
      · rw [eF 65 1 (by omega) (by omega) (by omega), hDC 65 1 (by omega) (by omega)]; exact hC1
      · rw [f2 108 1 (by omega), eA 108 1 (by omega) (by omega)]; exact hJ31.1
      · rw [eF 66 k (by omega) (by omega) (by omega), hDm 66 k (by omega) (by omega) (by omega) (by omega) (by omega), eFI 109 k (by omega) (by omega) (by omega) (by omega) (by omega) (by omega) (by omega) (by omega)]; exact hB k hk
      · rw [eF 65 7 (by omega) (by omega) (by omega), hDC 65 7 (by omega) (by omega), hC7, f2 108 3 (by omega), eA3]
      · rw [eF 83 1 (by omega) (by omega) (by omega)]; exact hD83
      · rw [f2 108 33 (by omega)]; exact eA33
      · obtain ⟨z, z1, z2, z3⟩ := hS3.2 k hk
        rw [eI3 86 k (by omega)] at z2
        simp only
        rw [eF 84 k (by omega) (by omega) (by omega), hD84 k (by omega), f3 k hk, eA 453 k (by omega) (by omega), z3, z2, show nz (nI z) = z from nI_clamp (by omega)]
        exact ⟨rfl, rfl, z1⟩
      · intro i j e; unfold dH at e; exact eFI i j (by omega) (by omega) (by omega) (by omega) (by omega) (by omega) (by omega) (by omega)
      · intro i j e; unfold dCC at e; exact eFI i j (by omega) (by omega) (by omega) (by omega) (by omega) (by omega) (by omega) (by omega)
      · intro i j e; unfold dK at e; exact eFI i j (by omega) (by omega) (by omega) (by omega) (by omega) (by omega) (by omega) (by omega)
      · intro i j e; unfold dL at e; exact eFI i j (by omega) (by omega) (by omega) (by omega) (by omega) (by omega) (by omega) (by omega)
  · -- a fault
    have hCm : ∀ i j, i ≠ 65 → ¬ (i = 85 ∨ i = 86) → tx (tf I1 k1 q1) p1 s1 v1 i j = I i j := fun i j n1 n2 => by
      rw [tx_n n1]; unfold tf; rw [ly_uE, if_neg (by omega), ly_uE, if_neg (by omega), o1 i j (by unfold PS; omega), hOo i j n1]
    have hC1 : tx (tf I1 k1 q1) p1 s1 v1 65 1 = nI 0 := by rw [tx_nj (by omega)]; unfold tf; rw [ly_uE, if_neg (by omega), ly_uE, if_neg (by omega), o1 65 1 (by unfold PS; omega)]; exact hO1
    have hC6 : tx (tf I1 k1 q1) p1 s1 v1 65 6 = nI k1 := by rw [tx_nj (by omega)]; unfold tf; rw [ly_uE, if_neg (by omega), ly_uE, if_pos ⟨rfl, rfl⟩]
    have hC7 : tx (tf I1 k1 q1) p1 s1 v1 65 7 = nI q1 := by rw [tx_nj (by omega)]; unfold tf; rw [ly_uE, if_pos ⟨rfl, rfl⟩]
    have hcl2 := hcl _ r1
    rw [ly_cI, i00] at hcl2
    generalize tx (tf I1 k1 q1) p1 s1 v1 = Cm at r1 hCm hC1 hC6 hC7 hcl2
    rw [lr_64_0 h, lg_65 h, hC6] at hcl2
    have e108 : Cm 108 1 = nI F := by rw [hCm 108 1 (by omega) (by omega)]; exact hF2
    refine ⟨c, w, S, Cm, K, ⟨by omega, by omega, by omega, h, rfl, fun j => hCm 0 j (by omega) (by omega)⟩, Or.inl ⟨.int (nI k1 - 10), ⟨_, rfl⟩, hcl2, fun K2 => ?_⟩⟩
    have hb109 : ∀ k, k < 600 → ly_u Cm 108 0 0 109 k = nI (T k) ∧ T k < 256 := fun k hk => by rw [u0 (by omega), hCm 109 k (by omega) (by omega)]; exact ⟨(hTT k hk).2.1, (hTT k hk).2.2⟩
    obtain ⟨RM, so2, hso2, hrO, hRM⟩ := sn_both (w := w) (K := K) (K2 := K2) (J := ly_u Cm 108 0 0) h hO hO3 hb109
    rcases hrO with ⟨I3, J3, p3, s3, v3, x1, x2, o3, o4, hPP⟩ | ⟨I3, J3, p3, p4, s3, v3, k3, q3, x1, x2, hk3, o3, o4⟩
    case inl => exact absurd (oI_inj (r1.symm.trans x1)).1 (by decide)
    have hI3 : tx (tf I3 k3 q3) p3 s3 v3 = Cm := m_inj (oI_inj (x1.symm.trans r1)).2
    have ek : k3 = k1 := by
      have e : Cm 65 6 = nI k3 := by rw [← hI3, tx_nj (by omega)]; unfold tf; rw [ly_uE, if_neg (by omega), ly_uE, if_pos ⟨rfl, rfl⟩]
      rw [hC6] at e
      exact ((nI_eq (by omega) (by omega)).mp e).symm
    have eq3 : q3 = q1 := by
      have e : Cm 65 7 = nI q3 := by rw [← hI3, tx_nj (by omega)]; unfold tf; rw [ly_uE, if_pos ⟨rfl, rfl⟩]
      rw [hC7] at e
      exact ((nI_eq (by omega) (by omega)).mp e).symm
    subst ek eq3
    have hJ3 : ∀ i j, ¬ QS i j → ¬ (i = 108 ∧ (j = 0 ∨ j = 1 ∨ j = 2 ∨ j = 7 ∨ j = 8)) → J3 i j = Cm i j := fun i j n1 n2 => by
      rw [o4 i j n1]
      unfold mst
      rw [ly_uE, if_neg (by omega), ly_uE, if_neg (by omega), ly_uE, if_neg (by omega), ly_uE, if_neg (by omega), u0 (by omega)]
    have hJ31 : J3 108 1 = nI 0 ∧ J3 108 0 = nI 0 := by
      constructor
      · rw [o4 108 1 (by unfold QS; omega)]; unfold mst; simp (disch := omega) only [ly_uE, if_neg, if_pos, and_self, if_true]
      · rw [o4 108 0 (by unfold QS; omega)]; unfold mst; simp (disch := omega) only [ly_uE, if_neg, if_pos, and_self, if_true]; rfl
    have eD : ∀ i j, ¬ (i = 108 ∧ 3 ≤ j ∧ j ≤ 6) → mx (ly_u J3 108 3 (nI q3)) p4 k3 (nI q3) i j = J3 i j := fun i j hn => by
      by_cases e : i = 108
      · subst e; rw [mx_nj (by omega), ly_uE, if_neg (by omega)]
      · rw [mx_n e, ly_uE, if_neg (by omega)]
    have eD3 : mx (ly_u J3 108 3 (nI q3)) p4 k3 (nI q3) 108 3 = nI q3 := by rw [mx_nj (by omega), ly_uE, if_pos ⟨rfl, rfl⟩]
    refine ⟨mx (ly_u J3 108 3 (nI q3)) p4 k3 (nI q3), K2, ?_, ?_, ⟨fun j => ?_, n, wd, q, r, a, se, W, G, JJ_t hJ (fun i j e n1 n2 => ?_) ⟨⟨0, by omega, ?_, ?_⟩, fun k hk => ?_, ?_⟩⟩, rfl⟩
    · rw [hmo Cm K2 e108, hRM, x2, ly_cV]
      unfold X9_sentence_j102 X9_faulty
      rw [lg_108 h, mx5, nk0 ⟨hk3.1, hk3.2.1⟩, lc_108 h, lg_108 h, mx6, lp_108 h, mx_unj (by omega), lg_108 h, mx5, ly_cI]
    · rw [eD 108 0 (by omega)]; exact hJ31.2
    · rw [eD 0 j (by omega), hJ3 0 j (by unfold QS; omega) (by omega), hCm 0 j (by omega) (by omega)]
    · unfold dA dPC dPM dDC dDM dT dS dH dCC dK dL at e
      rw [eD i j (by omega), hJ3 i j (by unfold QS; omega) (by omega), hCm i j n1 (by omega)]
    · rw [eD 65 1 (by omega), hJ3 65 1 (by unfold QS; omega) (by omega)]; exact hC1
    · rw [eD 108 1 (by omega)]; exact hJ31.1
    · rw [eD 66 k (by omega), hJ3 66 k (by unfold QS; omega) (by omega), hCm 66 k (by omega) (by omega), eD 109 k (by omega), hJ3 109 k (by unfold QS; omega) (by omega), hCm 109 k (by omega) (by omega)]; exact hB k hk
    · rw [eD 65 7 (by omega), hJ3 65 7 (by unfold QS; omega) (by omega), hC7, eD3]
end SEO
