/-! law: both agree -/
section LAW
variable {c w : Nat} {S : Nat → pmS} {I I1 I2 J J1 A B E O : Nat → Nat → Int32} {K K2 : Nat → Nat → Int64} {T : Nat → Nat} {L p g n N m : Nat} {s v x : Int32} {wd : Nat → Nat} {q : Nat → Nat → Nat} {r : Nat → Int32} {a : Nat} {se : Nat → Nat} {W G : Nat} {rsM : Nat → pmM → pmR}
theorem lb_M (h : ly c S) (hn : n ≤ 150) : ∃ D, X9_lays 289 128 (nI n) (c, w, S, A, K) = pm_oV (c, w, S, D, K) ∧ only (fun i _ => 129 ≤ i ∧ i ≤ 278) A D ∧ ∀ l, l < n → ∀ i, i < 2 → D (129 + l) i = A (290 + l) i := by
  unfold X9_lays
  refine ly_loop (fun l (E : Nat → Nat → Int32) => ((nI l, (c, w, S, E, K)) : Int32 × pmM)) n (fun l E => only (fun i _ => 129 ≤ i ∧ i ≤ 278) A E ∧ ∀ u, u < l → ∀ i, i < 2 → E (129 + u) i = A (290 + u) i) (fun R => ∃ D, R = pm_oV (c, w, S, D, K) ∧ only (fun i _ => 129 ≤ i ∧ i ≤ 278) A D ∧ ∀ l, l < n → ∀ i, i < 2 → D (129 + l) i = A (290 + l) i) ?_ ?_ pm_N 0 A ⟨only_r, fun u hu => by omega⟩ (by omega) (by rw [pm_NE]; omega)
  · intro again l E hl hQ hnx
    obtain ⟨q1, q2⟩ := hQ
    unfold X9_lays_L2
    simp only
    rw [if_neg (nI_ge hl (by omega))]
    refine ly_loop (fun i (Z : Nat → Nat → Int32) => ((nI i, (c, w, S, Z, K)) : Int32 × pmM)) 2 (fun i Z => only (fun i _ => 129 ≤ i ∧ i ≤ 278) A Z ∧ (∀ u, u < l → ∀ i, i < 2 → Z (129 + u) i = A (290 + u) i) ∧ ∀ j, j < i → Z (129 + l) j = A (290 + l) j) (fun R => ∃ D, R = pm_oV (c, w, S, D, K) ∧ only (fun i _ => 129 ≤ i ∧ i ≤ 278) A D ∧ ∀ l, l < n → ∀ i, i < 2 → D (129 + l) i = A (290 + l) i) ?_ ?_ pm_N 0 E ⟨q1, q2, fun j hj => by omega⟩ (by omega) (by rw [pm_NE]; omega)
    · intro again2 i Z hi hQ hn2
      obtain ⟨p1, p2, p3⟩ := hQ
      unfold X9_lays_L10
      simp only
      rw [lr_128 h (by omega), ll_129 h (by omega), if_neg (nI_ge hi (by omega)), lr_128 h (by omega), lr_289 h (by omega), ld_290 h (by omega) hi, p1 (290 + l) i (by omega), ls_129 h (by omega) hi, ly_bI, nI_1]
      refine hn2 _ ⟨only_u p1 (by omega), fun u hu j hj => ?_, fun j hj => ?_⟩
      · rw [ly_uE, if_neg (by omega)]; exact p2 u hu j hj
      · by_cases e : j = i
        · subst e; rw [ly_uE, if_pos ⟨rfl, rfl⟩]
        · rw [ly_uE, if_neg (by omega)]; exact p3 j (by omega)
    · intro again2 Z hQ
      obtain ⟨p1, p2, p3⟩ := hQ
      unfold X9_lays_L10
      simp only
      rw [lr_128 h (by omega), ll_129 h (by omega), if_pos (nI_le (Nat.le_refl _) (by omega)), ly_bI, nI_1]
      refine hnx Z ⟨p1, fun u hu i hi => ?_⟩
      rcases Nat.lt_or_ge u l with e | e
      · exact p2 u e i hi
      · have : u = l := by omega
        subst this; exact p3 i hi
  · intro again E hQ
    unfold X9_lays_L2
    simp only
    rw [if_pos (nI_le (Nat.le_refl _) (by omega))]
    exact ⟨E, rfl, hQ⟩
theorem on_bl (h : ly c S) (hM : mB J T L) (hp : p ≤ L) : X9_one rsM 108 (c, w, S, mx J (tS T L p) 0 x, K2) = X9_one rsM 108 (c, w, S, mx J p 0 x, K2) := by
  have hs : tS T L (tS T L p) = tS T L p := tE_i hp
  have hq : tS T L p ≤ L := tE_lL hp
  unfold X9_one
  rw [lg_108 h, lg_108 h, mx5, mx5, n00, n00, lc_108 h, lc_108 h, mx_blanks h hM hp, mx_blanks h hM hq, hs]
theorem sm_bl {k : Nat} (h : ly c S) (hM : mB J T L) (hp : p ≤ L) : X9_sum_N (k + 1) 108 (c, w, S, mx J (tS T L p) 0 x, K2) = X9_sum_N (k + 1) 108 (c, w, S, mx J p 0 x, K2) := by
  show X9_sum (X9_sum_N k) 108 _ = X9_sum (X9_sum_N k) 108 _
  unfold X9_sum X9_product
  rw [lc_108 h, lc_108 h, lc_108 h, lc_108 h, on_bl h hM hp]
def X9_lwE (m9 : pmM) : pmR := pm_rc 9 108 m9 <| pm_cV (X9_blanks 108 m9) fun m10 => pm_gI 9 108 5 m10 fun x11 => if x11 = 0 then (pm_gI 9 108 4 m10 fun x22 => pm_gI 9 108 2 m10 fun x23 => if x23 ≤ x22 then (X9_law_j85 108 m10) else (pm_gI 9 108 4 m10 fun x24 => pm_rc 9 108 m10 <| pm_cV (X9_wrong 108 1 x24 m10) fun m25 => X9_law_j85 108 m25)) else (X9_law_j85 108 m10)
theorem jl_h1 {f : Nat → Int32} (h : jl_h f m = some 1) : 0 < m := by
  rcases Nat.eq_zero_or_pos m with e | e
  · subst e; exact absurd h (by simp [jl_h])
  · exact e
theorem lw_both (h : ly c S) (hjk : jk O) (hO : tB O T N) (hO3 : O 65 3 = nI 0) (hN : N ≤ 150) (hJ : ∀ k, k < 600 → J 109 k = nI (T k) ∧ T k < 256) : ∃ RM, rO c w S K K2 PL QL O (mst J N) (-1) (fun I1 J1 _ => ∃ m, 0 < m ∧ RLw I1 J1 m 1) (X1_readFrom 79 65 (c, w, S, O, K)) RM ∧ (pm_cV (X9_starts 108 (nI N) (c, w, S, J, K2)) fun m7 => pm_pI 9 108 20 0 m7 fun m8 => pm_rc 9 108 m8 <| pm_cV (X9_sum_N 10 108 m8) fun m9 => X9_lwE m9) = pm_cV RM (X9_law_j85 108) := by
  obtain ⟨m1, m2⟩ := ms_ok (w := w) (K := K2) (I := J) (T := T) (N := N) h (by omega) hJ
  have o1 : only PL O (ly_u O 79 3 0) := only_u only_r (by unfold PL; omega)
  have o2 : only QL (mst J N) (ly_u (mst J N) 108 20 0) := only_u only_r (by unfold QL; omega)
  have e8 : ly_u (mst J N) 108 20 0 108 8 = nI 0 := by rw [ly_uE, if_neg (by omega)]; unfold mst; rw [ly_uE, if_pos ⟨rfl, rfl⟩]
  have e1 : X1_readFrom 79 65 (c, w, S, O, K) = (pm_cI (X1_readSum_N 10 79 65 (nI 0) (c, w, S, tx (ly_u O 79 3 0) 0 (O 65 4) (O 65 5), K)) fun x3 m2 => if x3 = 0 then (pm_oI 0 m2) else (pm_rc 7 65 m2 <| pm_cI (X7_peek 65 m2) fun x5 m4 => if x5 = (-1) then (X1_readFrom_j36 m4) else (pm_gI 7 65 3 m4 fun x6 => pm_rc 7 65 m4 <| pm_cI (X7_fail 65 1 x6 m4) fun x8 m7 => if x8 = 0 then (X1_readFrom_j41 0 m7) else (X1_readFrom_j36 m7)))) := by
    have : X1_readFrom 79 65 (c, w, S, tx O 0 (O 65 4) (O 65 5), K) = (pm_cI (X1_readSum_N 10 79 65 (nI 0) (c, w, S, tx (ly_u O 79 3 0) 0 (O 65 4) (O 65 5), K)) fun x3 m2 => if x3 = 0 then (pm_oI 0 m2) else (pm_rc 7 65 m2 <| pm_cI (X7_peek 65 m2) fun x5 m4 => if x5 = (-1) then (X1_readFrom_j36 m4) else (pm_gI 7 65 3 m4 fun x6 => pm_rc 7 65 m4 <| pm_cI (X7_fail 65 1 x6 m4) fun x8 m7 => if x8 = 0 then (X1_readFrom_j41 0 m7) else (X1_readFrom_j36 m7)))) := by
      unfold X1_readFrom
      rw [lp_79 h, tx_un (by omega), lc_79 h]
      rfl
    rw [← tx_in hO3] at this
    exact this
  have hTO : tB (ly_u O 79 3 0) T N := PL_T hO o1
  have hMO : mB (ly_u (mst J N) 108 20 0) T N := QL_T m2 o2
  have hS := (SR_all (w := w) (K := K) (K2 := K2) (T := T) (L := N) (x := -1) h hN 10 0 (by omega) (by omega)).1 (ly_u O 79 3 0) (ly_u (mst J N) 108 20 0) 0 0 0 0 (O 65 4) (O 65 5) hTO hMO (PL_jk hjk o1) (by omega) ⟨by omega, by rw [ly_uE, if_pos ⟨rfl, rfl⟩]; rfl, by rw [ly_uE, if_pos ⟨rfl, rfl⟩]; rfl, fun k hk => by omega, rfl⟩ (by omega) (by omega) e8
  rw [m1, ly_cV, lp_108 h, mx_unj (by omega), lc_108 h, sm_bl h hMO (by omega), e1]
  rcases hS with ⟨I1, J1, p1, s1, v1, r1, r2, b1, b2, ⟨g1, g2, ⟨mm, g3, g4⟩, g5⟩⟩ | ⟨I1, J1, p1, p2, s1, v1, k1, q1, r1, r2, hk, b1, b2⟩
  · rw [r1, r2, ly_cI, ly_cV, i10, lc_65 h, tx_peek h (PL_T hTO b1) g2, ly_cI]
    unfold X9_lwE
    have hM1 := QL_T hMO b2
    have hqL : tS T N p1 ≤ N := tE_lL g2
    rw [lc_108 h, mx_blanks h hM1 g2, ly_cV, lg_108 h, mx5, n00, lg_108 h, mx4, lg_108 h, mx_nj (by omega), hM1.1]
    by_cases hlt : tS T N p1 < N
    · have hT1 := ((PL_T hTO b1).2.2 (tS T N p1) (by omega)).2
      refine ⟨pm_oV (c, w, S, mx J1 (tS T N p1) 1 (nI (tS T N p1)), K2), ?_, ?_⟩
      · rw [tb_lt hlt, if_neg (fun e => by
          have : nI (T (tS T N p1)) = -nI 1 := e
          exact tb_ne (T := T) (L := 0) (p := 0) (k := T (tS T N p1)) (by omega) (by omega) (by rw [tb_ge (by omega)]; exact this.symm)), lg_65 h, tx3, lc_65 h, show (1 : Int32) = nI 1 from rfl, tx_fail h, ly_cI, i00]
        unfold X1_readFrom_j41
        exact rO_no (by omega) (only_t o1 b1) (only_t o2 b2)
      · rw [if_neg (show ¬ nI N ≤ nI (tS T N p1) from nI_ge hlt (by omega)), lg_108 h, mx4, lc_108 h, show (1 : Int32) = nI 1 from rfl, mx_wrong h, ly_cV]
    · refine ⟨pm_oV (c, w, S, mx J1 (tS T N p1) 0 (-1), K2), ?_, ?_⟩
      · rw [tb_ge hlt, if_pos (show (-nI 1 : Int32) = -1 from rfl)]
        unfold X1_readFrom_j36 X1_readFrom_j41
        exact rO_ok (only_t o1 b1) (only_t o2 b2) ⟨mm, jl_h1 g3.2.2.2.2, g3⟩
      · rw [if_pos (nI_le (by omega) (by omega)), ly_cV]
  · rw [r1, r2, ly_cI, ly_cV, i00]
    unfold X9_lwE
    have hg : 1 ≤ k1 ∧ k1 ≤ 3 := ⟨hk.1, hk.2.1⟩
    obtain ⟨p3, hp3, hbl⟩ := mx_blA (w := w) (K2 := K2) (g := k1) (x := nI q1) h (QL_T hMO b2) hk.2.2.2
    refine ⟨pm_oV (c, w, S, mx J1 p3 k1 (nI q1), K2), rO_no ⟨hk.1, hk.2.1, hk.2.2.1, hp3⟩ (only_t o1 b1) (only_t o2 b2), ?_⟩
    rw [lc_108 h, hbl, ly_cV, lg_108 h, mx5, nk0 hg, ly_cV]
def X8_lwE (m4 : pmM) : pmR := pm_gR 8 64 3 m4 fun r6 => pm_gR 8 64 4 m4 fun r7 => pm_rc 1 r6 m4 <| pm_cV (X1_takeOver r6 r7 m4) fun m8 => pm_oI 1 m8
theorem el_C (h : ly c S) : X8_lwE (c, w, S, A, K) = pm_oI 1 (c, w, S, ly_u (ly_c A 80 0 76 0 150) 75 3 (A 79 3), K) := by
  unfold X8_lwE X1_takeOver
  rw [lr_64_3 h, lr_64_4 h, lc_75 h, lr_79_0 h, lr_75_0 h, lcp (x := 0) (y := 0) (z := 150) (sp := 0) (dp := 0) (m := 150) 150 150 h rfl rfl rfl rfl (by omega) (by omega) (by omega) (by omega) rfl rfl rfl, lg_79 h, show ly_c A 80 0 76 0 150 79 3 = A 79 3 by rw [ly_cE, if_neg (by omega)], lp_75 h, ly_cV]
theorem ca_law (y : Int32) (h : ly c S) (hJ : JJ I n wd q r a se W G) : ag isI (I 0) c w S (fun k => k) (X8_law 64 y (c, w, S, I, K)) (X9_law 108 y) := by
  obtain ⟨hPC, hPM, hDC0, hDM, hr, hT, hS, hH, hc, hk, hL⟩ := id hJ
  obtain ⟨T, hTT⟩ := jt_T hT
  obtain ⟨⟨F, hF6, hF1, hF2⟩, hB, hfa⟩ := hT
  by_cases hy : 0 ≤ y ∧ y ≤ 150 ∧ y ≤ nI F
  case neg =>
    refine ag_no (K := K) (k := 1) (b := .int 0) h hJ (by omega) ⟨_, rfl⟩ ?_ (fun c1 w1 S1 I1 K2 h1 hI => ?_)
    · unfold X8_law
      rw [lc_64 h, op_no h hF1 hy, rx_cV]
    · have e1 : ly_u I1 108 0 0 108 1 = nI F := by rw [u0 (by omega), hI 108 1 (by omega) (by omega)]; exact hF2
      unfold X9_law X9_law_j25 X9_law_j30
      rw [lp_108 h1, lg_108 h1, e1, rm_in, ly_cI]
      by_cases hy2 : 0 ≤ y ∧ y ≤ nI F
      · rw [decide_eq_true hy2, ib1, if_neg (fun e => hy ⟨hy2.1, e, hy2.2⟩), lc_108 h1, bad_11 h1, ly_cI, i10]
      · rw [decide_eq_false hy2, ib0, lc_108 h1, bad_11 h1, ly_cI, i10]
  obtain ⟨N, hN31, rfl⟩ := nI_of (nI_lt0 hy.1)
  have hNF : N ≤ F := (nI_leI hN31 (by omega)).mp hy.2.2
  have hN : N ≤ 150 := (nI_leI (b := 150) hN31 (by omega)).mp hy.2.1
  obtain ⟨hO, hO3, hO1, hO7, hOo⟩ := op_B (N := N) hTT (by omega)
  have hcl : ∀ RC : pmR, X1_readFrom 79 65 (c, w, S, opn I N, K) = RC → X8_law 64 (nI N) (c, w, S, I, K) = pm_cI RC fun x5 m4 => if x5 = 0 then (pm_gR 8 64 0 m4 fun r20 => pm_gI 7 r20 6 m4 fun x21 => pm_oI (x21 - 10) m4) else X8_lwE m4 := fun RC hRC => by
    unfold X8_law
    rw [lc_64 h, op_ok h hF1 hF6 hNF hy.2.1, ly_cV, lr_64_4 h, lr_64_0 h, lc_79 h, hRC]
    rfl
  have hjkO : jk (opn I N) := jk_o (P := fun i _ => i = 65) hk (fun i j hn => hOo i j hn) (fun i j hi => by omega)
  have hmo : ∀ (Dm : Nat → Nat → Int32) (K2 : Nat → Nat → Int64), Dm 108 1 = nI F → X9_law 108 (nI N) (c, w, S, Dm, K2) = (pm_cV (X9_starts 108 (nI N) (c, w, S, ly_u Dm 108 0 0, K2)) fun m7 => pm_pI 9 108 20 0 m7 fun m8 => pm_rc 9 108 m8 <| pm_cV (X9_sum_N 10 108 m8) fun m9 => X9_lwE m9) := fun Dm K2 e => by
    unfold X9_law X9_law_j25 X9_law_j30
    rw [lp_108 h, lg_108 h, u0 (by omega), e, rm_in, ly_cI, decide_eq_true ⟨hy.1, hy.2.2⟩, ib1, if_pos hy.2.1, lc_108 h, bad_z h, ly_cI, i00, lc_108 h]
    rfl
  obtain ⟨RM0, hrO, -⟩ := lw_both (w := w) (K := K) (K2 := K) (J := I) h hjkO hO hO3 hN (fun k hk => ⟨(hTT k hk).2.1, (hTT k hk).2.2⟩)
  rcases hrO with ⟨I1, J1, p1, s1, v1, r1, -, o1, -, -⟩ | ⟨I1, J1, p1, p2, s1, v1, k1, q1, r1, -, hk1, o1, -⟩
  · -- read well
    have hCm : ∀ i j, i ≠ 65 → ¬ (i = 79 ∨ i = 80) → tx I1 p1 s1 v1 i j = I i j := fun i j n1 n2 => by rw [tx_n n1, o1 i j (by unfold PL; omega), hOo i j n1]
    have hC1 : tx I1 p1 s1 v1 65 1 = nI 0 := by rw [tx_nj (by omega), o1 65 1 (by unfold PL; omega)]; exact hO1
    have hC7 : tx I1 p1 s1 v1 65 7 = -1 := by rw [tx_nj (by omega), o1 65 7 (by unfold PL; omega)]; exact hO7
    have hcl2 := hcl _ r1
    rw [ly_cI, i10] at hcl2
    generalize tx I1 p1 s1 v1 = Cm at r1 hCm hC1 hC7 hcl2
    rw [el_C h] at hcl2
    have hD76 : ∀ k, k < 150 → ly_u (ly_c Cm 80 0 76 0 150) 75 3 (Cm 79 3) 76 k = Cm 80 k := fun k hk => by rw [ly_uE, if_neg (by omega), ly_cE, if_pos ⟨rfl, by omega, by omega⟩]; congr 1; omega
    have hD75 : ly_u (ly_c Cm 80 0 76 0 150) 75 3 (Cm 79 3) 75 3 = Cm 79 3 := by rw [ly_uE, if_pos ⟨rfl, rfl⟩]
    have hDC : ∀ i j, i ≠ 76 → ¬ (i = 75 ∧ j = 3) → ly_u (ly_c Cm 80 0 76 0 150) 75 3 (Cm 79 3) i j = Cm i j := fun i j n1 n2 => by rw [ly_uE, if_neg (by omega), ly_cE, if_neg (by omega)]
    generalize ly_u (ly_c Cm 80 0 76 0 150) 75 3 (Cm 79 3) = Dm at hcl2 hD76 hD75 hDC
    have hDm : ∀ i j, i ≠ 76 → ¬ (i = 75 ∧ j = 3) → i ≠ 65 → i ≠ 79 → i ≠ 80 → Dm i j = I i j := fun i j n1 n2 n3 n4 n5 => by rw [hDC i j n1 n2]; exact hCm i j n3 (by omega)
    have e108 : Dm 108 1 = nI F := by rw [hDm 108 1 (by omega) (by omega) (by omega) (by omega) (by omega)]; exact hF2
    refine ⟨c, w, S, Dm, K, ⟨by omega, by omega, by omega, h, rfl, fun j => hDm 0 j (by omega) (by omega) (by omega) (by omega) (by omega)⟩, Or.inl ⟨.int 1, ⟨_, rfl⟩, hcl2, fun K2 => ?_⟩⟩
    have hb109 : ∀ k, k < 600 → ly_u Dm 108 0 0 109 k = nI (T k) ∧ T k < 256 := fun k hk => by rw [u0 (by omega), hDm 109 k (by omega) (by omega) (by omega) (by omega) (by omega)]; exact ⟨(hTT k hk).2.1, (hTT k hk).2.2⟩
    obtain ⟨RM, hrO, hRM⟩ := lw_both (w := w) (K := K) (K2 := K2) (J := ly_u Dm 108 0 0) h hjkO hO hO3 hN hb109
    rcases hrO with ⟨I3, J3, p3, s3, v3, x1, x2, o3, o4, mm, hm0, hR⟩ | ⟨I3, J3, p3, p4, s3, v3, k3, q3, x1, -, -, -, -⟩
    case inr => exact absurd (oI_inj (r1.symm.trans x1)).1 (by decide)
    have hI3 : tx I3 p3 s3 v3 = Cm := m_inj (oI_inj (x1.symm.trans r1)).2
    have eI3 : ∀ i j, i ≠ 65 → I3 i j = Cm i j := fun i j n1 => by rw [← hI3, tx_n n1]
    obtain ⟨R1, R2, R3, R4, R5⟩ := hR
    have hJ3 : ∀ i j, ¬ (290 ≤ i ∧ i ≤ 449) → ¬ (i = 108 ∧ (j = 0 ∨ j = 1 ∨ j = 2 ∨ j = 7 ∨ j = 8 ∨ j = 20)) → J3 i j = Dm i j := fun i j n1 n2 => by
      rw [o4 i j (by unfold QL; omega)]
      unfold mst
      rw [ly_uE, if_neg (by omega), ly_uE, if_neg (by omega), ly_uE, if_neg (by omega), ly_uE, if_neg (by omega), u0 (by omega)]
    have hJ31 : J3 108 1 = nI 0 ∧ J3 108 0 = nI 0 := by
      constructor
      · rw [o4 108 1 (by unfold QL; omega)]; unfold mst; simp (disch := omega) only [ly_uE, if_neg, if_pos, and_self, if_true]
      · rw [o4 108 0 (by unfold QL; omega)]; unfold mst; simp (disch := omega) only [ly_uE, if_neg, if_pos, and_self, if_true]; rfl
    have eA : ∀ i j, ¬ (i = 108 ∧ 3 ≤ j ∧ j ≤ 6) → ¬ (i = 108 ∧ j = 19) → mx (ly_u (ly_u J3 108 3 (-1)) 108 19 (nI mm)) p3 0 (-1) i j = J3 i j := fun i j hn hn2 => by
      by_cases e : i = 108
      · subst e; rw [mx_nj (by omega), ly_uE, if_neg (by omega), ly_uE, if_neg (by omega)]
      · rw [mx_n e, ly_uE, if_neg (by omega), ly_uE, if_neg (by omega)]
    have eA3 : mx (ly_u (ly_u J3 108 3 (-1)) 108 19 (nI mm)) p3 0 (-1) 108 3 = -1 := by rw [mx_nj (by omega), ly_uE, if_neg (by omega), ly_uE, if_pos ⟨rfl, rfl⟩]
    have eA19 : mx (ly_u (ly_u J3 108 3 (-1)) 108 19 (nI mm)) p3 0 (-1) 108 19 = nI mm := by rw [mx_nj (by omega), ly_uE, if_pos ⟨rfl, rfl⟩]
    obtain ⟨D2, f1, f2, f3⟩ := lb_M (w := w) (K := K2) (A := mx (ly_u (ly_u J3 108 3 (-1)) 108 19 (nI mm)) p3 0 (-1)) h R1
    have ej : X9_law_j85 108 (c, w, S, mx J3 p3 0 (-1), K2) = pm_oI 1 (c, w, S, D2, K2) := by
      unfold X9_law_j85
      rw [lg_108 h, mx5, n00, lp_108 h, mx_unj (by omega), lg_108 h, mx_nj (by omega), show ly_u J3 108 3 (-1) 108 20 = nI mm by rw [ly_uE, if_neg (by omega)]; exact R3, lp_108 h, mx_unj (by omega), lr_108_22 h, lr_108_21 h, lg_108 h, eA19, f1, ly_cV]
    generalize mx (ly_u (ly_u J3 108 3 (-1)) 108 19 (nI mm)) p3 0 (-1) = A2 at eA eA3 eA19 f1 f2 f3
    have eF : ∀ i j, ¬ (129 ≤ i ∧ i ≤ 278) → ¬ (290 ≤ i ∧ i ≤ 449) → ¬ (i = 108 ∧ (j ≤ 8 ∨ j = 19 ∨ j = 20)) → D2 i j = Dm i j := fun i j n1 n2 n3 => by rw [f2 i j n1, eA i j (by omega) (by omega)]; exact hJ3 i j n2 (by omega)
    have eFI : ∀ i j, ¬ (129 ≤ i ∧ i ≤ 278) → ¬ (290 ≤ i ∧ i ≤ 449) → ¬ (i = 108 ∧ (j ≤ 8 ∨ j = 19 ∨ j = 20)) → i ≠ 76 → ¬ (i = 75 ∧ j = 3) → i ≠ 65 → i ≠ 79 → i ≠ 80 → D2 i j = I i j := fun i j n1 n2 n3 n4 n5 n6 n7 n8 => by rw [eF i j n1 n2 n3]; exact hDm i j n4 n5 n6 n7 n8
    refine ⟨D2, K2, ?_, ?_, ⟨fun j => eFI 0 j (by omega) (by omega) (by omega) (by omega) (by omega) (by omega) (by omega) (by omega), n, wd, q, r, a, se, W, G, ?_⟩, rfl⟩
    · rw [hmo Dm K2 e108, hRM, x2, ly_cV, ej]
    · rw [f2 108 0 (by omega), eA 108 0 (by omega) (by omega)]; exact hJ31.2
    · refine ⟨pg_C_c hPC ?_, pg_M_c hPM ?_, dk_C_c hDC0 ?_, dk_M_c hDM ?_, hr, ⟨⟨0, by omega, ?_, ?_⟩, fun k hk => ?_, ?_⟩, js_c hS ?_, jh_c hH ?_, jc_c hc ?_, jk_c hk ?_, ⟨mm, R1, ?_, Or.inr ⟨hm0, ?_, fun k hk => ?_, ?_⟩⟩⟩
      · intro i j e; unfold dPC at e; exact eFI i j (by omega) (by omega) (by omega) (by omega) (by omega) (by omega) (by omega) (by omega)
      · intro i j e; unfold dPM at e; exact eFI i j (by omega) (by omega) (by omega) (by omega) (by omega) (by omega) (by omega) (by omega)
      · intro i j e; unfold dDC at e; exact eFI i j (by omega) (by omega) (by omega) (by omega) (by omega) (by omega) (by omega) (by omega)
      · intro i j e; unfold dDM at e; exact eFI i j (by omega) (by omega) (by omega) (by omega) (by omega) (by omega) (by omega) (by omega)
      · rw [eF 65 1 (by omega) (by omega) (by omega), hDC 65 1 (by omega) (by omega)]; exact hC1
      · rw [f2 108 1 (by omega), eA 108 1 (by omega) (by omega)]; exact hJ31.1
      · rw [eF 66 k (by omega) (by omega) (by omega), hDm 66 k (by omega) (by omega) (by omega) (by omega) (by omega), eFI 109 k (by omega) (by omega) (by omega) (by omega) (by omega) (by omega) (by omega) (by omega)]; exact hB k hk
      · rw [eF 65 7 (by omega) (by omega) (by omega), hDC 65 7 (by omega) (by omega), hC7, f2 108 3 (by omega), eA3]
      · intro i j e; unfold dS at e; exact eFI i j (by omega) (by omega) (by omega) (by omega) (by omega) (by omega) (by omega) (by omega)
      · intro i j e; unfold dH at e; exact eFI i j (by omega) (by omega) (by omega) (by omega) (by omega) (by omega) (by omega) (by omega)
      · intro i j e; unfold dCC at e; exact eFI i j (by omega) (by omega) (by omega) (by omega) (by omega) (by omega) (by omega) (by omega)
      · intro i j e; unfold dK at e; exact eFI i j (by omega) (by omega) (by omega) (by omega) (by omega) (by omega) (by omega) (by omega)
      · rw [f2 108 19 (by omega)]; exact eA19
      · rw [eF 75 3 (by omega) (by omega) (by omega), hD75, ← eI3 79 3 (by omega)]; exact R2
      · rw [eF 76 k (by omega) (by omega) (by omega), hD76 k (by omega), ← eI3 80 k (by omega), f3 k hk 0 (by omega), f3 k hk 1 (by omega), eA (290 + k) 0 (by omega) (by omega), eA (290 + k) 1 (by omega) (by omega)]; exact R4 k hk
      · rw [jl_h_eq (y := fun k => J3 (290 + k) 0) (fun k hk => by rw [f3 k hk 0 (by omega), eA (290 + k) 0 (by omega) (by omega)])]; exact R5
  · -- a fault
    have hCm : ∀ i j, i ≠ 65 → ¬ (i = 79 ∨ i = 80) → tx (tf I1 k1 q1) p1 s1 v1 i j = I i j := fun i j n1 n2 => by
      rw [tx_n n1]; unfold tf; rw [ly_uE, if_neg (by omega), ly_uE, if_neg (by omega), o1 i j (by unfold PL; omega), hOo i j n1]
    have hC1 : tx (tf I1 k1 q1) p1 s1 v1 65 1 = nI 0 := by rw [tx_nj (by omega)]; unfold tf; rw [ly_uE, if_neg (by omega), ly_uE, if_neg (by omega), o1 65 1 (by unfold PL; omega)]; exact hO1
    have hC6 : tx (tf I1 k1 q1) p1 s1 v1 65 6 = nI k1 := by rw [tx_nj (by omega)]; unfold tf; rw [ly_uE, if_neg (by omega), ly_uE, if_pos ⟨rfl, rfl⟩]
    have hC7 : tx (tf I1 k1 q1) p1 s1 v1 65 7 = nI q1 := by rw [tx_nj (by omega)]; unfold tf; rw [ly_uE, if_pos ⟨rfl, rfl⟩]
    have hcl2 := hcl _ r1
    rw [ly_cI, i00] at hcl2
    generalize tx (tf I1 k1 q1) p1 s1 v1 = Cm at r1 hCm hC1 hC6 hC7 hcl2
    rw [lr_64_0 h, lg_65 h, hC6] at hcl2
    have e108 : Cm 108 1 = nI F := by rw [hCm 108 1 (by omega) (by omega)]; exact hF2
    refine ⟨c, w, S, Cm, K, ⟨by omega, by omega, by omega, h, rfl, fun j => hCm 0 j (by omega) (by omega)⟩, Or.inl ⟨.int (nI k1 - 10), ⟨_, rfl⟩, hcl2, fun K2 => ?_⟩⟩
    have hb109 : ∀ k, k < 600 → ly_u Cm 108 0 0 109 k = nI (T k) ∧ T k < 256 := fun k hk => by rw [u0 (by omega), hCm 109 k (by omega) (by omega)]; exact ⟨(hTT k hk).2.1, (hTT k hk).2.2⟩
    obtain ⟨RM, hrO, hRM⟩ := lw_both (w := w) (K := K) (K2 := K2) (J := ly_u Cm 108 0 0) h hjkO hO hO3 hN hb109
    rcases hrO with ⟨I3, J3, p3, s3, v3, x1, x2, o3, o4, hPP⟩ | ⟨I3, J3, p3, p4, s3, v3, k3, q3, x1, x2, hk3, o3, o4⟩
    case inl => exact absurd (oI_inj (r1.symm.trans x1)).1 (by decide)
    have hI3 : tx (tf I3 k3 q3) p3 s3 v3 = Cm := m_inj (oI_inj (x1.symm.trans r1)).2
    have ek : k3 = k1 := by
      have e : Cm 65 6 = nI k3 := by rw [← hI3, tx_nj (by omega)]; unfold tf; rw [ly_uE, if_neg (by omega), ly_uE, if_pos ⟨rfl, rfl⟩]
      rw [hC6] at e
      exact ((nI_eq (by omega) (by omega)).mp e).symm
    have eq3 : q3 = q1 := by
      have e : Cm 65 7 = nI q3 := by rw [← hI3, tx_nj (by omega)]; unfold tf; rw [ly_uE, if_pos ⟨rfl, rfl⟩]
      rw [hC7] at e
      exact ((nI_eq (by omega) (by omega)).mp e).symm
    subst ek eq3
    have hJ3 : ∀ i j, ¬ QL i j → ¬ (i = 108 ∧ (j = 0 ∨ j = 1 ∨ j = 2 ∨ j = 7 ∨ j = 8)) → J3 i j = Cm i j := fun i j n1 n2 => by
      rw [o4 i j n1]
      unfold mst
      rw [ly_uE, if_neg (by omega), ly_uE, if_neg (by omega), ly_uE, if_neg (by omega), ly_uE, if_neg (by omega), u0 (by omega)]
    have hJ31 : J3 108 1 = nI 0 ∧ J3 108 0 = nI 0 := by
      constructor
      · rw [o4 108 1 (by unfold QL; omega)]; unfold mst; simp (disch := omega) only [ly_uE, if_neg, if_pos, and_self, if_true]
      · rw [o4 108 0 (by unfold QL; omega)]; unfold mst; simp (disch := omega) only [ly_uE, if_neg, if_pos, and_self, if_true]; rfl
    have eD : ∀ i j, ¬ (i = 108 ∧ 3 ≤ j ∧ j ≤ 6) → mx (ly_u J3 108 3 (nI q3)) p4 k3 (nI q3) i j = J3 i j := fun i j hn => by
      by_cases e : i = 108
      · subst e; rw [mx_nj (by omega), ly_uE, if_neg (by omega)]
      · rw [mx_n e, ly_uE, if_neg (by omega)]
    have eD3 : mx (ly_u J3 108 3 (nI q3)) p4 k3 (nI q3) 108 3 = nI q3 := by rw [mx_nj (by omega), ly_uE, if_pos ⟨rfl, rfl⟩]
    refine ⟨mx (ly_u J3 108 3 (nI q3)) p4 k3 (nI q3), K2, ?_, ?_, ⟨fun j => ?_, n, wd, q, r, a, se, W, G, JJ_t hJ (fun i j e n1 n2 => ?_) ⟨⟨0, by omega, ?_, ?_⟩, fun k hk => ?_, ?_⟩⟩, rfl⟩
    · rw [hmo Cm K2 e108, hRM, x2, ly_cV]
      unfold X9_law_j85 X9_faulty
      rw [lg_108 h, mx5, nk0 ⟨hk3.1, hk3.2.1⟩, lc_108 h, lg_108 h, mx6, lp_108 h, mx_unj (by omega), lg_108 h, mx5, ly_cI]
    · rw [eD 108 0 (by omega)]; exact hJ31.2
    · rw [eD 0 j (by omega), hJ3 0 j (by unfold QL; omega) (by omega), hCm 0 j (by omega) (by omega)]
    · unfold dA dPC dPM dDC dDM dT dS dH dCC dK dL at e
      rw [eD i j (by omega), hJ3 i j (by unfold QL; omega) (by omega), hCm i j n1 (by omega)]
    · rw [eD 65 1 (by omega), hJ3 65 1 (by unfold QL; omega) (by omega)]; exact hC1
    · rw [eD 108 1 (by omega)]; exact hJ31.1
    · rw [eD 66 k (by omega), hJ3 66 k (by unfold QL; omega) (by omega), hCm 66 k (by omega) (by omega), eD 109 k (by omega), hJ3 109 k (by unfold QL; omega) (by omega), hCm 109 k (by omega) (by omega)]; exact hB k hk
    · rw [eD 65 7 (by omega), hJ3 65 7 (by unfold QL; omega) (by omega), hC7, eD3]
end LAW
