/-! page: both agree -/
section PAN
variable {c w : Nat} {S : Nat → pmS} {I I1 I2 J J1 A B E O : Nat → Nat → Int32} {K K2 : Nat → Nat → Int64} {T : Nat → Nat} {L p g n N : Nat} {s v x : Int32} {wd : Nat → Nat} {q : Nat → Nat → Nat} {r : Nat → Int32} {a : Nat} {se : Nat → Nat} {W G : Nat}
theorem pg_both (h : ly c S) (hjk : jk O) (hO : tB O T N) (hO3 : O 65 3 = nI 0) (hJ : ∀ k, k < 600 → J 109 k = nI (T k) ∧ T k < 256) : ∃ RM, rO c w S K K2 PC PM O (mst J N) (-1) (fun I1 J1 _ => ∃ n, PP I1 J1 n) (X2_readFrom 71 65 (c, w, S, O, K)) RM ∧ (pm_cV (X9_starts 108 (nI N) (c, w, S, J, K2)) fun m7 => pm_rc 9 108 m7 <| pm_cV (X9_tellsNothing 108 m7) fun m8 => pm_lp pm_N (X9_page_L42 108) m8) = pm_cV RM (X9_page_j71 108) := by
  have hN := hO.2.1
  obtain ⟨B1, b1, b2, b3, b4, b5, b6⟩ := rf_C (w := w) (K := K) (B := O) (p := 0) (s := O 65 4) (v := O 65 5) h
  rw [← tx_in hO3] at b1
  obtain ⟨m1, m2⟩ := ms_ok (w := w) (K := K2) (I := J) (T := T) (N := N) h hN hJ
  obtain ⟨J1, t1, t2, t3, t4, t5, t6⟩ := tn_M (w := w) (K2 := K2) (J := mst J N) (p := tS T N 0) (g := 0) (x := -1) h
  have hP : PP B1 J1 0 := ⟨by omega, ⟨b3, t3⟩, fun l hl => by omega, b4, ⟨by rw [t4, b5], 60, by omega, b5⟩, fun k hk => ⟨by rw [t5 k hk, b6 k hk], 0, by omega, b6 k hk⟩⟩
  have h7 : J1 108 7 = nI 0 := by rw [t6]; unfold mst; simp (disch := omega) only [ly_uE, if_neg, if_pos, and_self, if_true]
  obtain ⟨RM, r1, r2⟩ := pr_loop (w := w) (K := K) (K2 := K2) (k := 0) (p := 0) (s := O 65 4) (v := O 65 5) (x := -1) h (PC_T hO b2) (PM_T m2 t2) (PC_jk hjk b2) (by omega) hP (by omega) h7
  refine ⟨RM, ?_, ?_⟩
  · rw [b1]
    exact rO_m r1 (fun _ _ e => e) (fun _ _ e => e) b2 t2 (fun _ _ _ _ _ e => e)
  · rw [m1, ly_cV, lc_108 h, t1, ly_cV]
    exact r2
def pwd (C : Nat → Nat → Int32) (n l : Nat) : Nat := if l < n then nz (C 72 l) else 0
def pqq (C : Nat → Nat → Int32) (l i : Nat) : Nat := nz (C 73 (l * 8 + i))
def prw (C : Nat → Nat → Int32) (k : Nat) : Int32 := if k < 6 then nI 0 else if k < 10 then C 74 (k - 6) else if k = 10 then C 71 5 else nI 0
theorem oI_inj {y z : Int32} {m m2 : pmM} (h : pm_oI y m = pm_oI z m2) : y = z ∧ m = m2 := by
  have h1 := Option.some.inj h
  have h2 := Prod.mk.inj h1
  refine ⟨?_, h2.2⟩
  have h3 := Option.some.inj (Sum.inl.inj h2.1)
  injection h3
theorem m_inj {A B : Nat → Nat → Int32} (h : ((c, w, S, A, K) : pmM) = (c, w, S, B, K)) : A = B := congrArg (fun m : pmM => m.2.2.2.1) h
theorem ca_page (y : Int32) (h : ly c S) (hJ : JJ I n wd q r a se W G) : ag isI (I 0) c w S (fun k => k) (X8_page 64 y (c, w, S, I, K)) (X9_page 108 y) := by
  obtain ⟨hPC, hPM, hDC, hDM, hr, hT, hS, hH, hc, hk, hL⟩ := id hJ
  obtain ⟨T, hTT⟩ := jt_T hT
  obtain ⟨⟨F, hF6, hF1, hF2⟩, hB, hfa⟩ := hT
  by_cases hy : 0 ≤ y ∧ y ≤ nI F
  case neg =>
    refine ag_no (K := K) (k := 1) (b := .int 0) h hJ (by omega) ⟨_, rfl⟩ ?_ (fun c1 w1 S1 I1 K2 h1 hI => ?_)
    · unfold X8_page
      rw [lc_64 h, op_no h hF1 (fun e => hy ⟨e.1, e.2.2⟩), rx_cV]
    · have e1 : ly_u I1 108 0 0 108 1 = nI F := by rw [u0 (by omega), hI 108 1 (by omega) (by omega)]; exact hF2
      unfold X9_page X9_page_j23
      rw [lp_108 h1, lg_108 h1, e1, rm_in, ly_cI, decide_eq_false hy, ib0, lc_108 h1, bad_11 h1, ly_cI, i10]
  obtain ⟨N, hN31, rfl⟩ := nI_of (nI_lt0 hy.1)
  have hNF : N ≤ F := (nI_leI hN31 (by omega)).mp hy.2
  obtain ⟨hO, hO3, hO1, hO7, hOo⟩ := op_B (N := N) hTT (by omega)
  have hcl : ∀ RC : pmR, X2_readFrom 71 65 (c, w, S, opn I N, K) = RC → X8_page 64 (nI N) (c, w, S, I, K) = pm_cI RC fun x5 m4 => if x5 = 0 then (pm_gR 8 64 0 m4 fun r20 => pm_gI 7 r20 6 m4 fun x21 => pm_oI (x21 - 10) m4) else X8_pgE m4 := fun RC hRC => by
    unfold X8_page
    rw [lc_64 h, op_ok h hF1 hF6 hNF (show nI N ≤ 600 from nI_le (b := 600) (by omega) (by omega)), ly_cV, lr_64_2 h, lr_64_0 h, lc_71 h, hRC]
    rfl
  have hjkO : jk (opn I N) := jk_o (P := fun i _ => i = 65) hk (fun i j hn => hOo i j hn) (fun i j hi => by omega)
  have hmo : ∀ (Dm : Nat → Nat → Int32) (K2 : Nat → Nat → Int64), Dm 108 1 = nI F → X9_page 108 (nI N) (c, w, S, Dm, K2) = (pm_cV (X9_starts 108 (nI N) (c, w, S, ly_u Dm 108 0 0, K2)) fun m7 => pm_rc 9 108 m7 <| pm_cV (X9_tellsNothing 108 m7) fun m8 => pm_lp pm_N (X9_page_L42 108) m8) := fun Dm K2 e => by
    unfold X9_page X9_page_j23
    rw [lp_108 h, lg_108 h, u0 (by omega), e, rm_in, ly_cI, decide_eq_true hy, ib1, lc_108 h, bad_z h, ly_cI, i00, lc_108 h]
  obtain ⟨RM0, hrO, -⟩ := pg_both (w := w) (K := K) (K2 := K) (J := I) h hjkO hO hO3 (fun k hk => ⟨(hTT k hk).2.1, (hTT k hk).2.2⟩)
  rcases hrO with ⟨I1, J1, p1, s1, v1, r1, -, o1, -, -⟩ | ⟨I1, J1, p1, p2, s1, v1, k1, q1, r1, -, hk1, o1, -⟩
  · -- read well
    have hCm : ∀ i j, i ≠ 65 → ¬ (71 ≤ i ∧ i ≤ 74) → tx I1 p1 s1 v1 i j = I i j := fun i j n1 n2 => by rw [tx_n n1, o1 i j (by unfold PC; omega), hOo i j n1]
    have hC1 : tx I1 p1 s1 v1 65 1 = nI 0 := by rw [tx_nj (by omega), o1 65 1 (by unfold PC; omega)]; exact hO1
    have hC7 : tx I1 p1 s1 v1 65 7 = -1 := by rw [tx_nj (by omega), o1 65 7 (by unfold PC; omega)]; exact hO7
    have hcl2 := hcl _ r1
    rw [ly_cI, i10] at hcl2
    generalize tx I1 p1 s1 v1 = Cm at r1 hCm hC1 hC7 hcl2
    obtain ⟨Dm, d1, d2, ⟨d3, d4⟩, d5, d6, ⟨d7, d8⟩, ⟨d9, d10, d11, d12⟩, d13, d14, d15, d16, d17, d18⟩ := ep_C (w := w) (K := K) (A := Cm) h
    have hDm : ∀ i j, ¬ PG i j → i ≠ 65 → ¬ (71 ≤ i ∧ i ≤ 74) → Dm i j = I i j := fun i j n1 n2 n3 => by rw [d2 i j n1]; exact hCm i j n2 n3
    have e108 : Dm 108 1 = nI F := by rw [hDm 108 1 (by unfold PG; omega) (by omega) (by omega)]; exact hF2
    refine ⟨c, w, S, Dm, K, ⟨by omega, by omega, by omega, h, rfl, fun j => hDm 0 j (by unfold PG; omega) (by omega) (by omega)⟩, Or.inl ⟨.int (Cm 71 4), ⟨_, rfl⟩, hcl2.trans d1, fun K2 => ?_⟩⟩
    have hb109 : ∀ k, k < 600 → ly_u Dm 108 0 0 109 k = nI (T k) ∧ T k < 256 := fun k hk => by rw [u0 (by omega), hDm 109 k (by unfold PG; omega) (by omega) (by omega)]; exact ⟨(hTT k hk).2.1, (hTT k hk).2.2⟩
    obtain ⟨RM, hrO, hRM⟩ := pg_both (w := w) (K := K) (K2 := K2) (J := ly_u Dm 108 0 0) h hjkO hO hO3 hb109
    rcases hrO with ⟨I3, J3, p3, s3, v3, x1, x2, o3, o4, n1, hPP⟩ | ⟨I3, J3, p3, p4, s3, v3, k3, q3, x1, -, -, -, -⟩
    case inr => exact absurd (oI_inj (r1.symm.trans x1)).1 (by decide)
    have hI3 : tx I3 p3 s3 v3 = Cm := m_inj (oI_inj (x1.symm.trans r1)).2
    have eI3 : ∀ i j, i ≠ 65 → I3 i j = Cm i j := fun i j n1 => by rw [← hI3, tx_n n1]
    obtain ⟨P1, ⟨P2, P3⟩, P4, P5, ⟨P6, zi, P7, P8⟩, P9⟩ := hPP
    -- the model
    have eA : ∀ i j, ¬ (i = 108 ∧ 3 ≤ j ∧ j ≤ 6) → mx (ly_u J3 108 3 (-1)) p3 0 (-1) i j = J3 i j := fun i j hn => by
      by_cases e : i = 108
      · subst e; rw [mx_nj (by omega), ly_uE, if_neg (by omega)]
      · rw [mx_n e, ly_uE, if_neg (by omega)]
    have eA3 : mx (ly_u J3 108 3 (-1)) p3 0 (-1) 108 3 = -1 := by rw [mx_nj (by omega), ly_uE, if_pos ⟨rfl, rfl⟩]
    obtain ⟨D2, f1, fo, f13, f113, f122, f535, f6, f10, f11, f19, f33, f34, f35, f36⟩ := ba_M (w := w) (K := K2) (A := mx (ly_u J3 108 3 (-1)) p3 0 (-1)) h P1 (by rw [eA 108 11 (by omega)]; exact P3)
    have hJ3 : ∀ i j, ¬ PM i j → ¬ (i = 108 ∧ (j = 0 ∨ j = 1 ∨ j = 2 ∨ j = 7 ∨ j = 8)) → J3 i j = Dm i j := fun i j n1 n2 => by
      rw [o4 i j n1]
      unfold mst
      rw [ly_uE, if_neg (by omega), ly_uE, if_neg (by omega), ly_uE, if_neg (by omega), ly_uE, if_neg (by omega), u0 (by omega)]
    have hJ31 : J3 108 1 = nI 0 ∧ J3 108 0 = nI 0 := by
      constructor
      · rw [o4 108 1 (by unfold PM; omega)]; unfold mst; simp (disch := omega) only [ly_uE, if_neg, if_pos, and_self, if_true]
      · rw [o4 108 0 (by unfold PM; omega)]; unfold mst; simp (disch := omega) only [ly_uE, if_neg, if_pos, and_self, if_true]; rfl
    generalize hA2 : mx (ly_u J3 108 3 (-1)) p3 0 (-1) = A2 at eA eA3 f1 fo f113 f122 f6 f10
    have eF : ∀ i j, ¬ PH i j → ¬ (i = 108 ∧ 3 ≤ j ∧ j ≤ 6) → ¬ PM i j → ¬ (i = 108 ∧ (j = 0 ∨ j = 1 ∨ j = 2 ∨ j = 7 ∨ j = 8)) → D2 i j = Dm i j := fun i j n1 n2 n3 n4 => by rw [fo i j n1, eA i j n2]; exact hJ3 i j n3 n4
    have eCl : ∀ i j, i < 108 → D2 i j = Dm i j := fun i j hi => eF i j (by unfold PH; omega) (by omega) (by unfold PM; omega) (by omega)
    have eFI : ∀ i j, ¬ PH i j → ¬ (i = 108 ∧ 0 ≤ j ∧ j ≤ 8) → ¬ PM i j → ¬ PG i j → i ≠ 65 → ¬ (71 ≤ i ∧ i ≤ 74) → D2 i j = I i j := fun i j n1 n2 n3 n4 n5 n6 => by rw [eF i j n1 (by omega) n3 (by omega)]; exact hDm i j n4 n5 n6
    have kk : ∀ l, l < n1 → ∃ k, 1 ≤ k ∧ k ≤ 8 ∧ Cm 72 l = nI k ∧ J3 112 l = nI k ∧ ∀ i, i < k → ∃ z, z < 16 ∧ Cm 73 (l * 8 + i) = nI z ∧ J3 (115 + l) i = nI z := fun l hl => by
      obtain ⟨e1, k, k1, k2, k3, k4⟩ := P4 l hl
      rw [eI3 72 l (by omega)] at e1 k3
      refine ⟨k, k1, k2, k3, by rw [e1, k3], fun i hi => ?_⟩
      obtain ⟨y1, z, z1, z2⟩ := k4 i hi
      rw [eI3 73 _ (by omega)] at y1 z2
      exact ⟨z, z1, z2, by rw [y1, z2]⟩
    have wdv : ∀ l k, Cm 72 l = nI k → k ≤ 8 → l < n1 → pwd Cm n1 l = k := fun l k e1 e2 e3 => by unfold pwd; rw [if_pos e3, e1]; exact nI_clamp (by omega)
    have hW : pg_W n1 (pwd Cm n1) (pqq Cm) := by
      refine ⟨P1, fun l hl => ?_, fun l hl => by unfold pwd; exact if_neg (by omega), fun l i hl hi => ?_⟩
      · obtain ⟨k, k1, k2, k3, -, -⟩ := kk l hl
        rw [wdv l k k3 k2 hl]; exact ⟨k1, k2⟩
      · obtain ⟨k, k1, k2, k3, -, k5⟩ := kk l hl
        rw [wdv l k k3 k2 hl] at hi
        obtain ⟨z, z1, z2, -⟩ := k5 i hi
        unfold pqq
        rw [z2]; unfold nz; rw [nI_clamp (by omega)]; exact z1
    have hsum : rd_sum (pwd Cm n1) n1 = rd_sum (fun l => nz (I3 72 l)) n1 := rd_sum_congr (fun l hl => by unfold pwd; rw [if_pos hl, eI3 72 l (by omega)])
    have hC4 : Cm 71 4 = nI (rd_sum (pwd Cm n1) n1) := by rw [hsum, ← P5, eI3 71 4 (by omega)]
    have hC3 : Cm 71 3 = nI n1 := by rw [← eI3 71 3 (by omega)]; exact P2
    have hC5 : Cm 71 5 = nI zi := by rw [← eI3 71 5 (by omega)]; exact P8
    have hpM : pg_M D2 n1 (pwd Cm n1) (pqq Cm) := by
      refine ⟨hW, f13, fun l hl => ?_, fun l i hl hi => ?_⟩
      · rw [f113 l hl]
        by_cases hl2 : l < n1
        · obtain ⟨k, k1, k2, k3, k4, -⟩ := kk l hl2
          rw [if_pos hl2, eA 112 l (by omega), k4, wdv l k k3 k2 hl2]
        · unfold pwd; rw [if_neg hl2, if_neg hl2]
      · obtain ⟨k, k1, k2, k3, -, k5⟩ := kk l hl
        rw [wdv l k k3 k2 hl] at hi
        obtain ⟨z, z1, z2, z3⟩ := k5 i hi
        unfold pqq
        rw [f122 l hl i (by omega), eA _ _ (by omega), z3, z2, show nz (nI z) = z from nI_clamp (by omega)]
    refine ⟨D2, K2, ?_, ?_, ⟨fun j => eFI 0 j (by unfold PH; omega) (by omega) (by unfold PM; omega) (by unfold PG; omega) (by omega) (by omega), n1, pwd Cm n1, pqq Cm, prw Cm, 0, fun _ => 0, 0, 0, ?_⟩, rfl⟩
    · rw [hmo Dm K2 e108, hRM, x2, ly_cV]
      unfold X9_page_j71
      rw [lg_108 h, mx5, n00, lp_108 h, mx_unj (by omega), lc_108 h, hA2, f1, ly_cV, lc_108 h, rm_words h hpM, ly_cI, hC4]
    · rw [fo 108 0 (by unfold PH; omega), eA 108 0 (by omega)]; exact hJ31.2
    · have r6 : ∀ k, k < 4 → prw Cm (6 + k) = Cm 74 k := fun k hk => by
        unfold prw
        rw [if_neg (by omega), if_pos (by omega), show 6 + k - 6 = k by omega]
      obtain ⟨-, -, -, -, -, -, b7, -, b9, -⟩ := hH
      refine ⟨⟨hW, ?_, fun l hl => ?_, fun l i hl hi => ?_, ?_⟩, hpM, ⟨fun l hl => ?_, fun k hk => ?_, ?_, ?_, ?_, ?_⟩, fun k hk => ?_, ⟨fun l hl => ?_, fun k hk => ?_, ⟨?_, ?_⟩, ⟨?_, ?_⟩⟩, ⟨⟨0, by omega, ?_, ?_⟩, fun k hk => ?_, ?_⟩, ⟨by omega, ?_, ?_, fun k hk => by omega⟩, ⟨by omega, by omega, ?_, ?_, ?_, ?_, fun v hv => ?_, fun v hv => by omega, fun g hg => ⟨?_, ?_, fun v hv => ?_⟩, fun g hg => by omega⟩, ⟨?_, ?_, ?_⟩, jk_c hk (fun i j e => ?_), ⟨0, by omega, f19, Or.inl ⟨rfl, ?_, fun j hj => ?_⟩⟩⟩
      · rw [eCl 67 3 (by omega), d3]; exact hC3
      · obtain ⟨k, k1, k2, k3, -, -⟩ := kk l hl
        rw [eCl 68 l (by omega), d5 l (by omega), wdv l k k3 k2 hl, k3]
      · obtain ⟨k, k1, k2, k3, -, k5⟩ := kk l hl
        rw [wdv l k k3 k2 hl] at hi
        obtain ⟨z, z1, z2, -⟩ := k5 i hi
        unfold pqq
        rw [eCl 69 _ (by omega), d6 _ (by omega), z2, show nz (nI z) = z from nI_clamp (by omega)]
      · rw [eCl 67 4 (by omega), d4]; exact hC4
      · rw [eCl _ _ (by omega)]; unfold prw; rw [if_pos hl]; exact d13 l hl
      · rw [eCl _ _ (by omega), r6 k hk]; exact d14 k hk
      · rw [eCl _ _ (by omega)]; exact d16
      · rw [eCl _ _ (by omega)]; exact d15
      · rw [eCl _ _ (by omega)]; exact d17
      · rw [eCl _ _ (by omega)]; exact d18
      · by_cases c1 : k < 6
        · unfold prw; rw [if_pos c1]; exact f535 k c1
        · by_cases c2 : k < 10
          · have := f6 (k - 6) (by omega)
            rw [show 6 + (k - 6) = k by omega] at this
            unfold prw
            rw [if_neg c1, if_pos c2, this, eA 111 _ (by omega), (P9 (k - 6) (by omega)).1, eI3 74 _ (by omega)]
          · by_cases c3 : k = 10
            · subst c3
              unfold prw
              rw [if_neg c1, if_neg c2, if_pos rfl, f10, eA 108 12 (by omega), P6, eI3 71 5 (by omega)]
            · unfold prw
              rw [if_neg c1, if_neg c2, if_neg c3]; exact f11 k (by omega) hk
      · have e : prw Cm l = nI 0 := if_pos hl
        unfold rd_s
        rw [e]
        exact ⟨rfl, Nat.two_pow_pos _⟩
      · obtain ⟨-, z, z1, z2⟩ := P9 k hk
        rw [eI3 74 _ (by omega)] at z2
        unfold rd_s
        rw [r6 k hk, z2, nI_clamp (by omega)]
        exact ⟨rfl, by omega⟩
      · unfold rd_s
        show Cm 71 5 = nI (Cm 71 5).toNatClampNeg
        rw [hC5, nI_clamp (by omega)]
      · unfold rd_s
        show (Cm 71 5).toNatClampNeg ≤ 200
        rw [hC5, nI_clamp (by omega)]; exact P7
      · rfl
      · unfold rd_s
        show (nI 0).toNatClampNeg ≤ n1
        rw [nI_clamp (by omega)]; omega
      · rw [eCl 65 1 (by omega), d2 65 1 (by unfold PG; omega)]; exact hC1
      · rw [fo 108 1 (by unfold PH; omega), eA 108 1 (by omega)]; exact hJ31.1
      · rw [eCl 66 k (by omega), hDm 66 k (by unfold PG; omega) (by omega) (by omega), eFI 109 k (by unfold PH; omega) (by omega) (by unfold PM; omega) (by unfold PG; omega) (by omega) (by omega)]; exact hB k hk
      · rw [eCl 65 7 (by omega), d2 65 7 (by unfold PG; omega), hC7, fo 108 3 (by unfold PH; omega), eA3]
      · rw [eCl 83 1 (by omega)]; exact d9
      · exact f33
      · rw [eCl 99 2 (by omega)]; exact d10
      · exact f34
      · rw [eCl 99 3 (by omega)]; exact d11
      · exact f36
      · exact dk_R_eq (b7 v hv) (fun k _ => eFI _ _ (by unfold PH; omega) (by omega) (by unfold PM; omega) (by unfold PG; omega) (by omega) (by omega)) (fun k _ => eFI _ _ (by unfold PH; omega) (by omega) (by unfold PM; omega) (by unfold PG; omega) (by omega) (by omega))
      · exact dk_R_eq (b9 g hg).1 (fun k _ => eFI _ _ (by unfold PH; omega) (by omega) (by unfold PM; omega) (by unfold PG; omega) (by omega) (by omega)) (fun k _ => eFI _ _ (by unfold PH; omega) (by omega) (by unfold PM; omega) (by unfold PG; omega) (by omega) (by omega))
      · rw [eFI 101 g (by unfold PH; omega) (by omega) (by unfold PM; omega) (by unfold PG; omega) (by omega) (by omega), eFI (555 + g) 0 (by unfold PH; omega) (by omega) (by unfold PM; omega) (by unfold PG; omega) (by omega) (by omega)]; exact (b9 g hg).2.1
      · exact dk_R_eq ((b9 g hg).2.2 v hv) (fun k _ => eFI _ _ (by unfold PH; omega) (by omega) (by unfold PM; omega) (by unfold PG; omega) (by omega) (by omega)) (fun k _ => eFI _ _ (by unfold PH; omega) (by omega) (by unfold PM; omega) (by unfold PG; omega) (by omega) (by omega))
      · rw [eCl 64 12 (by omega), d12, f35]
      · rw [eFI 64 13 (by unfold PH; omega) (by omega) (by unfold PM; omega) (by unfold PG; omega) (by omega) (by omega), eFI 110 0 (by unfold PH; omega) (by omega) (by unfold PM; omega) (by unfold PG; omega) (by omega) (by omega)]; exact hc.2.1
      · rw [eFI 64 14 (by unfold PH; omega) (by omega) (by unfold PM; omega) (by unfold PG; omega) (by omega) (by omega), eFI 110 1 (by unfold PH; omega) (by omega) (by unfold PM; omega) (by unfold PG; omega) (by omega) (by omega)]; exact hc.2.2
      · unfold dK at e; exact eFI i j (by unfold PH; omega) (by omega) (by unfold PM; omega) (by unfold PG; omega) (by omega) (by omega)
      · rw [eCl 75 3 (by omega)]; exact d7
      · rw [eCl 76 j (by omega), d8 j hj, hCm 1 j (by omega) (by omega)]; exact hk.1 j hj
  · -- a fault
    have hCm : ∀ i j, i ≠ 65 → ¬ (71 ≤ i ∧ i ≤ 74) → tx (tf I1 k1 q1) p1 s1 v1 i j = I i j := fun i j n1 n2 => by
      rw [tx_n n1]; unfold tf; rw [ly_uE, if_neg (by omega), ly_uE, if_neg (by omega), o1 i j (by unfold PC; omega), hOo i j n1]
    have hC1 : tx (tf I1 k1 q1) p1 s1 v1 65 1 = nI 0 := by rw [tx_nj (by omega)]; unfold tf; rw [ly_uE, if_neg (by omega), ly_uE, if_neg (by omega), o1 65 1 (by unfold PC; omega)]; exact hO1
    have hC6 : tx (tf I1 k1 q1) p1 s1 v1 65 6 = nI k1 := by rw [tx_nj (by omega)]; unfold tf; rw [ly_uE, if_neg (by omega), ly_uE, if_pos ⟨rfl, rfl⟩]
    have hC7 : tx (tf I1 k1 q1) p1 s1 v1 65 7 = nI q1 := by rw [tx_nj (by omega)]; unfold tf; rw [ly_uE, if_pos ⟨rfl, rfl⟩]
    have hcl2 := hcl _ r1
    rw [ly_cI, i00] at hcl2
    generalize tx (tf I1 k1 q1) p1 s1 v1 = Cm at r1 hCm hC1 hC6 hC7 hcl2
    rw [lr_64_0 h, lg_65 h, hC6] at hcl2
    have e108 : Cm 108 1 = nI F := by rw [hCm 108 1 (by omega) (by omega)]; exact hF2
    refine ⟨c, w, S, Cm, K, ⟨by omega, by omega, by omega, h, rfl, fun j => hCm 0 j (by omega) (by omega)⟩, Or.inl ⟨.int (nI k1 - 10), ⟨_, rfl⟩, hcl2, fun K2 => ?_⟩⟩
    have hb109 : ∀ k, k < 600 → ly_u Cm 108 0 0 109 k = nI (T k) ∧ T k < 256 := fun k hk => by rw [u0 (by omega), hCm 109 k (by omega) (by omega)]; exact ⟨(hTT k hk).2.1, (hTT k hk).2.2⟩
    obtain ⟨RM, hrO, hRM⟩ := pg_both (w := w) (K := K) (K2 := K2) (J := ly_u Cm 108 0 0) h hjkO hO hO3 hb109
    rcases hrO with ⟨I3, J3, p3, s3, v3, x1, x2, o3, o4, hPP⟩ | ⟨I3, J3, p3, p4, s3, v3, k3, q3, x1, x2, hk3, o3, o4⟩
    case inl => exact absurd (oI_inj (r1.symm.trans x1)).1 (by decide)
    have hI3 : tx (tf I3 k3 q3) p3 s3 v3 = Cm := m_inj (oI_inj (x1.symm.trans r1)).2
    have ek : k3 = k1 := by
      have e : Cm 65 6 = nI k3 := by rw [← hI3, tx_nj (by omega)]; unfold tf; rw [ly_uE, if_neg (by omega), ly_uE, if_pos ⟨rfl, rfl⟩]
      rw [hC6] at e
      exact ((nI_eq (by omega) (by omega)).mp e).symm
    have eq3 : q3 = q1 := by
      have e : Cm 65 7 = nI q3 := by rw [← hI3, tx_nj (by omega)]; unfold tf; rw [ly_uE, if_pos ⟨rfl, rfl⟩]
      rw [hC7] at e
      exact ((nI_eq (by omega) (by omega)).mp e).symm
    subst ek eq3
    have hJ3 : ∀ i j, ¬ PM i j → ¬ (i = 108 ∧ (j = 0 ∨ j = 1 ∨ j = 2 ∨ j = 7 ∨ j = 8)) → J3 i j = Cm i j := fun i j n1 n2 => by
      rw [o4 i j n1]
      unfold mst
      rw [ly_uE, if_neg (by omega), ly_uE, if_neg (by omega), ly_uE, if_neg (by omega), ly_uE, if_neg (by omega), u0 (by omega)]
    have hJ31 : J3 108 1 = nI 0 ∧ J3 108 0 = nI 0 := by
      constructor
      · rw [o4 108 1 (by unfold PM; omega)]; unfold mst; simp (disch := omega) only [ly_uE, if_neg, if_pos, and_self, if_true]
      · rw [o4 108 0 (by unfold PM; omega)]; unfold mst; simp (disch := omega) only [ly_uE, if_neg, if_pos, and_self, if_true]; rfl
    have eD : ∀ i j, ¬ (i = 108 ∧ 3 ≤ j ∧ j ≤ 6) → mx (ly_u J3 108 3 (nI q3)) p4 k3 (nI q3) i j = J3 i j := fun i j hn => by
      by_cases e : i = 108
      · subst e; rw [mx_nj (by omega), ly_uE, if_neg (by omega)]
      · rw [mx_n e, ly_uE, if_neg (by omega)]
    have eD3 : mx (ly_u J3 108 3 (nI q3)) p4 k3 (nI q3) 108 3 = nI q3 := by rw [mx_nj (by omega), ly_uE, if_pos ⟨rfl, rfl⟩]
    refine ⟨mx (ly_u J3 108 3 (nI q3)) p4 k3 (nI q3), K2, ?_, ?_, ⟨fun j => ?_, n, wd, q, r, a, se, W, G, JJ_t hJ (fun i j e n1 n2 => ?_) ⟨⟨0, by omega, ?_, ?_⟩, fun k hk => ?_, ?_⟩⟩, rfl⟩
    · rw [hmo Cm K2 e108, hRM, x2, ly_cV]
      unfold X9_page_j71 X9_faulty
      rw [lg_108 h, mx5, nk0 ⟨hk3.1, hk3.2.1⟩, lc_108 h, lg_108 h, mx6, lp_108 h, mx_unj (by omega), lg_108 h, mx5, ly_cI]
    · rw [eD 108 0 (by omega)]; exact hJ31.2
    · rw [eD 0 j (by omega), hJ3 0 j (by unfold PM; omega) (by omega), hCm 0 j (by omega) (by omega)]
    · unfold dA dPC dPM dDC dDM dT dS dH dCC dK dL at e
      rw [eD i j (by omega), hJ3 i j (by unfold PM; omega) (by omega), hCm i j n1 (by omega)]
    · rw [eD 65 1 (by omega), hJ3 65 1 (by unfold PM; omega) (by omega)]; exact hC1
    · rw [eD 108 1 (by omega)]; exact hJ31.1
    · rw [eD 66 k (by omega), hJ3 66 k (by unfold PM; omega) (by omega), hCm 66 k (by omega) (by omega), eD 109 k (by omega), hJ3 109 k (by unfold PM; omega) (by omega), hCm 109 k (by omega) (by omega)]; exact hB k hk
    · rw [eD 65 7 (by omega), hJ3 65 7 (by unfold PM; omega) (by omega), hC7, eD3]
end PAN
