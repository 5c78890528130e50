/-! what a stroke costs: cost, would -/
section CST
variable {c w : Nat} {S : Nat → pmS} {I I1 I2 J : Nat → Nat → Int32} {K K1 : Nat → Nat → Int64} {n : Nat} {wd : Nat → Nat} {q : Nat → Nat → Nat} {r : Nat → Int32} {a : Nat} {se : Nat → Nat} {W G d : Nat} {lw : (Nat → Int32) → Int32}
theorem nI_and (a b : Nat) : nI a &&& nI b = nI (a &&& b) := by
  apply Int32.toBitVec_inj.mp
  simp [nI, BitVec.ofNat_and]
def bsp (i j : Nat) : Nat := 2 ^ (j + 1) - 2 ^ i
theorem bsp_f : ∀ i, i < 8 → ∀ j, j < 8 → i ≤ j → ((((1 : Int32) <<< (((nI j - nI i) + 1) &&& 31)) - 1) <<< (nI i &&& 31)) = nI (bsp i j) ∧ (((1 : Int32) <<< ((nI j + 1) &&& 31)) - ((1 : Int32) <<< (nI i &&& 31))) = nI (bsp i j) ∧ bsp i j < 256 ∧ bsp i j < 2 ^ (j + 1) := by decide +kernel
theorem bs_C {i j : Nat} {m : pmM} (hj : j < 8) (hij : i ≤ j) : X8_bitsOf (nI i) (nI j) m = pm_oI (nI (bsp i j)) m := by
  unfold X8_bitsOf
  rw [(bsp_f i (by omega) j hj hij).1]
theorem bs_M {i j : Nat} {m : pmM} (hj : j < 8) (hij : i ≤ j) : X9_span2 (nI i) (nI j) m = pm_oI (nI (bsp i j)) m := by
  unfold X9_span2
  rw [(bsp_f i (by omega) j hj hij).2.1]
/-- what is known of a stroke -/
def knr (n : Nat) (wd : Nat → Nat) (r : Nat → Int32) (l i j : Nat) : Nat → Int32 := kn7 (nI (j - i + 1)) (nI (rd_pc (rd_s r l &&& bsp i j))) (nI i) (nI l) (nI (rd_la n wd (rd_s r))) (r 10) (r 6)
theorem and_b {s b : Nat} (hs : s < 256) : s &&& b < 256 := Nat.lt_of_le_of_lt Nat.and_le_left hs
theorem po_C {l i j : Nat} (h : ly c S) (hP : pg_C I n wd q) (hd : dk d) (hC : dk_C I d r) (hr : dk_W n wd r) (hL : jl I) (hl : l < n) (hj : j < 8) (hij : i ≤ j) : ∃ I1, X0_priceOf d (nI l) (nI i) (nI j) (c, w, S, I, K) = pm_oI (nI (clp (lwp I (knr n wd r l i j)))) (c, w, S, I1, K) ∧ only P78 I I1 := by
  have hn6 := hP.1.1
  have e2 := dk_s hC hr (show l < 6 by omega)
  have hb := rd_sb hP.1 hr (show l < 6 by omega)
  have e0 := hC.2.1 0 (by omega)
  have e5 := hC.2.2.1
  unfold X0_priceOf
  rw [lk_2 h hd, lk_l1 h hd (by omega), e2, bs_C hj hij, ly_cI, nI_and, rd_bc (and_b hb), ly_cI, lk_1 h hd, lk_c h hd, rd_leftInAll h hP hd hC hr, ly_cI, lk_g h hd, e5, lk_3 h hd, ld_i (i := 0) 0 rfl, lk_l2 h hd (by omega), e0, lc_75 h, pk_sub hij, nI_1]
  obtain ⟨I1, g1, g2⟩ := pc_C (w := w) (K := K) (a0 := nI (j - i + 1)) (a1 := nI (rd_pc (rd_s r l &&& bsp i j))) (a2 := nI i) (a3 := nI l) (a4 := nI (rd_la n wd (rd_s r))) (a5 := r 10) (a6 := r (6 + 0)) h hL
  rw [g1, ly_cI]
  exact ⟨I1, rfl, g2⟩
theorem po_M {l i j : Nat} (h : ly c S) (hP : pg_M I n wd q) (ha : rwa a) (hC : dk_M I a r) (hr : dk_W n wd r) (hL : jl I) (hl : l < n) (hj : j < 8) (hij : i ≤ j) : ∃ I1, X9_costOf 108 a (nI l) (nI i) (nI j) (c, w, S, I, K) = pm_oI (nI (clp (lwp I (knr n wd r l i j)))) (c, w, S, I1, K) ∧ only P45 I I1 := by
  have hn6 := hP.1.1
  have e2 := dm_s hC hr (show l < 6 by omega)
  have hb := rd_sb hP.1 hr (show l < 6 by omega)
  unfold X9_costOf
  rw [show (0 : Int32) + nI l = nI l from Int32.zero_add _, lw_l h ha (by omega), e2, bs_M hj hij, ly_cI, nI_and, rm_ones (and_b hb), ly_cI, lc_108 h, rm_leftAll h hP ha hC hr, ly_cI, ld_i (i := 10) 10 rfl, lw_l h ha (by omega), hC 10 (by omega), ld_i (i := 6) 6 rfl, lw_l h ha (by omega), hC 6 (by omega), lc_108 h, pk_sub hij, nI_1]
  obtain ⟨I1, g1, g2⟩ := pc_M (w := w) (K := K) (a0 := nI (j - i + 1)) (a1 := nI (rd_pc (rd_s r l &&& bsp i j))) (a2 := nI i) (a3 := nI l) (a4 := nI (rd_la n wd (rd_s r))) (a5 := r 10) (a6 := r 6) h hL
  rw [g1, ly_cI]
  exact ⟨I1, rfl, g2⟩
theorem P78_s (h : only P78 I I1) : same I I1 := fun i j hn => h i j (fun e => hn (by unfold P78 at e; unfold sc; omega))
theorem P45_s (h : only P45 I I1) : same I I1 := fun i j hn => h i j (fun e => hn (by unfold P45 at e; unfold sc; omega))
theorem lwp_s {kn : Nat → Int32} (hL : jl I) (h : same I I1) : lwp I1 kn = lwp I kn := lwp_c (by have := jl_m hL; omega) (fun i j e => h i j (by unfold dL at e; unfold sc; omega))
theorem K594 {K : Nat → Nat → Int64} : K 594 0 = K 594 0 := rfl
theorem ca_cost (x y z : Int32) (h : ly c S) (hJ : JJ I n wd q r a se W G) : ag isI (I 0) c w S (fun k => 1 + k) (X8_cost 64 x y z (c, w, S, I, K)) (X9_cost 108 x y z) := by
  obtain ⟨hPC, hPM, hDC, hDM, hr, -, -, -, -, -, hL⟩ := id hJ
  have hn6 := hPC.1.1
  have bad : X8_cost 64 x y z (c, w, S, I, K) = rX c w S I K 0 → (∀ c1 w1 S1 I1 K2, ly c1 S1 → (∀ i j, i < 595 → i ≠ 64 → I1 i j = I i j) → X9_cost 108 x y z (c1, w1, S1, I1, K2) = X9_cost_j49 108 x y z (c1, w1, S1, ly_u I1 108 0 0, K2)) → ag isI (I 0) c w S (fun k => 1 + k) (X8_cost 64 x y z (c, w, S, I, K)) (X9_cost 108 x y z) := by
    intro h1 h2
    refine ag_no (K := K) (k := 0) (b := .int 0) h hJ (by omega) ⟨_, rfl⟩ h1 (fun c1 w1 S1 I1 K2 h3 hI => ?_)
    rw [h2 c1 w1 S1 I1 K2 h3 hI]
    unfold X9_cost_j49 X9_cost_j50 X9_cost_j63 X9_cost_j90
    rw [i00, lc_108 h3, bad_10 h3, ly_cI, i10]
  rcases pk_ix x (n := n) (by omega) with hx | hx | ⟨l, hl, rfl⟩
  case inr.inr =>
    have hw8 := pg_wd hPC.1 l
    have m13 : ∀ I1 : Nat → Nat → Int32, (∀ i j, i < 595 → i ≠ 64 → I1 i j = I i j) → ly_u I1 108 0 0 108 13 = nI n := fun I1 hI => by rw [u0 (by omega), hI 108 13 (by omega) (by omega)]; exact hPM.2.1
    have m1 : ∀ I1 : Nat → Nat → Int32, (∀ i j, i < 595 → i ≠ 64 → I1 i j = I i j) → ly_u I1 108 0 0 113 l = nI (wd l) := fun I1 hI => by rw [u0 (by omega), hI 113 l (by omega) (by omega)]; exact hPM.2.2.1 l (by omega)
    rcases pk_ix y (n := wd l) (by omega) with hy | hy | ⟨i, hi, rfl⟩
    case inr.inr =>
      rcases pk_ix z (n := wd l) (by omega) with hz | hz | ⟨j, hj, rfl⟩
      case inr.inr =>
        by_cases hij : i ≤ j
        · obtain ⟨I1, g1, g2⟩ := po_C (w := w) (K := K) h hPC dk_93 hDC hr hL hl (show j < 8 by omega) hij
          refine ag_ro (v := .int (nI (clp (lwp I (knr n wd r l i j))))) (I1 := I1) (K1 := K) h hJ ⟨_, rfl⟩ ?_ (P78_s g2) (fun hJ1 K2 => ?_)
          · unfold X8_cost X8_cost_j23
            rw [lc_64 h, mw_ok h hPC hl hi, ly_cV, lc_64 h, mw_ok h hPC hl hj, ly_cV, if_neg (nI_nlt hij (by omega)), lc_64 h, mu_cV1, lr_64_8 h, lc_93 h, g1, ly_cI]
          · obtain ⟨hPM2, hDM2⟩ := jm hJ1
            have hL1 : jl (ly_u I1 108 0 0) := jl_same hJ1.2.2.2.2.2.2.2.2.2.2 s0
            obtain ⟨I2, k1, k2⟩ := po_M (w := w) (K := K2) h hPM2 rwa_535 hDM2 hr hL1 hl (show j < 8 by omega) hij
            refine ⟨I2, K2, ?_, ?_, same_t s0 (P45_s k2), rfl⟩
            · unfold X9_cost X9_cost_j50 X9_cost_j63 X9_cost_j82
              rw [lp_108 h, lc_108 h, il_ok h hPM2.2.1 hn6 hl, ly_cI, i10, lr_108_16 h, ld_113 h (by omega), hPM2.2.2.1 l (by omega), rm_in, ly_cI, decide_eq_true ((in_n (by omega)).mpr (in_l hi (by omega))), ib1, lr_108_16 h, ld_113 h (by omega), hPM2.2.2.1 l (by omega), rm_in, ly_cI, decide_eq_true ((in_n (by omega)).mpr (in_l hj (by omega))), ib1, i10, lc_108 h, bad_z h, ly_cI, i00, if_pos (nI_le hij (by omega)), lc_108 h, bad_z h, ly_cI, i00, lr_108_29 h, lc_108 h, k1, ly_cI, lwp_s hJ1.2.2.2.2.2.2.2.2.2.2 s0, lwp_s hL (P78_s g2)]
            · rw [k2 108 0 (by unfold P45; omega)]
              exact z0'
        · refine ag_no (K := K) (k := 1) (b := .int 0) h hJ (by omega) ⟨_, rfl⟩ ?_ (fun c1 w1 S1 I1 K2 h1 hI => ?_)
          · unfold X8_cost X8_cost_j23
            rw [lc_64 h, mw_ok h hPC hl hi, ly_cV, lc_64 h, mw_ok h hPC hl hj, ly_cV, if_pos (nI_lt (by omega) (by omega)), lc_64 h, mu_cV h]
          · unfold X9_cost X9_cost_j50 X9_cost_j63 X9_cost_j82 X9_cost_j90
            rw [lp_108 h1, lc_108 h1, il_ok h1 (m13 I1 hI) hn6 hl, ly_cI, i10, lr_108_16 h1, ld_113 h1 (by omega), m1 I1 hI, rm_in, ly_cI, decide_eq_true ((in_n (by omega)).mpr (in_l hi (by omega))), ib1, lr_108_16 h1, ld_113 h1 (by omega), m1 I1 hI, rm_in, ly_cI, decide_eq_true ((in_n (by omega)).mpr (in_l hj (by omega))), ib1, i10, lc_108 h1, bad_z h1, ly_cI, i00, if_neg (nI_ge (by omega) (by omega)), lc_108 h1, bad_21 h1, ly_cI, i10]
      all_goals
        have hz' : z < 0 ∨ nI (wd l) ≤ z := by first | exact Or.inl hz | exact Or.inr hz
        refine bad ?_ (fun c1 w1 S1 I1 K2 h1 hI => ?_)
        · unfold X8_cost
          rw [lc_64 h, mw_ok h hPC hl hi, ly_cV, lc_64 h, mw_no h (hw_no h hPC hl hz'), rx_cV]
        · unfold X9_cost
          rw [lp_108 h1, lc_108 h1, il_ok h1 (m13 I1 hI) hn6 hl, ly_cI, i10, lr_108_16 h1, ld_113 h1 (by omega), m1 I1 hI, rm_in, ly_cI, decide_eq_true ((in_n (by omega)).mpr (in_l hi (by omega))), ib1, lr_108_16 h1, ld_113 h1 (by omega), m1 I1 hI, rm_in, ly_cI, decide_eq_false (fun e9 => (in_n (by omega)).mp e9 hz'), ib0]
    all_goals
      have hy' : y < 0 ∨ nI (wd l) ≤ y := by first | exact Or.inl hy | exact Or.inr hy
      refine bad ?_ (fun c1 w1 S1 I1 K2 h1 hI => ?_)
      · unfold X8_cost
        rw [lc_64 h, mw_no h (hw_no h hPC hl hy'), rx_cV]
      · unfold X9_cost
        rw [lp_108 h1, lc_108 h1, il_ok h1 (m13 I1 hI) hn6 hl, ly_cI, i10, lr_108_16 h1, ld_113 h1 (by omega), m1 I1 hI, rm_in, ly_cI, decide_eq_false (fun e9 => (in_n (by omega)).mp e9 hy'), ib0]
  all_goals
    have hx' : x < 0 ∨ nI n ≤ x := by first | exact Or.inl hx | exact Or.inr hx
    refine bad ?_ (fun c1 w1 S1 I1 K2 h1 hI => ?_)
    · unfold X8_cost
      rw [lc_64 h, mw_no h (hw_nl h hPC hx'), rx_cV]
    · have e13 : ly_u I1 108 0 0 108 13 = nI n := by rw [u0 (by omega), hI 108 13 (by omega) (by omega)]; exact hPM.2.1
      unfold X9_cost
      rw [lp_108 h1, lc_108 h1, il_no h1 e13 hn6 hx', ly_cI, i00]
theorem lt_le1 {x : Int32} {k : Nat} (hk : k < 1000) : x < nI (k + 1) ↔ x ≤ nI k := by
  rw [Int32.lt_iff_toInt_lt, Int32.le_iff_toInt_le, nI_toInt (by omega), nI_toInt (by omega)]
  omega
theorem ca_would (x1 x2 x3 x4 x5 x6 x7 : Int32) (h : ly c S) (hJ : JJ I n wd q r a se W G) : ag isI (I 0) c w S (fun k => k) (X8_would 64 x1 x2 x3 x4 x5 x6 x7 (c, w, S, I, K)) (X9_would 108 x1 x2 x3 x4 x5 x6 x7) := by
  obtain ⟨hPC, hPM, hDC, hDM, hr, -, -, -, -, -, hL⟩ := id hJ
  have e26 : X8_would_j26 64 x1 x2 x3 x4 x5 x6 x7 64 (c, w, S, I, K) = rX c w S I K 1 := by
    unfold X8_would_j26 X8_would_j27
    rw [lc_64 h, mu_cV h]
  have e57 : X8_would_j57 64 x1 x2 x3 x4 x5 x6 x7 64 (c, w, S, I, K) = rX c w S I K 1 := by
    unfold X8_would_j57 X8_would_j58
    rw [lc_64 h, mu_cV h]
  have e78 : X8_would_j78 64 x1 x2 x3 x4 x5 x6 x7 64 (c, w, S, I, K) = rX c w S I K 1 := by
    unfold X8_would_j78 X8_would_j79
    rw [lc_64 h, mu_cV h]
  have e113 : X8_would_j113 64 x1 x2 x3 x4 x5 x6 x7 64 (c, w, S, I, K) = rX c w S I K 1 := by
    unfold X8_would_j113 X8_would_j114
    rw [lc_64 h, mu_cV h]
  have m81 : ∀ c1 w1 S1 I1 K2, ly c1 S1 → X9_would_j81 108 x1 x2 x3 x4 x5 x6 x7 108 (c1, w1, S1, ly_u I1 108 0 0, K2) = pm_oI 0 (c1, w1, S1, bI I1 1 1, K2) := by
    intro c1 w1 S1 I1 K2 h1
    unfold X9_would_j81 X9_would_j86
    rw [lc_108 h1, bad_11 h1, ly_cI, i10]
  have bad : X8_would 64 x1 x2 x3 x4 x5 x6 x7 (c, w, S, I, K) = rX c w S I K 1 → (∀ c1 w1 S1 I1 K2, ly c1 S1 → X9_would 108 x1 x2 x3 x4 x5 x6 x7 (c1, w1, S1, I1, K2) = X9_would_j81 108 x1 x2 x3 x4 x5 x6 x7 108 (c1, w1, S1, ly_u I1 108 0 0, K2)) → ag isI (I 0) c w S (fun k => k) (X8_would 64 x1 x2 x3 x4 x5 x6 x7 (c, w, S, I, K)) (X9_would 108 x1 x2 x3 x4 x5 x6 x7) := by
    intro h1 h2
    refine ag_no (K := K) (k := 1) (b := .int 0) h hJ (by omega) ⟨_, rfl⟩ h1 (fun c1 w1 S1 I1 K2 h3 hI => ?_)
    rw [h2 c1 w1 S1 I1 K2 h3, m81 c1 w1 S1 I1 K2 h3]
  by_cases g1 : 1 ≤ x1 ∧ x1 ≤ 8
  case neg =>
    refine bad ?_ (fun c1 w1 S1 I1 K2 h1 => ?_)
    · unfold X8_would
      by_cases k1 : x1 < 1
      · rw [if_pos k1, e26]
      · rw [if_neg k1, if_pos (Int32.not_le.mp (fun e9 => g1 ⟨Int32.not_lt.mp k1, e9⟩)), e26]
    · unfold X9_would
      rw [lp_108 h1, rm_in, ly_cI, decide_eq_false g1, ib0]
  by_cases g2 : 0 ≤ x2 ∧ x2 ≤ 8
  case neg =>
    refine bad ?_ (fun c1 w1 S1 I1 K2 h1 => ?_)
    · unfold X8_would
      rw [if_neg (Int32.not_lt.mpr g1.1), if_neg (Int32.not_lt.mpr g1.2)]
      by_cases k1 : x2 < 0
      · rw [if_pos k1, e26]
      · rw [if_neg k1, if_pos (Int32.not_le.mp (fun e9 => g2 ⟨Int32.not_lt.mp k1, e9⟩)), e26]
    · unfold X9_would
      rw [lp_108 h1, rm_in, ly_cI, decide_eq_true g1, ib1, rm_in, ly_cI, decide_eq_false g2, ib0]
  have c27 : X8_would 64 x1 x2 x3 x4 x5 x6 x7 (c, w, S, I, K) = (if x3 < 0 then (X8_would_j57 64 x1 x2 x3 x4 x5 x6 x7 64 (c, w, S, I, K)) else (if (8 : Int32) ≤ x3 then (X8_would_j57 64 x1 x2 x3 x4 x5 x6 x7 64 (c, w, S, I, K)) else (if x4 < 0 then (X8_would_j57 64 x1 x2 x3 x4 x5 x6 x7 64 (c, w, S, I, K)) else (if (6 : Int32) ≤ x4 then (X8_would_j57 64 x1 x2 x3 x4 x5 x6 x7 64 (c, w, S, I, K)) else (X8_would_j58 64 x1 x2 x3 x4 x5 x6 x7 1 64 (c, w, S, I, K)))))) := by
    unfold X8_would X8_would_j27
    rw [if_neg (Int32.not_lt.mpr g1.1), if_neg (Int32.not_lt.mpr g1.2), if_neg (Int32.not_lt.mpr g2.1), if_neg (Int32.not_lt.mpr g2.2), lc_64 h, mu_cV1]
  have t3 : ∀ {x : Int32} {k : Nat}, k < 1000 → ¬ (0 ≤ x ∧ x ≤ nI k) → ¬ x < 0 → nI (k + 1) ≤ x := fun hk g1 g2 => Int32.not_lt.mp (fun e9 => g1 ⟨Int32.not_lt.mp g2, (lt_le1 hk).mp e9⟩)
  have t4 : ∀ {x : Int32} {k : Nat}, k < 1000 → x ≤ nI k → ¬ nI (k + 1) ≤ x := fun hk g1 => Int32.not_le.mpr ((lt_le1 hk).mpr g1)
  by_cases g3 : 0 ≤ x3 ∧ x3 ≤ 7
  case neg =>
    refine bad ?_ (fun c1 w1 S1 I1 K2 h1 => ?_)
    · rw [c27]
      by_cases k1 : x3 < 0
      · rw [if_pos k1, e57]
      · rw [if_neg k1, if_pos (show (8 : Int32) ≤ x3 from t3 (k := 7) (by omega) g3 k1), e57]
    · unfold X9_would
      rw [lp_108 h1, rm_in, ly_cI, decide_eq_true g1, ib1, rm_in, ly_cI, decide_eq_true g2, ib1, rm_in, ly_cI, decide_eq_false g3, ib0]
  by_cases g4 : 0 ≤ x4 ∧ x4 ≤ 5
  case neg =>
    refine bad ?_ (fun c1 w1 S1 I1 K2 h1 => ?_)
    · rw [c27, if_neg (Int32.not_lt.mpr g3.1), if_neg (show ¬ (8 : Int32) ≤ x3 from t4 (k := 7) (by omega) g3.2)]
      by_cases k1 : x4 < 0
      · rw [if_pos k1, e57]
      · rw [if_neg k1, if_pos (show (6 : Int32) ≤ x4 from t3 (k := 5) (by omega) g4 k1), e57]
    · unfold X9_would
      rw [lp_108 h1, rm_in, ly_cI, decide_eq_true g1, ib1, rm_in, ly_cI, decide_eq_true g2, ib1, rm_in, ly_cI, decide_eq_true g3, ib1, rm_in, ly_cI, decide_eq_false g4, ib0]
  have c58 : X8_would 64 x1 x2 x3 x4 x5 x6 x7 (c, w, S, I, K) = (if x5 < 0 then (X8_would_j78 64 x1 x2 x3 x4 x5 x6 x7 64 (c, w, S, I, K)) else (if (48 : Int32) < x5 then (X8_would_j78 64 x1 x2 x3 x4 x5 x6 x7 64 (c, w, S, I, K)) else (X8_would_j79 64 x1 x2 x3 x4 x5 x6 x7 1 64 (c, w, S, I, K)))) := by
    rw [c27, if_neg (Int32.not_lt.mpr g3.1), if_neg (show ¬ (8 : Int32) ≤ x3 from t4 (k := 7) (by omega) g3.2), if_neg (Int32.not_lt.mpr g4.1), if_neg (show ¬ (6 : Int32) ≤ x4 from t4 (k := 5) (by omega) g4.2)]
    unfold X8_would_j58
    rw [lc_64 h, mu_cV1]
  by_cases g5 : 0 ≤ x5 ∧ x5 ≤ 48
  case neg =>
    refine bad ?_ (fun c1 w1 S1 I1 K2 h1 => ?_)
    · rw [c58]
      by_cases k1 : x5 < 0
      · rw [if_pos k1, e78]
      · rw [if_neg k1, if_pos (Int32.not_le.mp (fun e9 => g5 ⟨Int32.not_lt.mp k1, e9⟩)), e78]
    · unfold X9_would
      rw [lp_108 h1, rm_in, ly_cI, decide_eq_true g1, ib1, rm_in, ly_cI, decide_eq_true g2, ib1, rm_in, ly_cI, decide_eq_true g3, ib1, rm_in, ly_cI, decide_eq_true g4, ib1, rm_in, ly_cI, decide_eq_false g5, ib0]
  have c79 : X8_would 64 x1 x2 x3 x4 x5 x6 x7 (c, w, S, I, K) = (if x6 < 0 then (X8_would_j113 64 x1 x2 x3 x4 x5 x6 x7 64 (c, w, S, I, K)) else (if (200 : Int32) < x6 then (X8_would_j113 64 x1 x2 x3 x4 x5 x6 x7 64 (c, w, S, I, K)) else (if x7 < 0 then (X8_would_j113 64 x1 x2 x3 x4 x5 x6 x7 64 (c, w, S, I, K)) else (if (999 : Int32) < x7 then (X8_would_j113 64 x1 x2 x3 x4 x5 x6 x7 64 (c, w, S, I, K)) else (X8_would_j114 64 x1 x2 x3 x4 x5 x6 x7 1 64 (c, w, S, I, K)))))) := by
    rw [c58, if_neg (Int32.not_lt.mpr g5.1), if_neg (Int32.not_lt.mpr g5.2)]
    unfold X8_would_j79
    rw [lc_64 h, mu_cV1]
  by_cases g6 : 0 ≤ x6 ∧ x6 ≤ 200
  case neg =>
    refine bad ?_ (fun c1 w1 S1 I1 K2 h1 => ?_)
    · rw [c79]
      by_cases k1 : x6 < 0
      · rw [if_pos k1, e113]
      · rw [if_neg k1, if_pos (Int32.not_le.mp (fun e9 => g6 ⟨Int32.not_lt.mp k1, e9⟩)), e113]
    · unfold X9_would
      rw [lp_108 h1, rm_in, ly_cI, decide_eq_true g1, ib1, rm_in, ly_cI, decide_eq_true g2, ib1, rm_in, ly_cI, decide_eq_true g3, ib1, rm_in, ly_cI, decide_eq_true g4, ib1, rm_in, ly_cI, decide_eq_true g5, ib1, rm_in, ly_cI, decide_eq_false g6, ib0]
  by_cases g7 : 0 ≤ x7 ∧ x7 ≤ 999
  case neg =>
    refine bad ?_ (fun c1 w1 S1 I1 K2 h1 => ?_)
    · rw [c79, if_neg (Int32.not_lt.mpr g6.1), if_neg (Int32.not_lt.mpr g6.2)]
      by_cases k1 : x7 < 0
      · rw [if_pos k1, e113]
      · rw [if_neg k1, if_pos (Int32.not_le.mp (fun e9 => g7 ⟨Int32.not_lt.mp k1, e9⟩)), e113]
    · unfold X9_would
      rw [lp_108 h1, rm_in, ly_cI, decide_eq_true g1, ib1, rm_in, ly_cI, decide_eq_true g2, ib1, rm_in, ly_cI, decide_eq_true g3, ib1, rm_in, ly_cI, decide_eq_true g4, ib1, rm_in, ly_cI, decide_eq_true g5, ib1, rm_in, ly_cI, decide_eq_true g6, ib1, rm_in, ly_cI, decide_eq_false g7, ib0]
  obtain ⟨I1, k1, k2⟩ := pc_C (w := w) (K := K) (a0 := x1) (a1 := x2) (a2 := x3) (a3 := x4) (a4 := x5) (a5 := x6) (a6 := x7) h hL
  refine ag_ro (v := .int (nI (clp (lwp I (kn7 x1 x2 x3 x4 x5 x6 x7))))) (I1 := I1) (K1 := K) h hJ ⟨_, rfl⟩ ?_ (P78_s k2) (fun hJ1 K2 => ?_)
  · rw [c79, if_neg (Int32.not_lt.mpr g6.1), if_neg (Int32.not_lt.mpr g6.2), if_neg (Int32.not_lt.mpr g7.1), if_neg (Int32.not_lt.mpr g7.2)]
    unfold X8_would_j114
    rw [lc_64 h, mu_cV1, lr_64_3 h, lc_75 h, k1, ly_cI]
  · have hL1 : jl (ly_u I1 108 0 0) := jl_same hJ1.2.2.2.2.2.2.2.2.2.2 s0
    obtain ⟨I2, m1, m2⟩ := pc_M (w := w) (K := K2) (a0 := x1) (a1 := x2) (a2 := x3) (a3 := x4) (a4 := x5) (a5 := x6) (a6 := x7) h hL1
    refine ⟨I2, K2, ?_, ?_, same_t s0 (P45_s m2), rfl⟩
    · unfold X9_would X9_would_j86
      rw [lp_108 h, rm_in, ly_cI, decide_eq_true g1, ib1, rm_in, ly_cI, decide_eq_true g2, ib1, rm_in, ly_cI, decide_eq_true g3, ib1, rm_in, ly_cI, decide_eq_true g4, ib1, rm_in, ly_cI, decide_eq_true g5, ib1, rm_in, ly_cI, decide_eq_true g6, ib1, rm_in, ly_cI, decide_eq_true g7, ib1, lc_108 h, bad_z h, ly_cI, i00, lc_108 h, m1, ly_cI, lwp_s hJ1.2.2.2.2.2.2.2.2.2.2 s0, lwp_s hL (P78_s k2)]
    · rw [m2 108 0 (by unfold P45; omega)]
      exact z0'
end CST
