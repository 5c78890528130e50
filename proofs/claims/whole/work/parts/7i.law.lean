/-! a law read by the one and by the other: a unit -/
section LAU
variable {c w : Nat} {S : Nat → pmS} {I I1 I2 J J1 A B E O I0 J0 : Nat → Nat → Int32} {K K2 : Nat → Nat → Int64} {T : Nat → Nat} {L p g n N m t o d : Nat} {s v x : Int32} {rsC : Nat → Nat → Int32 → pmM → pmR} {rsM : Nat → pmM → pmR} {P Q : Nat → Nat → Prop}
theorem on_n (h : ly c S) (hM : mB J T L) (hp : p ≤ L) (h3 : ¬ tW T L (tS T L p) = sn 3) (h4 : ¬ tW T L (tS T L p) = sn 4) : X9_one rsM 108 (c, w, S, mx J p 0 x, K2) = X9_one_j56 rsM 108 (-1) (c, w, S, mx J (tS T L p) 0 x, K2) := by
  have hs : tS T L (tS T L p) = tS T L p := tE_i hp
  have hq : tS T L p ≤ L := tE_lL hp
  unfold X9_one
  rw [lg_108 h, mx5, n00, lc_108 h, mx_blanks h hM hp, ly_cV, lc_108 h, mx_isWord h hM hq s6_3 (sn_k (by omega)), hs, decide_eq_false h3, ly_cI, ib0, lc_108 h, mx_isWord h hM hq s6_4 (sn_k (by omega)), hs, decide_eq_false h4, ly_cI, ib0]
theorem on_7 (h : ly c S) (hM : mB J T L) (hp : p ≤ L) (h3 : tW T L (tS T L p) = sn 3) : X9_one rsM 108 (c, w, S, mx J p 0 x, K2) = X9_one_j56 rsM 108 (nI 7) (c, w, S, mx J (tS T L p) 0 x, K2) := by
  have hs : tS T L (tS T L p) = tS T L p := tE_i hp
  have hq : tS T L p ≤ L := tE_lL hp
  unfold X9_one
  rw [lg_108 h, mx5, n00, lc_108 h, mx_blanks h hM hp, ly_cV, lc_108 h, mx_isWord h hM hq s6_3 (sn_k (by omega)), hs, decide_eq_true h3, ly_cI, ib1]
  rfl
theorem on_8 (h : ly c S) (hM : mB J T L) (hp : p ≤ L) (h3 : ¬ tW T L (tS T L p) = sn 3) (h4 : tW T L (tS T L p) = sn 4) : X9_one rsM 108 (c, w, S, mx J p 0 x, K2) = X9_one_j56 rsM 108 (nI 8) (c, w, S, mx J (tS T L p) 0 x, K2) := by
  have hs : tS T L (tS T L p) = tS T L p := tE_i hp
  have hq : tS T L p ≤ L := tE_lL hp
  unfold X9_one
  rw [lg_108 h, mx5, n00, lc_108 h, mx_blanks h hM hp, ly_cV, lc_108 h, mx_isWord h hM hq s6_3 (sn_k (by omega)), hs, decide_eq_false h3, ly_cI, ib0, lc_108 h, mx_isWord h hM hq s6_4 (sn_k (by omega)), hs, decide_eq_true h4, ly_cI, ib1]
  rfl
theorem tW_n {k : Nat} (h : tI iLt T L p = false) (hk : k < 19) : ¬ tW T L p = sn k := by
  have e : tE iLt T L p = p := tE_n (of_decide_eq_false h)
  have h0 : ∀ k, k < 19 → ¬ (sn k).length = 0 := by decide
  intro e2
  apply h0 k hk
  rw [← e2]
  unfold tW
  rw [e, tWn_len]; omega
theorem tb_40 (h : tI iDg T L p = true ∨ tI iLt T L p = true) : ¬ tb T L p = nI 40 := by
  rcases h with h | h
  · have h1 := of_decide_eq_true h
    have h2 := of_decide_eq_true h1.2
    rw [tb_lt h1.1]
    intro e
    have := (nI_eq (by omega) (by omega)).mp e
    omega
  · have h1 := of_decide_eq_true h
    have h2 := of_decide_eq_true h1.2
    rw [tb_lt h1.1]
    intro e
    have := (nI_eq (by omega) (by omega)).mp e
    omega
theorem rO_z {G : (Nat → Nat → Int32) → (Nat → Nat → Int32) → Nat → Prop} {RC RM : pmR} (h : rO c w S K K2 P Q I J x G RC RM) : rO c w S K K2 P Q I J x G (pm_cI RC fun x12 m11 => pm_oI (vp_nar .boolean x12) m11) RM := by
  rcases h with ⟨I1, J1, p, s, v, h1, h2, h3, h4, h5⟩ | ⟨I1, J1, p, p2, s, v, k, q, h1, h2, h3, h4, h5⟩
  · rw [h1, ly_cI]
    exact Or.inl ⟨I1, J1, p, s, v, rfl, h2, h3, h4, h5⟩
  · rw [h1, ly_cI]
    exact Or.inr ⟨I1, J1, p, p2, s, v, k, q, rfl, h2, h3, h4, h5⟩
/-- a pair, from its word on -/
theorem un_P {W1 : Nat} (h : ly c S) (hR : o < 6 → SR c w S K K2 T L x rsC rsM (o + 1)) (hT : tB I T L) (hM : mB J T L) (hJ : jk I) (hp : p ≤ L) (hL : L ≤ 150) (hRL : RLw I J m t) (hmd : m + d ≤ p) (ht : t ≤ 3 * o + 2) (ho : o ≤ 6) (e8 : J 108 8 = nI o) (hv : 7 ≤ W1 ∧ W1 ≤ 8) (hp0 : g ≤ p) (hl : tI iLt T L p = true) :
    rO c w S K K2 PL QL I J x (GL L g o t d) (X1_readUnit_j141 rsC (-nI (6 + W1)) (nI o) 65 79 (c, w, S, tx I (tE iLt T L p) (nI p) v, K)) (X9_one_j56 rsM 108 (nI W1) (c, w, S, mx J p 0 x, K2)) := by
  have hg : p + 1 ≤ tE iLt T L p := tE_gt hl
  have hE : tE iLt T L p ≤ L := tE_lL hp
  unfold X1_readUnit_j141 X9_one_j56
  rw [lc_79 h, if_neg (show ¬ nI W1 = -1 from by rcases (show W1 = 7 ∨ W1 = 8 by omega) with rfl | rfl <;> decide), lc_108 h]
  refine rO_z ?_
  by_cases h6 : o < 6
  · rw [opn_ok h h6 e8, ly_cI, i10, lc_108 h, mx_skipWord h (QL_T hM (only_u only_r (by unfold QL; omega))) hp, ly_cV, lc_108 h]
    refine rO_m (pr_R h (hR h6) hT (QL_T hM (only_u only_r (by unfold QL; omega))) hJ hE hL (RLw_8 hRL) (by omega) ht h6 (by rw [ly_uE, if_pos ⟨rfl, rfl⟩]) hv (by omega)) (fun _ _ a => a) (fun _ _ a => a) only_r (only_u only_r (by unfold QL; omega)) (fun _ _ _ _ _ a => a)
  · have e6 : o = 6 := by omega
    subst e6
    rw [opn_no h e8, ly_cI, i00]
    unfold X1_readPair
    rw [if_neg (show ¬ nI 6 < 6 from by decide), lg_65 h, tx4, lc_65 h, show (3 : Int32) = nI 3 from rfl, tx_fail h, ly_cI]
    exact rO_no (by omega) only_r only_r
theorem un_R (h : ly c S) (hR : o < 6 → SR c w S K K2 T L x rsC rsM (o + 1)) (hT : tB I T L) (hM : mB J T L) (hJ : jk I) (hp : p ≤ L) (hL : L ≤ 150) (hRL : RLw I J m t) (hmd : m + d ≤ p) (ht : t ≤ 3 * o + 2) (ho : o ≤ 6) (e8 : J 108 8 = nI o) :
    rO c w S K K2 PL QL I J x (GL L p o t d) (X1_readUnit rsC 79 65 (nI o) (c, w, S, tx I p s v, K)) (X9_one rsM 108 (c, w, S, mx J p 0 x, K2)) := by
  have hs : tS T L (tS T L p) = tS T L p := tE_i hp
  have hq : tS T L p ≤ L := tE_lL hp
  have hpq : p ≤ tS T L p := tE_ge hp
  have h40 : ¬ tb T L (tS T L p) = nI 40 → ¬ tb T L (tS T L p) = 40 := fun a => a
  generalize eq : tS T L p = q at *
  unfold X1_readUnit
  rw [lc_65 h, tx_isAtDigit h hT hp, eq, ly_cI]
  rcases tI_cases iDg T L q with hd | hd
  · -- a number
    have hl := tW_d hd
    rw [hd, ib1, on_n h hM hp (by rw [eq]; exact tW_n hl (by omega)) (by rw [eq]; exact tW_n hl (by omega)), eq]
    unfold X9_one_j56
    rw [if_pos rfl, lg_108 h, mx4, lc_108 h, mx_byteAt h hM (by omega), ly_cI, if_neg (h40 (tb_40 (Or.inl hd))), lc_108 h, kn_0 h hM hq hs (fun i hi => tW_n hl (by omega)), ly_cI, if_pos rfl, lc_65 h, lc_108 h]
    refine rO_num h hT hM hq hq rfl (B := 999) (fun z hz hh => le_lit hz (by omega) hh) (fun z h0 hz h1 h2 h3 => ?_) (fun k q' pp s v hk => ?_)
    · rw [hs] at h1 h2 h3 ⊢
      have hm : m < 150 := by omega
      rw [i10, lg_65 h, tx5, lc_79 h, ap_C h hm hRL.2.1, ly_cI, i10, lc_108 h, nt_M h hm hRL.2.2.1, ly_cV]
      unfold X1_readUnit_j34 X9_one_j201
      refine rO_ok (apd_o only_r) (ntd_o hm only_r) ⟨by omega, h2, ⟨m + 1, ?_, by omega⟩, by rw [ntd8]; exact e8⟩
      exact RLw_p hRL hm (Or.inl ⟨z, hz, rfl, rfl, rfl⟩) (Or.inl rfl) (by omega)
    · rw [i00, lc_108 h, nt_F h (by omega), ly_cV]
      unfold X1_readUnit_j33 X1_readUnit_j34 X9_one_j201
      exact rO_no hk only_r only_r
  · rw [hd, ib0, lc_65 h, tx_peek h hT hq, hs, ly_cI]
    by_cases hb : tb T L q = nI 40
    · -- a bracket
      have hl : tI iLt T L q = false := by
        rcases tI_cases iLt T L q with a | a
        · exact absurd hb (tb_40 (Or.inr a))
        · exact a
      have hqL : q < L := by
        rcases Nat.lt_or_ge q L with a | a
        · exact a
        · exact absurd hb (tb_ne (by omega) (by omega))
      rw [if_pos (show tb T L q = 40 from hb), on_n h hM hp (by rw [eq]; exact tW_n hl (by omega)) (by rw [eq]; exact tW_n hl (by omega)), eq]
      unfold X9_one_j56
      rw [if_pos rfl, lg_108 h, mx4, lc_108 h, mx_byteAt h hM (by omega), ly_cI, if_pos (show tb T L q = 40 from hb), lc_108 h]
      by_cases h6 : o < 6
      · have e11 : nI o + (1 : Int32) = nI (o + 1) := nI_1 o
        rw [if_pos (show nI o < 6 from nI_lt (b := 6) h6 (by omega)), lc_65 h, show (40 : Int32) = nI 40 from rfl, tx_sign_ok h hT hq (by rw [hs]; exact hb), hs, ly_cI, i10, opn_ok h h6 e8, ly_cI, i10, lg_108 h, mx4, lp_108 h, mx_u4s, lc_79 h, e11, lc_108 h]
        have hM1 : mB (ly_u J 108 8 (nI (o + 1))) T L := QL_T hM (only_u only_r (by unfold QL; omega))
        refine rO_b ((hR h6).1 I (ly_u J 108 8 (nI (o + 1))) (q + 1) m t (d + 1) s v hT hM1 hJ (by omega) (RLw_8 hRL) (by omega) (by omega) (by rw [ly_uE, if_pos ⟨rfl, rfl⟩])) (fun I1 J1 p1 s1 v1 o1 o2 hG => ?_) (fun I1 J1 p1 p2 s1 v1 k1 q1 o1 o2 hk1 => ?_)
        · obtain ⟨g1, g2, ⟨m1, g3, g4⟩, g5⟩ := hG
          have oJ : only QL J J1 := only_t (only_u only_r (by unfold QL; omega)) o2
          rw [i10, lc_65 h, lc_108 h, show (41 : Int32) = nI 41 from rfl]
          refine rO_sign h (PL_T hT o1) (QL_T hM oJ) g2 g2 rfl (by omega) (fun hb2 h3 h4 => ?_) (fun q pp hk => ?_)
          · rw [i10, cls (o := o) h g5 (by omega)]
            unfold X1_readUnit_j94
            exact rO_ok o1 (only_u oJ (by unfold QL; omega)) ⟨by omega, by omega, ⟨m1, RLw_8 g3, by omega⟩, by rw [ly_uE, if_pos ⟨rfl, rfl⟩]⟩
          · rw [i00]
            obtain ⟨z, hz⟩ := clsF (w := w) (K2 := K2) (J := J1) (p := pp) (g := 1) (y := nI q) h
            rw [hz]
            unfold X1_readUnit_j93 X1_readUnit_j94
            exact rO_no hk o1 (only_u oJ (by unfold QL; omega))
        · rw [i00, lc_108 h, mx_signF h (by omega), ly_cV]
          obtain ⟨z, hz⟩ := clsF (w := w) (K2 := K2) (J := J1) (p := p2) (g := k1) (y := nI q1) h
          rw [hz]
          unfold X1_readUnit_j93 X1_readUnit_j94
          exact rO_no hk1 o1 (only_u (only_t (only_u only_r (by unfold QL; omega)) o2) (by unfold QL; omega))
      · have e6 : o = 6 := by omega
        subst e6
        rw [if_neg (show ¬ nI 6 < 6 from by decide), lg_65 h, tx3, lc_65 h, show (3 : Int32) = nI 3 from rfl, tx_fail h, ly_cI, opn_no h e8, ly_cI, i00]
        exact rO_no (by omega) only_r only_r
    · rw [if_neg (h40 hb), lc_65 h]
      rcases tI_cases iLt T L q with hl | hl
      · -- a word
        have hg : q + 1 ≤ tE iLt T L q := tE_gt hl
        have hE : tE iLt T L q ≤ L := tE_lL hq
        rw [tx_let1 h hT hq (by rw [hs]; exact hl), hs, ly_cI, i10, lc_65 h, tx_took h hT hJ (k := 3) (by omega) rfl hq, ly_cI]
        by_cases h3 : tW T L q = sn 3
        · rw [decide_eq_true h3, ib1, on_7 h hM hp (by rw [eq]; exact h3), eq]
          unfold X1_readUnit_j122
          rw [lc_65 h, tx_took h hT hJ (k := 3) (by omega) rfl hq, ly_cI, decide_eq_true h3, ib1]
          exact un_P (W1 := 7) h hR hT hM hJ hq hL hRL (by omega) ht ho e8 (by omega) hpq hl
        · rw [decide_eq_false h3, ib0, lc_65 h, tx_took h hT hJ (k := 4) (by omega) rfl hq, ly_cI]
          by_cases h4 : tW T L q = sn 4
          · rw [decide_eq_true h4, ib1, on_8 h hM hp (by rw [eq]; exact h3) (by rw [eq]; exact h4), eq]
            unfold X1_readUnit_j122
            rw [lc_65 h, tx_took h hT hJ (k := 3) (by omega) rfl hq, ly_cI, decide_eq_false h3, ib0]
            exact un_P (W1 := 8) h hR hT hM hJ hq hL hRL (by omega) ht ho e8 (by omega) hpq hl
          · rw [decide_eq_false h4, ib0, on_n h hM hp (by rw [eq]; exact h3) (by rw [eq]; exact h4), eq]
            unfold X9_one_j56
            rw [if_pos rfl, lg_108 h, mx4, lc_108 h, mx_byteAt h hM (by omega), ly_cI, if_neg (h40 hb), lc_108 h]
            by_cases hk : ∃ i, i < 7 ∧ tW T L q = sn (5 + i)
            · obtain ⟨i, hi, hW⟩ := hk
              have hm : m < 150 := by omega
              have n1 : ∀ i, i < 7 → ¬ -nI (1 + i) = 0 := by decide
              have n2 : ∀ i, i < 7 → ¬ nI i = -1 := by decide
              rw [nm_C h hT hJ hq hi hW, ly_cI, if_neg (n1 i hi), lc_79 h, ap_C h hm hRL.2.1, ly_cI, kn_M h hM hq hs hi hW, ly_cI, if_neg (n2 i hi), lc_108 h, nt_M h hm hRL.2.2.1, ly_cV]
              unfold X1_readUnit_j171 X9_one_j201
              refine rO_ok (apd_o only_r) (ntd_o hm only_r) ⟨by omega, hE, ⟨m + 1, ?_, by omega⟩, by rw [ntd8]; exact e8⟩
              exact RLw_p hRL hm (Or.inr (Or.inl ⟨i, hi, rfl, rfl, rfl⟩)) (Or.inr rfl) (by omega)
            · have hW : ∀ i, i < 7 → ¬ tW T L q = sn (5 + i) := fun i hi e => hk ⟨i, hi, e⟩
              rw [kn_0 h hM hq hs hW, ly_cI, if_pos rfl, lc_108 h, mx_num0 h hM hq (by rw [hs]; exact hd), hs, ly_cI, lc_108 h, nt_F h (by omega), ly_cV, nm_0 h hT hJ hq hW, ly_cI, i00, lg_65 h, tx4, lc_65 h, show (1 : Int32) = nI 1 from rfl, tx_fail h, ly_cI]
              unfold X1_readUnit_j171 X9_one_j201
              exact rO_no (by omega) only_r only_r
      · -- nothing
        rw [tx_let0 h hT hq (by rw [hs]; exact hl), hs, ly_cI, i00, on_n h hM hp (by rw [eq]; exact tW_n hl (by omega)) (by rw [eq]; exact tW_n hl (by omega)), eq]
        unfold X9_one_j56
        rw [if_pos rfl, lg_108 h, mx4, lc_108 h, mx_byteAt h hM (by omega), ly_cI, if_neg (h40 hb), lc_108 h, kn_0 h hM hq hs (fun i hi => tW_n hl (by omega)), ly_cI, if_pos rfl, lc_108 h, mx_num0 h hM hq (by rw [hs]; exact hd), hs, ly_cI, lc_108 h, nt_F h (by omega), ly_cV]
        unfold X9_one_j201
        exact rO_no (by omega) only_r only_r
end LAU
