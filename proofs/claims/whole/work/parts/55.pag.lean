/-! a page read by the one and by the other: clauses -/
section PAH
variable {c w : Nat} {S : Nat → pmS} {I I1 I2 J J1 I0 J0 : Nat → Nat → Int32} {K K2 : Nat → Nat → Int64} {T : Nat → Nat} {L p g n : Nat} {s v x : Int32}
theorem tS_i (hp : p ≤ L) : tS T L (tS T L p) = tS T L p := tE_i hp
/-- a clause that was read -/
def GC (L k : Nat) (I1 J1 : Nat → Nat → Int32) (p : Nat) : Prop := p ≤ L ∧ (∃ n, PP I1 J1 n) ∧ J1 108 7 = nI (k + 1) ∧ k < 60
theorem kh_of {W : List Nat} (h : ly c S) (hM : mB J T L) (hp : p ≤ L) (hW : tW T L (tS T L p) = W) : X9_kindHere 108 (c, w, S, mx J p 0 x, K2) = pm_oI (if W = sn 0 then 0 else if W = sn 1 then 1 else if W = sn 2 then 2 else -1) (c, w, S, mx J (tS T L p) 0 x, K2) := by
  have hq : tS T L p ≤ L := tE_lL hp
  unfold X9_kindHere X9_kindHere_j56
  rw [lc_108 h, mx_isWord h hM hp six_line (sn_k (by omega)), ly_cI, hW]
  by_cases h0 : W = sn 0
  · rw [decide_eq_true h0, ib1, if_pos h0]
  · rw [decide_eq_false h0, ib0, if_neg h0, lc_108 h, mx_isWord h hM hq six_cell (sn_k (by omega)), ly_cI, tS_i hp, hW]
    by_cases h1 : W = sn 1
    · rw [decide_eq_true h1, ib1, if_pos h1]
    · rw [decide_eq_false h1, ib0, if_neg h1, lc_108 h, mx_isWord h hM hq six_ink (sn_k (by omega)), ly_cI, tS_i hp, hW]
      by_cases h2 : W = sn 2
      · rw [decide_eq_true h2, ib1, if_pos h2]
      · rw [decide_eq_false h2, ib0, if_neg h2]
/-- the end of a clause -/
theorem pr_end {k l : Nat} (h : ly c S) (hT : tB I1 T L) (hM : mB J1 T L) (hp : p ≤ L) (ho : only PC I I1) (ho2 : only PM J J1) (hl : l = 0 ∨ l = 1 ∨ l = 2) (hP : PP I1 (if l = 0 then ly_u J1 108 11 (nI (n + 1)) else J1) (if l = 0 then n + 1 else n)) (h11 : J1 108 11 = nI n) (h7 : J1 108 7 = nI (k + 1)) (hk : k < 60) : rO c w S K K2 PC PM I J x (GC L k) (X2_readClause_j111 65 1 (c, w, S, tx I1 p s v, K)) (X9_clause_j134 108 (nI l) (c, w, S, mx J1 p 0 x, K2)) := by
  have hL := hT.2.1
  unfold X2_readClause_j111 X2_readClause_j131 X2_readClause_j132 X9_clause_j134 X9_clause_j165 X9_clause_j161
  rw [i10, lc_65 h, lc_108 h, nl_59]
  refine rO_sign h hT hM hp hp rfl (by omega) (fun hb h1 h2 => ?_) (fun q pp hk => ?_)
  · rw [i10]
    by_cases hl0 : l = 0
    · subst hl0
      rw [if_pos (show nI 0 = 0 from rfl), lg_108 h, mx_nj (by omega), h11, lg_108 h, mx5, n00, lp_108 h, nI_1, mx_unj (by omega)]
      exact rO_ok ho (only_u ho2 (by unfold PM; omega)) ⟨by omega, ⟨_, hP⟩, by rw [ly_uE, if_neg (by omega)]; exact h7, hk⟩
    · rw [if_neg (nI_ne0 (by omega) (by omega))]
      rw [if_neg hl0, if_neg hl0] at hP
      exact rO_ok ho ho2 ⟨by omega, ⟨_, hP⟩, h7, hk⟩
  · rw [i00]
    by_cases hl0 : l = 0
    · subst hl0
      rw [if_pos (show nI 0 = 0 from rfl), lg_108 h, mx_nj (by omega), lg_108 h, mx5, nk0 (by omega), lp_108 h, mx_unj (by omega)]
      exact rO_no hk ho (only_u ho2 (by unfold PM; omega))
    · rw [if_neg (nI_ne0 (by omega) (by omega))]
      exact rO_no hk ho ho2
/-- the end of a clause with a fault -/
theorem pr_endF {k l q p2 : Nat} {G : (Nat → Nat → Int32) → (Nat → Nat → Int32) → Nat → Prop} (h : ly c S) (ho : only PC I I1) (ho2 : only PM J J1) (hl : l = 0 ∨ l = 1 ∨ l = 2) (hk : 1 ≤ k ∧ k ≤ 3 ∧ q ≤ 600 ∧ p2 ≤ 600) : rO c w S K K2 PC PM I J x G (X2_readClause_j111 65 0 (c, w, S, tx (tf I1 k q) p s v, K)) (X9_clause_j134 108 (nI l) (c, w, S, mx J1 p2 k (nI q), K2)) := by
  unfold X2_readClause_j111 X2_readClause_j131 X2_readClause_j132 X9_clause_j134 X9_clause_j165 X9_clause_j161
  rw [i00, lc_108 h, mx_signF h (by omega), ly_cV]
  by_cases hl0 : l = 0
  · subst hl0
    rw [if_pos (show nI 0 = 0 from rfl), lg_108 h, mx_nj (by omega), lg_108 h, mx5, nk0 ⟨hk.1, hk.2.1⟩, lp_108 h, mx_unj (by omega)]
    exact rO_no hk ho (only_u ho2 (by unfold PM; omega))
  · rw [if_neg (nI_ne0 (by omega) (by omega))]
    exact rO_no hk ho ho2
theorem PP_c {k z : Nat} (hP : PP I J n) (hk : k < 4) (hz : z ≤ 99) : PP (ly_u I 74 k (nI z)) (ly_u J 111 k (nI z)) n := by
  obtain ⟨h1, h2, h3, h4, h5, h6⟩ := hP
  refine ⟨h1, ?_, fun l hl => ?_, ?_, ?_, fun k2 hk2 => ?_⟩
  · rw [ly_uE, ly_uE, if_neg (by omega), if_neg (by omega)]; exact h2
  · obtain ⟨a1, k9, a2, a3, a4, a5⟩ := h3 l hl
    refine ⟨?_, k9, a2, a3, ?_, fun i hi => ?_⟩
    · rw [ly_uE, ly_uE, if_neg (by omega), if_neg (by omega)]; exact a1
    · rw [ly_uE, if_neg (by omega)]; exact a4
    · rw [ly_uE, ly_uE, if_neg (by omega), if_neg (by omega)]; exact a5 i hi
  · rw [ly_uE, if_neg (by omega), h4]
    exact congrArg nI (rd_sum_congr (fun l _ => congrArg nz (by rw [ly_uE, if_neg (by omega)])))
  · rw [ly_uE, ly_uE, if_neg (by omega), if_neg (by omega)]; exact h5
  · by_cases e : k2 = k
    · subst e
      rw [ly_uE, ly_uE, if_pos ⟨rfl, rfl⟩, if_pos ⟨rfl, rfl⟩]
      exact ⟨rfl, z, hz, rfl⟩
    · rw [ly_uE, ly_uE, if_neg (by omega), if_neg (by omega)]; exact h6 k2 hk2
theorem PP_i {z : Nat} (hP : PP I J n) (hz : z ≤ 200) : PP (ly_u I 71 5 (nI z)) (ly_u J 108 12 (nI z)) n := by
  obtain ⟨h1, h2, h3, h4, h5, h6⟩ := hP
  refine ⟨h1, ?_, fun l hl => ?_, ?_, ?_, fun k2 hk2 => ?_⟩
  · rw [ly_uE, ly_uE, if_neg (by omega), if_neg (by omega)]; exact h2
  · obtain ⟨a1, k9, a2, a3, a4, a5⟩ := h3 l hl
    refine ⟨?_, k9, a2, a3, ?_, fun i hi => ?_⟩
    · rw [ly_uE, ly_uE, if_neg (by omega), if_neg (by omega)]; exact a1
    · rw [ly_uE, if_neg (by omega)]; exact a4
    · rw [ly_uE, ly_uE, if_neg (by omega), if_neg (by omega)]; exact a5 i hi
  · rw [ly_uE, if_neg (by omega), h4]
    exact congrArg nI (rd_sum_congr (fun l _ => congrArg nz (by rw [ly_uE, if_neg (by omega)])))
  · rw [ly_uE, ly_uE, if_pos ⟨rfl, rfl⟩, if_pos ⟨rfl, rfl⟩]
    exact ⟨rfl, z, hz, rfl⟩
  · rw [ly_uE, ly_uE, if_neg (by omega), if_neg (by omega)]; exact h6 k2 hk2
theorem PP_7 {y : Int32} (hP : PP I J n) : PP I (ly_u J 108 7 y) n := by
  obtain ⟨h1, h2, h3, h4, h5, h6⟩ := hP
  refine ⟨h1, ?_, fun l hl => ?_, h4, ?_, fun k2 hk2 => ?_⟩
  · rw [ly_uE, if_neg (by omega)]; exact h2
  · obtain ⟨a1, k9, a2, a3, a4, a5⟩ := h3 l hl
    refine ⟨?_, k9, a2, a3, a4, fun i hi => ?_⟩
    · rw [ly_uE, if_neg (by omega)]; exact a1
    · rw [ly_uE, if_neg (by omega)]; exact a5 i hi
  · rw [ly_uE, if_neg (by omega)]; exact h5
  · rw [ly_uE, if_neg (by omega)]; exact h6 k2 hk2
theorem pr_clause {k : Nat} (h : ly c S) (hT : tB I T L) (hM : mB J T L) (hJ : jk I) (hp : p ≤ L) (hs : tS T L p = p) (hP : PP I J n) (hk : k ≤ 60) (h7 : J 108 7 = nI k) : rO c w S K K2 PC PM I J x (GC L k) (X2_readClause 71 65 (nI k) (c, w, S, tx I p s v, K)) (X9_clause 108 (c, w, S, mx J p 0 x, K2)) := by
  have hL := hT.2.1
  unfold X9_clause
  rw [lc_108 h, kh_of h hM hp rfl, ly_cI, hs]
  unfold X2_readClause
  rw [lc_65 h]
  obtain ⟨hn6, ⟨e3, e11⟩, hrest⟩ := id hP
  rcases tI_cases iLt T L p with hd | hd
  · rw [tx_let1 h hT hp (by rw [hs]; exact hd), ly_cI, i10, hs, lc_65 h, tx_took (k := 0) h hT hJ (by omega) rfl hp, ly_cI, lc_65 h, tx_took (k := 1) h hT hJ (by omega) rfl hp, ly_cI]
    have hE := tE_lL (f := iLt) (T := T) hp
    by_cases h0 : tW T L p = sn 0
    · have hne : ¬ tW T L p = sn 1 := by rw [h0]; decide
      rw [decide_eq_true h0, decide_eq_false hne, ib1, if_pos h0, if_neg (show ¬ (0 : Int32) = -1 by decide), lg_108 h, mx_nj (by omega), h7]
      unfold X2_readClause_j52 X2_readClause_j71 X9_clause_j44 X9_clause_j53
      by_cases h60 : k = 60
      · subst h60
        rw [if_pos (show (60 : Int32) ≤ nI 60 by decide), if_pos (show nI 60 = 60 from rfl), lg_65 h, tx4, lc_65 h, nl_3, tx_fail h, ly_cI, lg_108 h, mx4, lc_108 h, mx_wrong h, ly_cV, lg_108 h, mx5, nk0 (by omega)]
        exact rO_no ⟨by omega, by omega, by omega, by omega⟩ only_r only_r
      · rw [if_neg (show ¬ (60 : Int32) ≤ nI k from fun e => by have := (nI_leI (a := 60) (by omega) (by omega)).mp e; omega), if_neg (show ¬ nI k = 60 from fun e => by have := (nI_eq (b := 60) (by omega) (by omega)).mp e; omega), ib1, i00, lg_71 h, tx_n (by omega), e3, lg_108 h, mx_nj (by omega), e11]
        by_cases h6 : n = 6
        · subst h6
          rw [if_neg (show ¬ nI 6 < 6 by decide), if_pos (show nI 6 = 6 from rfl), lg_65 h, tx4, lc_65 h, nl_3, tx_fail h, ly_cI, lg_108 h, mx4, lc_108 h, mx_wrong h, ly_cV, lg_108 h, mx5, nk0 (by omega)]
          exact rO_no ⟨by omega, by omega, by omega, by omega⟩ only_r only_r
        · rw [if_pos (show nI n < 6 from nI_lt (b := 6) (by omega) (by omega)), if_neg (show ¬ nI n = 6 from fun e => by have := (nI_eq (b := 6) (by omega) (by omega)).mp e; omega)]
          unfold X2_readClause_j81
          rw [ib1, lc_71 h, lg_108 h, mx5, n00, lc_108 h, mx_skipWord h hM hp, ly_cV, lg_108 h, mx_nj (by omega), h7, lp_108 h, nI_1, mx_unj (by omega), i00, lc_108 h]
          have hM7 : mB (ly_u J 108 7 (nI (k + 1))) T L := PM_T hM (only_u only_r (by unfold PM; omega))
          refine rO_b (pr_line h hT hM7 hE (PP_7 hP) (by omega)) (fun I1 J1 p1 s1 v1 ho1 ho2 hG => ?_) (fun I1 J1 p1 p2 s1 v1 k1 q1 ho1 ho2 hk1 => ?_)
          · obtain ⟨g1, g2, g3, g4⟩ := hG
            have ho3 : only PM J J1 := only_t (only_u only_r (by unfold PM; omega)) ho2
            unfold X9_clause_j83 X9_clause_j117
            rw [if_neg (show ¬ (0 : Int32) = 1 by decide), if_neg (show ¬ (0 : Int32) = 2 by decide)]
            exact pr_end (l := 0) h (PC_T hT ho1) (PM_T hM ho3) g1 ho1 ho3 (by omega) (by rw [if_pos (by first | decide | rfl), if_pos (by first | decide | rfl)]; exact g2) g3 (by rw [g4, ly_uE, if_pos ⟨rfl, rfl⟩]) (by omega)
          · have ho3 : only PM J J1 := only_t (only_u only_r (by unfold PM; omega)) ho2
            unfold X9_clause_j83 X9_clause_j117
            rw [if_neg (show ¬ (0 : Int32) = 1 by decide), if_neg (show ¬ (0 : Int32) = 2 by decide)]
            exact pr_endF (l := 0) h ho1 ho3 (by omega) hk1
    · by_cases h1 : tW T L p = sn 1
      · rw [decide_eq_false h0, decide_eq_true h1, ib0, ib1, if_neg h0, if_pos h1, if_neg (show ¬ (1 : Int32) = -1 by decide), lg_108 h, mx_nj (by omega), h7]
        unfold X2_readClause_j52 X2_readClause_j71 X9_clause_j44 X9_clause_j53
        by_cases h60 : k = 60
        · subst h60
          rw [if_pos (show (60 : Int32) ≤ nI 60 by decide), if_pos (show nI 60 = 60 from rfl), lg_65 h, tx4, lc_65 h, nl_3, tx_fail h, ly_cI, lg_108 h, mx4, lc_108 h, mx_wrong h, ly_cV, lg_108 h, mx5, nk0 (by omega)]
          exact rO_no ⟨by omega, by omega, by omega, by omega⟩ only_r only_r
        · rw [if_neg (show ¬ (60 : Int32) ≤ nI k from fun e => by have := (nI_leI (a := 60) (by omega) (by omega)).mp e; omega), if_neg (show ¬ nI k = 60 from fun e => by have := (nI_eq (b := 60) (by omega) (by omega)).mp e; omega), ib0, i10]
          unfold X2_readClause_j81 X2_readCell
          have hM7 : mB (ly_u J 108 7 (nI (k + 1))) T L := PM_T hM (only_u only_r (by unfold PM; omega))
          rw [ib0, ib1, lc_71 h, lg_108 h, mx5, n00, lc_108 h, mx_skipWord h hM hp, ly_cV, lg_108 h, mx_nj (by omega), h7, lp_108 h, nI_1, mx_unj (by omega), i10]
          unfold X9_clause_j83
          rw [if_pos (show (1 : Int32) = 1 from rfl), lc_108 h, lc_65 h, ly_cc]
          have h117 : ∀ m, X9_clause_j117 108 1 m = X9_clause_j134 108 (nI 1) m := fun m => by unfold X9_clause_j117; rw [if_neg (by decide)]; rfl
          refine rO_num (B := 3) h hT hM7 hE hE rfl (fun z hz hh => le_lit hz (by omega) hh) (fun z _ hz a1 a2 a3 => ?_) (fun k2 q pp s v hk2 => ?_)
          · rw [i10, lg_65 h, tx5, lc_65 h, ly_cc, lc_108 h]
            refine rO_num (B := 99) h hT hM7 a2 a2 rfl (fun z hz hh => le_lit hz (by omega) hh) (fun y _ hy b1 b2 b3 => ?_) (fun k2 q pp s v hk2 => ?_)
            · rw [i10, lr_71_2 h, lg_65 h, tx5, ls_74 h (by omega), tx_un (by omega), ly_cI, lg_108 h, mx5, n00, lr_108_14 h, ls_111 h (by omega), mx_un (by omega), h117]
              have ho1 : only PC I (ly_u I 74 z (nI y)) := only_u only_r (by unfold PC; omega)
              have ho2 : only PM J (ly_u (ly_u J 108 7 (nI (k + 1))) 111 z (nI y)) := only_u (only_u only_r (by unfold PM; omega)) (by unfold PM; omega)
              refine pr_end (l := 1) (n := n) h (PC_T hT ho1) (PM_T hM ho2) b2 ho1 ho2 (by omega) ?_ ?_ ?_ (by omega)
              · rw [if_neg (by omega), if_neg (by omega)]
                exact PP_c (PP_7 hP) (by omega) (by omega)
              · simp (disch := omega) only [ly_uE, if_neg]; exact e11
              · simp (disch := omega) only [ly_uE, if_neg, if_pos, and_self, if_true]
            · rw [i00, ly_cI, lg_108 h, mx5, nk0 ⟨hk2.1, hk2.2.1⟩, h117]
              exact pr_endF (l := 1) h only_r (only_u only_r (by unfold PM; omega)) (by omega) hk2
          · rw [i00, ly_cI, lc_108 h, mx_numF h (by omega), ly_cI, lg_108 h, mx5, nk0 ⟨hk2.1, hk2.2.1⟩, h117]
            exact pr_endF (l := 1) h only_r (only_u only_r (by unfold PM; omega)) (by omega) hk2
      · rw [decide_eq_false h0, decide_eq_false h1, ib0, ib0, if_neg h0, if_neg h1, lc_65 h, tx_took (k := 2) h hT hJ (by omega) rfl hp, ly_cI]
        by_cases h2 : tW T L p = sn 2
        · rw [decide_eq_true h2, ib1, if_pos h2, if_neg (show ¬ (2 : Int32) = -1 by decide), lg_108 h, mx_nj (by omega), h7]
          unfold X2_readClause_j52 X2_readClause_j71 X9_clause_j44 X9_clause_j53
          by_cases h60 : k = 60
          · subst h60
            rw [if_pos (show (60 : Int32) ≤ nI 60 by decide), if_pos (show nI 60 = 60 from rfl), lg_65 h, tx4, lc_65 h, nl_3, tx_fail h, ly_cI, lg_108 h, mx4, lc_108 h, mx_wrong h, ly_cV, lg_108 h, mx5, nk0 (by omega)]
            exact rO_no ⟨by omega, by omega, by omega, by omega⟩ only_r only_r
          · rw [if_neg (show ¬ (60 : Int32) ≤ nI k from fun e => by have := (nI_leI (a := 60) (by omega) (by omega)).mp e; omega), if_neg (show ¬ nI k = 60 from fun e => by have := (nI_eq (b := 60) (by omega) (by omega)).mp e; omega), ib0, if_neg (show ¬ (2 : Int32) = 0 by decide)]
            unfold X2_readClause_j81 X2_readInk
            have hM7 : mB (ly_u J 108 7 (nI (k + 1))) T L := PM_T hM (only_u only_r (by unfold PM; omega))
            rw [ib0, ib0, lc_71 h, lg_108 h, mx5, n00, lc_108 h, mx_skipWord h hM hp, ly_cV, lg_108 h, mx_nj (by omega), h7, lp_108 h, nI_1, mx_unj (by omega), if_neg (show ¬ (2 : Int32) = 0 by decide)]
            unfold X9_clause_j83 X9_clause_j117
            rw [if_neg (show ¬ (2 : Int32) = 1 by decide), if_pos (show (2 : Int32) = 2 from rfl), lc_108 h, lc_65 h, ly_cc]
            refine rO_num (B := 200) h hT hM7 hE hE rfl (fun z hz hh => le_lit hz (by omega) hh) (fun z _ hz a1 a2 a3 => ?_) (fun k2 q pp s v hk2 => ?_)
            · rw [i10, lg_65 h, tx5, lp_71 h, tx_un (by omega), ly_cI, lp_108 h, mx_unj (by omega)]
              have ho1 : only PC I (ly_u I 71 5 (nI z)) := only_u only_r (by unfold PC; omega)
              have ho2 : only PM J (ly_u (ly_u J 108 7 (nI (k + 1))) 108 12 (nI z)) := only_u (only_u only_r (by unfold PM; omega)) (by unfold PM; omega)
              refine pr_end (l := 2) (n := n) h (PC_T hT ho1) (PM_T hM ho2) a2 ho1 ho2 (by omega) ?_ ?_ ?_ (by omega)
              · rw [if_neg (by omega), if_neg (by omega)]
                exact PP_i (PP_7 hP) (by omega)
              · simp (disch := omega) only [ly_uE, if_neg]; exact e11
              · simp (disch := omega) only [ly_uE, if_neg, if_pos, and_self, if_true]
            · rw [i00, ly_cI, lp_108 h, mx_unj (by omega)]
              exact pr_endF (l := 2) h only_r (only_u (only_u only_r (by unfold PM; omega)) (by unfold PM; omega)) (by omega) hk2
        · rw [decide_eq_false h2, ib0, if_neg h2, if_pos (show (-1 : Int32) = -1 from rfl), lg_65 h, tx4, lc_65 h, nl_1, tx_fail h, ly_cI, lg_108 h, mx4, lc_108 h, mx_wrong h, ly_cV]
          unfold X9_clause_j53
          rw [lg_108 h, mx5, nk0 (by omega)]
          exact rO_no ⟨by omega, by omega, by omega, by omega⟩ only_r only_r
  · rw [tx_let0 h hT hp (by rw [hs]; exact hd), ly_cI, i00, hs, if_neg (tW_no (k := 0) (by omega) hd), if_neg (tW_no (k := 1) (by omega) hd), if_neg (tW_no (k := 2) (by omega) hd), if_pos (show (-1 : Int32) = -1 from rfl), lg_108 h, mx4, lc_108 h, nl_1, mx_wrong h, ly_cV]
    unfold X9_clause_j53
    rw [lg_108 h, mx5, nk0 (by omega)]
    exact rO_no ⟨by omega, by omega, by omega, by omega⟩ only_r only_r
end PAH
