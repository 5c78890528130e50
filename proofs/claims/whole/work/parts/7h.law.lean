/-! a law read by the one and by the other: units, products, sums -/
section LAS
variable {c w : Nat} {S : Nat → pmS} {I I1 I2 J J1 A B E O I0 J0 : Nat → Nat → Int32} {K K2 : Nat → Nat → Int64} {T : Nat → Nat} {L p g n N m t o d : Nat} {s v x : Int32} {rsC : Nat → Nat → Int32 → pmM → pmR} {rsM : Nat → pmM → pmR}
/-- what a reader leaves behind -/
def GL (L p o t d : Nat) (I1 J1 : Nat → Nat → Int32) (p1 : Nat) : Prop := p < p1 ∧ p1 ≤ L ∧ (∃ m1, RLw I1 J1 m1 (t + 1) ∧ m1 + d ≤ p1) ∧ J1 108 8 = nI o
/-- readers of sums that go side by side, at such a depth -/
def SR (c w : Nat) (S : Nat → pmS) (K K2 : Nat → Nat → Int64) (T : Nat → Nat) (L : Nat) (x : Int32) (rsC : Nat → Nat → Int32 → pmM → pmR) (rsM : Nat → pmM → pmR) (o : Nat) : Prop :=
  (∀ (I J : Nat → Nat → Int32) (p m t d : Nat) (s v : Int32), tB I T L → mB J T L → jk I → p ≤ L → RLw I J m t → m + d ≤ p → t ≤ 3 * o → J 108 8 = nI o → rO c w S K K2 PL QL I J x (GL L p o t d) (rsC 79 65 (nI o) (c, w, S, tx I p s v, K)) (rsM 108 (c, w, S, mx J p 0 x, K2))) ∧
  ∀ (J : Nat → Nat → Int32) (p g : Nat) (y : Int32), 1 ≤ g ∧ g ≤ 3 → rsM 108 (c, w, S, mx J p g y, K2) = pm_oV (c, w, S, mx J p g y, K2)
theorem on_F {y : Int32} (h : ly c S) (hg : 1 ≤ g ∧ g ≤ 3) : X9_one rsM 108 (c, w, S, mx J p g y, K2) = pm_oV (c, w, S, mx J p g y, K2) := by
  unfold X9_one
  rw [lg_108 h, mx5, nk0 hg]
theorem pd_F {y : Int32} (h : ly c S) (hg : 1 ≤ g ∧ g ≤ 3) : X9_product rsM 108 (c, w, S, mx J p g y, K2) = pm_oV (c, w, S, mx J p g y, K2) := by
  unfold X9_product
  rw [lc_108 h, on_F h hg, ly_cV]
  show pm_lp (99999 + 1) _ _ = _
  rw [ly_S]
  unfold X9_product_L4
  rw [lg_108 h, mx5, nk0 hg]
theorem sm_F {y : Int32} (h : ly c S) (hg : 1 ≤ g ∧ g ≤ 3) : X9_sum rsM 108 (c, w, S, mx J p g y, K2) = pm_oV (c, w, S, mx J p g y, K2) := by
  unfold X9_sum
  rw [lc_108 h, pd_F h hg, ly_cV]
  show pm_lp (99999 + 1) _ _ = _
  rw [ly_S]
  unfold X9_sum_L4
  rw [lg_108 h, mx5, nk0 hg]
theorem opn_ok (h : ly c S) (ho : o < 6) (e8 : J 108 8 = nI o) : X9_opensOne 108 (c, w, S, mx J p 0 x, K2) = pm_oI 1 (c, w, S, mx (ly_u J 108 8 (nI (o + 1))) p 0 x, K2) := by
  unfold X9_opensOne X9_opensOne_j28 X9_opensOne_j45 X9_opensOne_j57
  rw [lg_108 h, mx5, n00, lg_108 h, mx_nj (by omega), e8, if_neg (show ¬ nI o = 6 from fun e => by have := (nI_eq (b := 6) (by omega) (by omega)).mp e; omega), lg_108 h, mx5, n00, lg_108 h, mx_nj (by omega), e8, lp_108 h, mx_unj (by omega), nI_1, lg_108 h, mx5, n00]
  rfl
theorem opn_no (h : ly c S) (e8 : J 108 8 = nI 6) : X9_opensOne 108 (c, w, S, mx J p 0 x, K2) = pm_oI 0 (c, w, S, mx J p 3 (nI p), K2) := by
  unfold X9_opensOne X9_opensOne_j45 X9_opensOne_j57
  rw [lg_108 h, mx5, n00, lg_108 h, mx_nj (by omega), e8, if_pos (show nI 6 = 6 from rfl), lg_108 h, mx4, lc_108 h, nl_3, mx_wrong h, ly_cV, lg_108 h, mx5, nk0 (by omega)]
  rfl
theorem cls {y : Int32} (h : ly c S) (e8 : J 108 8 = nI (o + 1)) (hg : g < 4) : (pm_gI 9 108 8 (c, w, S, mx J p g y, K2) fun x33 => pm_pI 9 108 8 (x33 - 1) (c, w, S, mx J p g y, K2) fun m34 => pm_oV m34) = pm_oV (c, w, S, mx (ly_u J 108 8 (nI o)) p g y, K2) := by
  rw [lg_108 h, mx_nj (by omega), e8, lp_108 h, mx_unj (by omega), show nI (o + 1) - (1 : Int32) = nI o from nI_pred o]
theorem clsF {y : Int32} (h : ly c S) : ∃ z, (pm_gI 9 108 8 (c, w, S, mx J p g y, K2) fun x33 => pm_pI 9 108 8 (x33 - 1) (c, w, S, mx J p g y, K2) fun m34 => pm_oV m34) = pm_oV (c, w, S, mx (ly_u J 108 8 z) p g y, K2) := by
  rw [lg_108 h, lp_108 h, mx_unj (by omega)]
  exact ⟨_, rfl⟩
theorem RLw_8 {z : Int32} (h : RLw I J m t) : RLw I (ly_u J 108 8 z) m t := by
  obtain ⟨h1, h2, h3, h4, h5⟩ := h
  have e : ∀ k j, ly_u J 108 8 z (290 + k) j = J (290 + k) j := fun k j => by rw [ly_uE, if_neg (by omega)]
  refine ⟨h1, h2, by rw [ly_uE, if_neg (by omega)]; exact h3, fun k hk => by rw [e, e]; exact h4 k hk, ?_⟩
  rw [jl_h_eq (y := fun k => J (290 + k) 0) (fun k _ => e k 0)]; exact h5
theorem tW_d (h : tI iDg T L p = true) : tI iLt T L p = false := by
  have h1 := of_decide_eq_true h
  have h2 := of_decide_eq_true h1.2
  apply decide_eq_false
  rintro ⟨-, e⟩
  have := of_decide_eq_true e
  omega
/-- a pair's inside, behind its word -/
theorem pr_R {W1 : Nat} (h : ly c S) (hR : SR c w S K K2 T L x rsC rsM (o + 1)) (hT : tB I T L) (hM : mB J T L) (hJ : jk I) (hp : p ≤ L) (hL : L ≤ 150) (hRL : RLw I J m t) (hmd : m + d + 1 ≤ p) (ht : t ≤ 3 * o + 2) (ho : o < 6) (e8 : J 108 8 = nI (o + 1)) (hv : 7 ≤ W1 ∧ W1 ≤ 8) (hp0 : g < p) :
    rO c w S K K2 PL QL I J x (GL L g o t d) (X1_readPair rsC 79 65 (nI o) (-nI (6 + W1)) (c, w, S, tx I p s v, K))
      (pm_cV (X9_sign 108 91 (c, w, S, mx J p 0 x, K2)) fun m27 => pm_rc 9 108 m27 <| pm_cV (rsM 108 m27) fun m28 => pm_rc 9 108 m28 <| pm_cV (X9_sign 108 44 m28) fun m29 => pm_rc 9 108 m29 <| pm_cV (rsM 108 m29) fun m30 => pm_rc 9 108 m30 <| pm_cV (X9_sign 108 93 m30) fun m31 => pm_rc 9 108 m31 <| pm_cV (X9_notes 108 (nI W1) 0 m31) fun m32 => pm_gI 9 108 8 m32 fun x33 => pm_pI 9 108 8 (x33 - 1) m32 fun m34 => pm_oV m34) := by
  have e11 : nI o + (1 : Int32) = nI (o + 1) := nI_1 o
  have fin : ∀ (I1 J1 : Nat → Nat → Int32) (pp p2 k q : Nat) (s v : Int32), only PL I I1 → only QL J J1 → 1 ≤ k ∧ k ≤ 3 ∧ q ≤ 600 ∧ p2 ≤ 600 → rO c w S K K2 PL QL I J x (GL L g o t d) (X1_readPair_j77 rsC (c, w, S, tx (tf I1 k q) pp s v, K)) (pm_gI 9 108 8 (c, w, S, mx J1 p2 k (nI q), K2) fun x33 => pm_pI 9 108 8 (x33 - 1) (c, w, S, mx J1 p2 k (nI q), K2) fun m34 => pm_oV m34) := by
    intro I1 J1 pp p2 k q s v oI oJ hk
    obtain ⟨z, hz⟩ := clsF (w := w) (K2 := K2) (J := J1) (p := p2) (g := k) (y := nI q) h
    rw [hz]
    unfold X1_readPair_j77 X1_readPair_j78
    exact rO_no hk oI (only_u oJ (by unfold QL; omega))
  unfold X1_readPair
  rw [if_pos (show nI o < 6 from nI_lt (b := 6) ho (by omega)), lc_65 h, show (91 : Int32) = nI 91 from rfl]
  refine rO_sign h hT hM hp hp rfl (by omega) (fun hb h1 h2 => ?_) (fun q pp hk => ?_)
  · rw [i10, lc_79 h, e11, lc_108 h]
    refine rO_b (hR.1 I J (tS T L p + 1) m t (d + 1) s v hT hM hJ (by omega) hRL (by omega) (by omega) e8) (fun I1 J1 p1 s1 v1 o1 o2 hG => ?_) (fun I1 J1 p1 p2 s1 v1 k1 q1 o1 o2 hk1 => ?_)
    · obtain ⟨g1, g2, ⟨m1, g3, g4⟩, g5⟩ := hG
      rw [i10, lc_65 h, lc_108 h, show (44 : Int32) = nI 44 from rfl]
      refine rO_sign h (PL_T hT o1) (QL_T hM o2) g2 g2 rfl (by omega) (fun hb2 h3 h4 => ?_) (fun q pp hk => ?_)
      · rw [i10, lc_79 h, lc_108 h]
        refine rO_b (hR.1 I1 J1 (tS T L p1 + 1) m1 (t + 1) (d + 1) s1 v1 (PL_T hT o1) (QL_T hM o2) (PL_jk hJ o1) (by omega) g3 (by omega) (by omega) g5) (fun I2 J2 p2 s2 v2 o3 o4 hG => ?_) (fun I2 J2 p2 p3 s2 v2 k2 q2 o3 o4 hk2 => ?_)
        · obtain ⟨f1, f2, ⟨m2, f3, f4⟩, f5⟩ := hG
          have oI := only_t o1 o3
          have oJ := only_t o2 o4
          rw [i10, lc_65 h, lc_108 h, show (93 : Int32) = nI 93 from rfl]
          refine rO_sign h (PL_T hT oI) (QL_T hM oJ) f2 f2 rfl (by omega) (fun hb3 h5 h6 => ?_) (fun q pp hk => ?_)
          · have hm2 : m2 < 150 := by omega
            rw [i10, lc_79 h, ap_C h hm2 f3.2.1, ly_cI, i10, lc_108 h, nt_M h hm2 f3.2.2.1, ly_cV, cls (o := o) h (by rw [ntd8]; exact f5) (by omega)]
            unfold X1_readPair_j78
            refine rO_ok (apd_o oI) (only_u (ntd_o hm2 oJ) (by unfold QL; omega)) ⟨by omega, by omega, ⟨m2 + 1, RLw_8 ?_, by omega⟩, by rw [ly_uE, if_pos ⟨rfl, rfl⟩]⟩
            exact RLw_o (z := 0) f3 hm2 (by omega) (by omega) (by omega)
          · rw [i00, lc_108 h, nt_F h (by omega), ly_cV]
            exact fin _ _ _ _ _ _ _ _ oI oJ hk
        · have hg2 : 1 ≤ k2 ∧ k2 ≤ 3 := ⟨hk2.1, hk2.2.1⟩
          rw [i00, lc_108 h, mx_signF h (by omega), ly_cV, lc_108 h, nt_F h hg2, ly_cV]
          exact fin _ _ _ _ _ _ _ _ (only_t o1 o3) (only_t o2 o4) hk2
      · rw [i00, lc_108 h, hR.2 _ _ _ _ (by omega), ly_cV, lc_108 h, mx_signF h (by omega), ly_cV, lc_108 h, nt_F h (by omega), ly_cV]
        exact fin _ _ _ _ _ _ _ _ o1 o2 hk
    · have hg1 : 1 ≤ k1 ∧ k1 ≤ 3 := ⟨hk1.1, hk1.2.1⟩
      rw [i00, lc_108 h, mx_signF h (by omega), ly_cV, lc_108 h, hR.2 _ _ _ _ hg1, ly_cV, lc_108 h, mx_signF h (by omega), ly_cV, lc_108 h, nt_F h hg1, ly_cV]
      exact fin _ _ _ _ _ _ _ _ o1 o2 hk1
  · rw [i00, lc_108 h, hR.2 _ _ _ _ (by omega), ly_cV, lc_108 h, mx_signF h (by omega), ly_cV, lc_108 h, hR.2 _ _ _ _ (by omega), ly_cV, lc_108 h, mx_signF h (by omega), ly_cV, lc_108 h, nt_F h (by omega), ly_cV]
    exact fin _ _ _ _ _ _ _ _ only_r only_r hk
end LAS
