/-! a law read by the one and by the other: products, sums -/
section LAV
variable {c w : Nat} {S : Nat → pmS} {I I1 I2 J J1 A B E O I0 J0 : Nat → Nat → Int32} {K K2 : Nat → Nat → Int64} {T : Nat → Nat} {L p g n N m t o d : Nat} {s v x : Int32} {rsC : Nat → Nat → Int32 → pmM → pmR} {rsM : Nat → pmM → pmR} {P Q : Nat → Nat → Prop}
/-- one more part behind a sign -/
theorem op_S {UC UM : pmR} {V k q : Nat} {FC : pmM → pmR} {aC : Int32 × pmM → pmR} {aM : pmM → pmR} (h : ly c S) (hL : L ≤ 150) (hV : 2 ≤ V ∧ V ≤ 8) (hpq : p < q) (hI : only PL I0 I) (hJ : only QL J0 J)
    (hU : rO c w S K K2 PL QL I J x (GL L q o (t + 1) (d + 1)) UC UM)
    (hFC : ∀ m, FC m = (pm_rc 1 79 m <| pm_cI (X1_append 79 (-nI (6 + V)) m) fun _ m9 => pm_bI (nI k + 1) fun x11 => aC (x11, m9)))
    (hA : ∀ I1 J1 p1 s v, only PL I0 I1 → only QL J0 J1 → GL L p o t d I1 J1 p1 → q < p1 → rO c w S K K2 PL QL I0 J0 x (GL L p o t d) (aC (nI (k + 1), (c, w, S, tx I1 p1 s v, K))) (aM (c, w, S, mx J1 p1 0 x, K2)))
    (hF : ∀ J1 p2 g q, 1 ≤ g ∧ g ≤ 3 → aM (c, w, S, mx J1 p2 g (nI q), K2) = pm_oV (c, w, S, mx J1 p2 g (nI q), K2)) :
    rO c w S K K2 PL QL I0 J0 x (GL L p o t d) (pm_cI UC fun x8 m7 => if x8 = 0 then pm_oI 0 m7 else FC m7) (pm_cV UM fun m9 => pm_rc 9 108 m9 <| pm_cV (X9_notes 108 (nI V) 0 m9) fun m10 => aM m10) := by
  refine rO_b hU (fun I1 J1 p1 s1 v1 o1 o2 hG => ?_) (fun I1 J1 p1 p2 s1 v1 k1 q1 o1 o2 hk1 => ?_)
  · obtain ⟨g1, g2, ⟨m1, g3, g4⟩, g5⟩ := hG
    have hm : m1 < 150 := by omega
    rw [i10, hFC, lc_79 h, ap_C h hm g3.2.1, ly_cI, ly_bI, nI_1, lc_108 h, nt_M h hm g3.2.2.1, ly_cV]
    refine hA _ _ _ _ _ (apd_o (only_t hI o1)) (ntd_o hm (only_t hJ o2)) ⟨by omega, g2, ⟨m1 + 1, ?_, by omega⟩, by rw [ntd8]; exact g5⟩ g1
    exact RLw_o (z := 0) g3 hm hV.1 hV.2 (by omega)
  · have hg : 1 ≤ k1 ∧ k1 ≤ 3 := ⟨hk1.1, hk1.2.1⟩
    rw [i00, lc_108 h, nt_F h hg, ly_cV, hF _ _ _ _ hg]
    exact rO_no hk1 (only_t hI o1) (only_t hJ o2)
theorem pd_R (h : ly c S) (hR : o < 6 → SR c w S K K2 T L x rsC rsM (o + 1)) (hT : tB I T L) (hM : mB J T L) (hJ : jk I) (hp : p ≤ L) (hL : L ≤ 150) (hRL : RLw I J m t) (hmd : m + d ≤ p) (ht : t ≤ 3 * o + 1) (ho : o ≤ 6) (e8 : J 108 8 = nI o) :
    rO c w S K K2 PL QL I J x (GL L p o t d) (X1_readProduct rsC 79 65 (nI o) (c, w, S, tx I p s v, K)) (X9_product rsM 108 (c, w, S, mx J p 0 x, K2)) := by
  unfold X1_readProduct X9_product
  rw [lc_79 h, lc_108 h]
  refine rO_b (un_R h hR hT hM hJ hp hL hRL hmd (by omega) ho e8) (fun I1 J1 p1 s1 v1 o1 o2 hG => ?_) (fun I1 J1 p1 p2 s1 v1 k1 q1 o1 o2 hk1 => ?_)
  · rw [i10]
    have := ly_wh2 (α := (Nat → Nat → Int32) × (Nat → Nat → Int32) × Nat × Nat × Int32 × Int32) (bC := X1_readProduct_L13 rsC 79 65 (nI o)) (bM := X9_product_L4 rsM 108) (fun a => L - a.2.2.1) (fun a => (nI a.2.2.2.1, (c, w, S, tx a.1 a.2.2.1 a.2.2.2.2.1 a.2.2.2.2.2, K))) (fun a => (c, w, S, mx a.2.1 a.2.2.1 0 x, K2))
      (fun a RC RM => only PL I a.1 → only QL J a.2.1 → GL L p o t d a.1 a.2.1 a.2.2.1 → a.2.2.2.1 < a.2.2.1 → rO c w S K K2 PL QL I J x (GL L p o t d) RC RM) ?_ pm_N pm_N (I1, J1, p1, 0, s1, v1) (by have := hp; show L - _ < 100000; omega) (by show L - _ + 1 < 100000; omega) o1 o2 hG (by have := hG.1; show 0 < p1; omega)
    · exact this
    · rintro aC aM ⟨I2, J2, p2, k, s2, v2⟩ hb hA oI oJ hG2 hk
      obtain ⟨g1, g2, ⟨m2, g3, g4⟩, g5⟩ := hG2
      replace g1 : p < p2 := g1
      replace g2 : p2 ≤ L := g2
      replace g3 : RLw I2 J2 m2 (t + 1) := g3
      replace g4 : m2 + d ≤ p2 := g4
      replace g5 : J2 108 8 = nI o := g5
      replace hk : k < p2 := hk
      replace oI : only PL I I2 := oI
      replace oJ : only QL J J2 := oJ
      have hT2 := PL_T hT oI
      have hM2 := QL_T hM oJ
      have hq : tS T L p2 ≤ L := tE_lL g2
      have hs : tS T L (tS T L p2) = tS T L p2 := tE_i g2
      have hpq : p2 ≤ tS T L p2 := tE_ge g2
      have hF : ∀ J1 p2 g q, 1 ≤ g ∧ g ≤ 3 → aM (c, w, S, mx J1 p2 g (nI q), K2) = pm_oV (c, w, S, mx J1 p2 g (nI q), K2) := fun J1 p2 g q hg => by
        obtain ⟨b, e⟩ := hb (c, w, S, mx J1 p2 g (nI q), K2)
        rw [e]
        unfold X9_product_L4
        rw [lg_108 h, mx5, nk0 hg]
      have hL' : ∀ a : Nat, a < 256 → tb T L (tS T L p2) = nI a → tS T L p2 < L := fun a ha e => by
        rcases Nat.lt_or_ge (tS T L p2) L with b | b
        · exact b
        · exact absurd e (tb_ne (by omega) (by omega))
      have step : ∀ (V : Nat) (FC : pmM → pmR), 2 ≤ V ∧ V ≤ 8 → tS T L p2 < L → (∀ m, FC m = (pm_rc 1 79 m <| pm_cI (X1_append 79 (-nI (6 + V)) m) fun _ m9 => pm_bI (nI k + 1) fun x11 => aC (x11, m9))) → rO c w S K K2 PL QL I J x (GL L p o t d) (pm_cI (X1_readUnit rsC 79 65 (nI o) (c, w, S, tx I2 (tS T L p2 + 1) s2 v2, K)) fun x8 m7 => if x8 = 0 then pm_oI 0 m7 else FC m7) (pm_cV (X9_one rsM 108 (c, w, S, mx J2 (tS T L p2 + 1) 0 x, K2)) fun m9 => pm_rc 9 108 m9 <| pm_cV (X9_notes 108 (nI V) 0 m9) fun m10 => aM m10) := fun V FC hV hlt hFC =>
        op_S h hL hV (by omega) oI oJ (un_R h hR hT2 hM2 (PL_jk hJ oI) (by omega) hL g3 (by omega) (by omega) ho g5) hFC (fun I3 J3 p3 s3 v3 o3 o4 hG3 hlt2 => hA (I3, J3, p3, k + 1, s3, v3) (by have := hG3.2.1; show L - p3 < L - p2; omega) o3 o4 hG3 (by show k + 1 < p3; omega)) hF
      show rO c w S K K2 PL QL I J x (GL L p o t d) (X1_readProduct_L13 rsC 79 65 (nI o) aC (nI k, (c, w, S, tx I2 p2 s2 v2, K))) (X9_product_L4 rsM 108 aM (c, w, S, mx J2 p2 0 x, K2))
      unfold X1_readProduct_L13 X9_product_L4
      rw [if_neg (show ¬ (150 : Int32) ≤ nI k from nI_ge (b := 150) (by omega) (by omega)), lc_65 h, tx_peek h hT2 g2, ly_cI, lg_108 h, mx5, n00, lc_108 h]
      by_cases h42 : tb T L (tS T L p2) = nI 42
      · rw [h42, if_pos (show nI 42 = 42 from rfl), show (42 : Int32) = nI 42 from rfl, mx_takesSign_ok h hM2 g2 h42, ly_cI, i10]
        unfold X1_readProduct_j49 X9_product_j52
        rw [lg_65 h, tx3, lp_65 h, tx_u3s, lc_79 h, if_neg (show ¬ (4 : Int32) = -1 from by decide), lc_108 h]
        exact step 4 _ (by omega) (hL' 42 (by omega) h42) (fun m => by rw [if_pos (show nI 42 = 42 from rfl)]; rfl)
      · rw [if_neg (show ¬ tb T L (tS T L p2) = 42 from h42), show (42 : Int32) = nI 42 from rfl, mx_takesSign_no h hM2 g2 h42, ly_cI, i00, lc_108 h]
        by_cases h47 : tb T L (tS T L p2) = nI 47
        · rw [h47, if_pos (show nI 47 = 47 from rfl), show (47 : Int32) = nI 47 from rfl, mx_takesSign_ok h hM2 hq (by rw [hs]; exact h47), hs, ly_cI, i10]
          unfold X1_readProduct_j49 X9_product_j52
          rw [lg_65 h, tx3, lp_65 h, tx_u3s, lc_79 h, if_neg (show ¬ (5 : Int32) = -1 from by decide), lc_108 h]
          exact step 5 _ (by omega) (hL' 47 (by omega) h47) (fun m => by rw [if_neg (by decide), if_pos (show nI 47 = 47 from rfl)]; rfl)
        · rw [if_neg (show ¬ tb T L (tS T L p2) = 47 from h47), show (47 : Int32) = nI 47 from rfl, mx_takesSign_no h hM2 hq (by rw [hs]; exact h47), hs, ly_cI, i00, lc_108 h]
          by_cases h37 : tb T L (tS T L p2) = nI 37
          · rw [h37, if_pos (show nI 37 = 37 from rfl), show (37 : Int32) = nI 37 from rfl, mx_takesSign_ok h hM2 hq (by rw [hs]; exact h37), hs, ly_cI, i10]
            unfold X1_readProduct_j49 X9_product_j52
            rw [lg_65 h, tx3, lp_65 h, tx_u3s, lc_79 h, if_neg (show ¬ (6 : Int32) = -1 from by decide), lc_108 h]
            exact step 6 _ (by omega) (hL' 37 (by omega) h37) (fun m => by rw [if_neg (by decide), if_neg (by decide)]; rfl)
          · rw [if_neg (show ¬ tb T L (tS T L p2) = 37 from h37), show (37 : Int32) = nI 37 from rfl, mx_takesSign_no h hM2 hq (by rw [hs]; exact h37), hs, ly_cI, i00]
            unfold X9_product_j52
            rw [if_pos rfl]
            exact rO_ok oI oJ ⟨by omega, hq, ⟨m2, g3, by omega⟩, g5⟩
  · have hg : 1 ≤ k1 ∧ k1 ≤ 3 := ⟨hk1.1, hk1.2.1⟩
    rw [i00]
    show rO c w S K K2 PL QL I J x (GL L p o t d) _ (pm_lp (99999 + 1) _ _)
    rw [ly_S]
    unfold X9_product_L4
    rw [lg_108 h, mx5, nk0 hg]
    exact rO_no hk1 o1 o2
theorem sm_R (h : ly c S) (hR : o < 6 → SR c w S K K2 T L x rsC rsM (o + 1)) (hT : tB I T L) (hM : mB J T L) (hJ : jk I) (hp : p ≤ L) (hL : L ≤ 150) (hRL : RLw I J m t) (hmd : m + d ≤ p) (ht : t ≤ 3 * o) (ho : o ≤ 6) (e8 : J 108 8 = nI o) :
    rO c w S K K2 PL QL I J x (GL L p o t d) (X1_readSum rsC 79 65 (nI o) (c, w, S, tx I p s v, K)) (X9_sum rsM 108 (c, w, S, mx J p 0 x, K2)) := by
  unfold X1_readSum X9_sum
  rw [lc_79 h, lc_108 h]
  refine rO_b (pd_R h hR hT hM hJ hp hL hRL hmd (by omega) ho e8) (fun I1 J1 p1 s1 v1 o1 o2 hG => ?_) (fun I1 J1 p1 p2 s1 v1 k1 q1 o1 o2 hk1 => ?_)
  · rw [i10]
    have := ly_wh2 (α := (Nat → Nat → Int32) × (Nat → Nat → Int32) × Nat × Nat × Int32 × Int32) (bC := X1_readSum_L13 rsC 79 65 (nI o)) (bM := X9_sum_L4 rsM 108) (fun a => L - a.2.2.1) (fun a => (nI a.2.2.2.1, (c, w, S, tx a.1 a.2.2.1 a.2.2.2.2.1 a.2.2.2.2.2, K))) (fun a => (c, w, S, mx a.2.1 a.2.2.1 0 x, K2))
      (fun a RC RM => only PL I a.1 → only QL J a.2.1 → GL L p o t d a.1 a.2.1 a.2.2.1 → a.2.2.2.1 < a.2.2.1 → rO c w S K K2 PL QL I J x (GL L p o t d) RC RM) ?_ pm_N pm_N (I1, J1, p1, 0, s1, v1) (by have := hp; show L - _ < 100000; omega) (by show L - _ + 1 < 100000; omega) o1 o2 hG (by have := hG.1; show 0 < p1; omega)
    · exact this
    · rintro aC aM ⟨I2, J2, p2, k, s2, v2⟩ hb hA oI oJ hG2 hk
      obtain ⟨g1, g2, ⟨m2, g3, g4⟩, g5⟩ := hG2
      replace g1 : p < p2 := g1
      replace g2 : p2 ≤ L := g2
      replace g3 : RLw I2 J2 m2 (t + 1) := g3
      replace g4 : m2 + d ≤ p2 := g4
      replace g5 : J2 108 8 = nI o := g5
      replace hk : k < p2 := hk
      replace oI : only PL I I2 := oI
      replace oJ : only QL J J2 := oJ
      have hT2 := PL_T hT oI
      have hM2 := QL_T hM oJ
      have hq : tS T L p2 ≤ L := tE_lL g2
      have hs : tS T L (tS T L p2) = tS T L p2 := tE_i g2
      have hpq : p2 ≤ tS T L p2 := tE_ge g2
      have hF : ∀ J1 p2 g q, 1 ≤ g ∧ g ≤ 3 → aM (c, w, S, mx J1 p2 g (nI q), K2) = pm_oV (c, w, S, mx J1 p2 g (nI q), K2) := fun J1 p2 g q hg => by
        obtain ⟨b, e⟩ := hb (c, w, S, mx J1 p2 g (nI q), K2)
        rw [e]
        unfold X9_sum_L4
        rw [lg_108 h, mx5, nk0 hg]
      have hL' : ∀ a : Nat, a < 256 → tb T L (tS T L p2) = nI a → tS T L p2 < L := fun a ha e => by
        rcases Nat.lt_or_ge (tS T L p2) L with b | b
        · exact b
        · exact absurd e (tb_ne (by omega) (by omega))
      have step : ∀ (V : Nat) (FC : pmM → pmR), 2 ≤ V ∧ V ≤ 8 → tS T L p2 < L → (∀ m, FC m = (pm_rc 1 79 m <| pm_cI (X1_append 79 (-nI (6 + V)) m) fun _ m9 => pm_bI (nI k + 1) fun x11 => aC (x11, m9))) → rO c w S K K2 PL QL I J x (GL L p o t d) (pm_cI (X1_readProduct rsC 79 65 (nI o) (c, w, S, tx I2 (tS T L p2 + 1) s2 v2, K)) fun x8 m7 => if x8 = 0 then pm_oI 0 m7 else FC m7) (pm_cV (X9_product rsM 108 (c, w, S, mx J2 (tS T L p2 + 1) 0 x, K2)) fun m9 => pm_rc 9 108 m9 <| pm_cV (X9_notes 108 (nI V) 0 m9) fun m10 => aM m10) := fun V FC hV hlt hFC =>
        op_S h hL hV (by omega) oI oJ (pd_R h hR hT2 hM2 (PL_jk hJ oI) (by omega) hL g3 (by omega) (by omega) ho g5) hFC (fun I3 J3 p3 s3 v3 o3 o4 hG3 hlt2 => hA (I3, J3, p3, k + 1, s3, v3) (by have := hG3.2.1; show L - p3 < L - p2; omega) o3 o4 hG3 (by show k + 1 < p3; omega)) hF
      show rO c w S K K2 PL QL I J x (GL L p o t d) (X1_readSum_L13 rsC 79 65 (nI o) aC (nI k, (c, w, S, tx I2 p2 s2 v2, K))) (X9_sum_L4 rsM 108 aM (c, w, S, mx J2 p2 0 x, K2))
      unfold X1_readSum_L13 X9_sum_L4
      rw [if_neg (show ¬ (150 : Int32) ≤ nI k from nI_ge (b := 150) (by omega) (by omega)), lc_65 h, tx_peek h hT2 g2, ly_cI, lg_108 h, mx5, n00, lc_108 h]
      by_cases h43 : tb T L (tS T L p2) = nI 43
      · rw [h43, if_pos (show nI 43 = 43 from rfl), show (43 : Int32) = nI 43 from rfl, mx_takesSign_ok h hM2 g2 h43, ly_cI, i10]
        unfold X1_readSum_j42 X9_sum_j38
        rw [lg_65 h, tx3, lp_65 h, tx_u3s, lc_79 h, if_neg (show ¬ (2 : Int32) = -1 from by decide), lc_108 h]
        exact step 2 _ (by omega) (hL' 43 (by omega) h43) (fun m => by rw [if_pos (show nI 43 = 43 from rfl)]; rfl)
      · rw [if_neg (show ¬ tb T L (tS T L p2) = 43 from h43), show (43 : Int32) = nI 43 from rfl, mx_takesSign_no h hM2 g2 h43, ly_cI, i00, lc_108 h]
        by_cases h45 : tb T L (tS T L p2) = nI 45
        · rw [h45, if_pos (show nI 45 = 45 from rfl), show (45 : Int32) = nI 45 from rfl, mx_takesSign_ok h hM2 hq (by rw [hs]; exact h45), hs, ly_cI, i10]
          unfold X1_readSum_j42 X9_sum_j38
          rw [lg_65 h, tx3, lp_65 h, tx_u3s, lc_79 h, if_neg (show ¬ (3 : Int32) = -1 from by decide), lc_108 h]
          exact step 3 _ (by omega) (hL' 45 (by omega) h45) (fun m => by rw [if_neg (by decide)]; rfl)
        · rw [if_neg (show ¬ tb T L (tS T L p2) = 45 from h45), show (45 : Int32) = nI 45 from rfl, mx_takesSign_no h hM2 hq (by rw [hs]; exact h45), hs, ly_cI, i00]
          unfold X9_sum_j38
          rw [if_pos rfl]
          exact rO_ok oI oJ ⟨by omega, hq, ⟨m2, g3, by omega⟩, g5⟩
  · have hg : 1 ≤ k1 ∧ k1 ≤ 3 := ⟨hk1.1, hk1.2.1⟩
    rw [i00]
    show rO c w S K K2 PL QL I J x (GL L p o t d) _ (pm_lp (99999 + 1) _ _)
    rw [ly_S]
    unfold X9_sum_L4
    rw [lg_108 h, mx5, nk0 hg]
    exact rO_no hk1 o1 o2
theorem SR_all (h : ly c S) (hL : L ≤ 150) : ∀ n o, o ≤ 6 → 7 - o ≤ n → SR c w S K K2 T L x (X1_readSum_N n) (X9_sum_N n) o := by
  intro n
  induction n with
  | zero => intro o ho hn; omega
  | succ n ih =>
    intro o ho hn
    refine ⟨fun I J p m t d s v hT hM hJ hp hRL hmd ht e8 => ?_, fun J p g y hg => ?_⟩
    · show rO c w S K K2 PL QL I J x (GL L p o t d) (X1_readSum (X1_readSum_N n) 79 65 (nI o) _) (X9_sum (X9_sum_N n) 108 _)
      exact sm_R h (fun h6 => ih (o + 1) (by omega) (by omega)) hT hM hJ hp hL hRL hmd ht ho e8
    · show X9_sum (X9_sum_N n) 108 _ = _
      exact sm_F h hg
end LAV
