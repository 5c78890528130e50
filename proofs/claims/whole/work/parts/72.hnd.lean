/-! hands by seeds: both -/
section HNE
variable {c w : Nat} {S : Nat → pmS} {I I1 I2 J : Nat → Nat → Int32} {K K1 : Nat → Nat → Int64} {n : Nat} {wd : Nat → Nat} {q : Nat → Nat → Nat} {r : Nat → Int32} {a : Nat} {se : Nat → Nat} {W G d : Nat} {lw : (Nat → Int32) → Int32} {Q : Nat}
def PE (d i j : Nat) : Prop := PD d i j ∨ (i = d ∧ j = 8)
def PF (a i j : Nat) : Prop := PR a i j ∨ (i = 108 ∧ j = 54)
theorem eC_e (hd : dk d) (h : eC I n wd q lw) (ho : only (PE d) I I1) : eC I1 n wd q lw := by
  have := dk_lt hd
  obtain ⟨h1, h2, h3⟩ := h
  refine ⟨pg_C_c h1 (fun i j e => ho i j (by unfold dPC at e; unfold PE PD; omega)), jl_c h2 (fun i j e => ho i j (by unfold dL at e; unfold PE PD; omega)), fun kn => ?_⟩
  rw [lwp_c (by have := jl_m h2; omega) (fun i j e => ho i j (by unfold dL at e; unfold PE PD; omega))]
  exact h3 kn
theorem eM_e (ha : rwa a) (h : eM I n wd q lw) (ho : only (PF a) I I1) : eM I1 n wd q lw := by
  have := rwa_lt ha
  obtain ⟨h1, h2, h3⟩ := h
  refine ⟨pg_M_c h1 (fun i j e => ho i j (by unfold dPM at e; unfold PF PR; omega)), jl_c h2 (fun i j e => ho i j (by unfold dL at e; unfold PF PR; omega)), fun kn => ?_⟩
  rw [lwp_c (by have := jl_m h2; omega) (fun i j e => ho i j (by unfold dL at e; unfold PF PR; omega))]
  exact h3 kn
theorem PD_e (h : only (PD d) I I1) : only (PE d) I I1 := only_m h (fun _ _ e => Or.inl e)
theorem PR_e (h : only (PR a) I I1) : only (PF a) I I1 := only_m h (fun _ _ e => Or.inl e)
theorem PD8 (hd : dk d) (h : only (PD d) I I1) : I1 d 8 = I d 8 := h d 8 (by have := dk_lt hd; unfold PD; omega)
theorem PR8 (ha : rwa a) (h : only (PR a) I I1) : I1 108 54 = I 108 54 := h 108 54 (by have := rwa_lt ha; unfold PR; omega)
variable {D : Int32 → Nat} {X : Int32 → Int32}
/-- how a number is drawn by the one, by the other -/
def wC (D : Int32 → Nat) (X : Int32 → Int32) : Prop := ∀ (c w : Nat) (S : Nat → pmS) (A : Nat → Nat → Int32) (K : Nat → Nat → Int64) (d m : Nat), ly c S → dk d → 0 < m → m < 100 → X0_drawnBy d (nI m) (c, w, S, A, K) = pm_oI (nI (D (X (A d 8)) % m)) (c, w, S, ly_u A d 8 (X (A d 8)), K)
def wM (D : Int32 → Nat) (X : Int32 → Int32) : Prop := ∀ (c w : Nat) (S : Nat → pmS) (A : Nat → Nat → Int32) (K : Nat → Nat → Int64) (m : Nat), ly c S → 0 < m → m < 100 → X9_draw 108 (nI m) (c, w, S, A, K) = pm_oI (nI (D (X (A 108 54)) % m)) (c, w, S, ly_u A 108 54 (X (A 108 54)), K)
theorem wC_ok : wC dvn nx := fun _ _ _ _ _ _ _ h hd h0 hm => dw_Cc h hd h0 hm
theorem wM_ok : wM dvn nx := fun _ _ _ _ _ _ h h0 hm => dw_M h h0 hm
theorem dwC {m : Nat} {x : Int32} (hw : wC D X) (h : ly c S) (hd : dk d) (h0 : 0 < m) (hm : m < 100) (hx : I d 8 = x) (hC : dk_C I d r) : ∃ I1, X0_drawnBy d (nI m) (c, w, S, I, K) = pm_oI (nI (D (X x) % m)) (c, w, S, I1, K) ∧ I1 d 8 = X x ∧ dk_C I1 d r ∧ only (PE d) I I1 := by
  subst hx
  exact ⟨_, hw c w S I K d m h hd h0 hm, by rw [ly_uE, if_pos ⟨rfl, rfl⟩], dk_C_8 hC, only_u only_r (by unfold PE; omega)⟩
theorem dwM {m : Nat} {x : Int32} (hw : wM D X) (h : ly c S) (ha : rwa a) (h0 : 0 < m) (hm : m < 100) (hx : I 108 54 = x) (hC : dk_M I a r) : ∃ I1, X9_draw 108 (nI m) (c, w, S, I, K) = pm_oI (nI (D (X x) % m)) (c, w, S, I1, K) ∧ I1 108 54 = X x ∧ dk_M I1 a r ∧ only (PF a) I I1 := by
  subst hx
  exact ⟨_, hw c w S I K m h h0 hm, by rw [ly_uE, if_pos ⟨rfl, rfl⟩], dk_M_8 ha hC, only_u only_r (by unfold PF; omega)⟩
theorem mn_C {i j : Nat} (hi : i < 100) (hj : j < 100) : (if nI j < nI i then nI j else nI i) = nI (min i j) ∧ (if nI i < nI j then nI j else nI i) = nI (max i j) := by
  constructor
  · by_cases h : j < i
    · rw [if_pos (nI_lt h (by omega)), Nat.min_eq_right (by omega)]
    · rw [if_neg (nI_nlt (by omega) (by omega)), Nat.min_eq_left (by omega)]
  · by_cases h : i < j
    · rw [if_pos (nI_lt h (by omega)), Nat.max_eq_right (by omega)]
    · rw [if_neg (nI_nlt (by omega) (by omega)), Nat.max_eq_left (by omega)]
theorem hp_C {k : Nat} {s : Int32} (hw : wC D X) (h : ly c S) (hE : eC I n wd q lw) (hd : dk d) (hC : dk_C I d r) (hr : dk_W n wd r) (hk : k < 100) (hQ : Q ≤ 16) : ∃ I1, X0_playHand d s (nI k) (nI Q) (c, w, S, I, K) = pm_oV (c, w, S, I1, K) ∧ dk_C I1 d (hdr D X n wd q lw Q k s r) ∧ only (PE d) I I1 := by
  have hn6 := hE.1.1.1
  unfold X0_playHand
  rw [lk_p h hd]
  have ho0 : only (PE d) I (ly_u I d 8 s) := only_u only_r (by unfold PE; omega)
  by_cases hn : n = 0
  · have e3 : ly_u I d 8 s 67 3 = nI 0 := by have := dk_lt hd; rw [ly_uE, if_neg (by omega), hE.1.2.1, hn]
    refine ⟨_, ?_, by unfold hdr; rw [if_pos hn]; exact dk_C_8 hC, ho0⟩
    show pm_lp (99999 + 1) _ _ = _
    rw [ly_S]
    unfold X0_playHand_L8 X0_playHand_j119
    simp only
    split
    · rfl
    · rw [lk_0 h hd, lg_67 h, e3, if_pos (show nI 0 ≤ 0 by decide)]
  · unfold hdr
    rw [if_neg hn]
    refine ly_loop (fun i (x : (Nat → Nat → Int32) × Int32 × (Nat → Int32)) => ((nI i, (c, w, S, x.1, K)) : Int32 × pmM)) k (fun i x => dk_C x.1 d x.2.2 ∧ dk_W n wd x.2.2 ∧ only (PE d) I x.1 ∧ x.1 d 8 = x.2.1 ∧ hdk D X n wd q lw Q (k - i) x.2.1 x.2.2 = hdk D X n wd q lw Q k s r) (fun R => ∃ I1, R = pm_oV (c, w, S, I1, K) ∧ dk_C I1 d (hdk D X n wd q lw Q k s r) ∧ only (PE d) I I1) ?_ ?_ pm_N 0 (ly_u I d 8 s, s, r) ⟨dk_C_8 hC, hr, ho0, by simp only; rw [ly_uE, if_pos ⟨rfl, rfl⟩], rfl⟩ (by omega) (by rw [pm_NE]; omega)
    · intro again i y hi hQQ hnx
      obtain ⟨A, x, r1⟩ := y
      obtain ⟨q1, q2, q3, q4, q5⟩ := hQQ
      simp only at q1 q2 q3 q4 q5
      have hEA := eC_e hd hE q3
      rw [show k - i = (k - (i + 1)) + 1 by omega] at q5
      simp only [hdk] at q5
      unfold X0_playHand_L8 X0_playHand_j113
      simp only
      rw [if_neg (nI_ge hi (by omega)), lk_0 h hd, lg_67 h, hEA.1.2.1, if_neg (nI_nle (by omega) (by omega)), lk_0 h hd, lg_67 h, hEA.1.2.1, lk_c h hd]
      obtain ⟨A1, a1, a2, a3, a4⟩ := dwC (w := w) (K := K) (m := n) hw h hd (by omega) (by omega) q4 q1
      have o1 := only_t q3 a4
      have hE1 := eC_e hd hE o1
      have hl : D (X x) % n < n := Nat.mod_lt _ (by omega)
      rw [a1, ly_cI]
      unfold hd1 at q5
      generalize D (X x) % n = l at hl q5 ⊢
      have hww := hE1.1.1.2.1 l hl
      have hwl := hE1.1.2.2.1 l hl
      rw [lk_0 h hd, lr_67_0 h, ld_68 h (by omega), hwl, lk_c h hd]
      obtain ⟨A2, b1, b2, b3, b4⟩ := dwC (w := w) (K := K) (m := wd l) hw h hd (by omega) (by omega) a2 a3
      have o2 := only_t o1 b4
      have hE2 := eC_e hd hE o2
      have hwl2 := hE2.1.2.2.1 l hl
      rw [b1, ly_cI, lk_0 h hd, lr_67_0 h, ld_68 h (by omega), hwl2, lk_c h hd]
      obtain ⟨A3, c1, c2, c3, c4⟩ := dwC (w := w) (K := K) (m := wd l) hw h hd (by omega) (by omega) b2 b3
      have o3 := only_t o2 c4
      have hE3 := eC_e hd hE o3
      rw [c1, ly_cI]
      have hi1 : D (X (X x)) % wd l < wd l := Nat.mod_lt _ (by omega)
      have hj1 : D (X (X (X x))) % wd l < wd l := Nat.mod_lt _ (by omega)
      generalize D (X (X x)) % wd l = i1 at hi1 q5 ⊢
      generalize D (X (X (X x))) % wd l = j1 at hj1 q5 ⊢
      rw [(mn_C (i := i1) (j := j1) (by omega) (by omega)).1, (mn_C (i := i1) (j := j1) (by omega) (by omega)).2, lk_c h hd]
      obtain ⟨A4, d1, d2, d3⟩ := sk_C (w := w) (K := K) (i := min i1 j1) (j := max i1 j1) h hE3 hd c3 q2 hl (by omega) (by omega)
      have o4 := only_t o3 (PD_e d3)
      have hE4 := eC_e hd hE o4
      have hrw := rsk_W (lw := lw) (i := min i1 j1) (j := max i1 j1) hE3.1.1 q2 hl
      rw [d1, ly_cI, lk_c h hd]
      generalize (rsk n wd lw r1 l (min i1 j1) (max i1 j1)).2 = r2 at d2 hrw q5 ⊢
      obtain ⟨A5, e1, e2, e3, e4⟩ := dwC (w := w) (K := K) (m := 16) hw h hd (by omega) (by omega) ((PD8 hd d3).trans c2) d2
      have o5 := only_t o4 e4
      have hE5 := eC_e hd hE o5
      rw [show (16 : Int32) = nI 16 from rfl, e1, ly_cI]
      have hx16 : D (X (X (X (X x)))) % 16 < 16 := Nat.mod_lt _ (by omega)
      generalize D (X (X (X (X x)))) % 16 = x16 at hx16 q5 ⊢
      simp only at q5
      by_cases hxq : x16 < Q
      · rw [if_pos hxq] at q5
        rw [if_neg (nI_ge hxq (by omega)), lk_c h hd, show (3 : Int32) = nI 3 from rfl]
        obtain ⟨A6, f1, f2, f3⟩ := rn_C (w := w) (K := K) (k := 3) h hE5 hd e3 hrw (by omega)
        have o6 := only_t o5 (PD_e f3)
        have hE6 := eC_e hd hE o6
        rw [f1, ly_cI]
        by_cases hov : rd_s r2 11 < n
        · rw [if_pos hov] at q5
          rw [decide_eq_true hov, ib1, ly_bI, nI_1]
          exact hnx (A6, X (X (X (X x))), rdk n wd q 3 r2) ⟨f2, rdk_W hE6.1.1 hrw, o6, (PD8 hd f3).trans e2, q5⟩
        · rw [if_neg hov] at q5
          rw [rdk_ov hrw hov] at f2
          rw [decide_eq_false hov, ib0, lk_c h hd]
          obtain ⟨A7, g1, g2, g3⟩ := bg_C (w := w) (K := K) h hE6 hd f2 hrw
          rw [g1, ly_cI, ly_bI, nI_1]
          exact hnx (A7, X (X (X (X x))), (rbg n r2).2) ⟨g2, rbg_W hrw hn6, only_t o6 (PD_e g3), (PD8 hd g3).trans ((PD8 hd f3).trans e2), q5⟩
      · rw [if_neg hxq] at q5
        rw [if_pos (nI_le (by omega) (by omega)), ly_bI, nI_1]
        exact hnx (A5, X (X (X (X x))), r2) ⟨e3, hrw, o5, e2, q5⟩
    · intro again y hQQ
      obtain ⟨A, x, r1⟩ := y
      obtain ⟨q1, q2, q3, q4, q5⟩ := hQQ
      simp only at q1 q2 q3 q4 q5
      rw [Nat.sub_self] at q5
      simp only [hdk] at q5
      unfold X0_playHand_L8 X0_playHand_j119
      simp only
      rw [if_pos (nI_le (Nat.le_refl _) (by omega))]
      exact ⟨A, rfl, by rw [← q5]; exact q1, q3⟩
theorem hp_M {k : Nat} {s : Int32} (hw : wM D X) (h : ly c S) (hE : eM I n wd q lw) (hC : dk_M I 535 r) (hr : dk_W n wd r) (hk : k < 100) (hQ : Q ≤ 16) : ∃ I1, X9_handBy 108 s (nI k) (nI Q) (c, w, S, I, K) = pm_oV (c, w, S, I1, K) ∧ dk_M I1 536 (hdr D X n wd q lw Q k s r) ∧ only (PF 536) I I1 := by
  have hn6 := hE.1.1.1
  obtain ⟨I9, z1, z2, z3⟩ := to_M (w := w) (K := K) h hC
  have hE9 := eM_o rwa_536 hE z3
  unfold X9_handBy
  rw [lr_108_29 h, lr_108_30 h, z1, ly_cV, lp_108 h]
  have ho0 : only (PF 536) I (ly_u I9 108 54 s) := only_u (PR_e z3) (by unfold PF; omega)
  by_cases hn : n = 0
  · have e3 : ly_u I9 108 54 s 108 13 = nI 0 := by rw [ly_uE, if_neg (by omega), hE9.1.2.1, hn]
    refine ⟨_, ?_, by unfold hdr; rw [if_pos hn]; exact dk_M_8 rwa_536 z2, ho0⟩
    show pm_lp (99999 + 1) _ _ = _
    rw [ly_S]
    unfold X9_handBy_L19 X9_handBy_j130
    simp only
    split
    · rfl
    · rw [lg_108 h, e3, if_pos (show nI 0 ≤ 0 by decide)]
  · unfold hdr
    rw [if_neg hn]
    refine ly_loop (fun i (x : (Nat → Nat → Int32) × Int32 × (Nat → Int32)) => ((nI i, (c, w, S, x.1, K)) : Int32 × pmM)) k (fun i x => dk_M x.1 536 x.2.2 ∧ dk_W n wd x.2.2 ∧ only (PF 536) I x.1 ∧ x.1 108 54 = x.2.1 ∧ hdk D X n wd q lw Q (k - i) x.2.1 x.2.2 = hdk D X n wd q lw Q k s r) (fun R => ∃ I1, R = pm_oV (c, w, S, I1, K) ∧ dk_M I1 536 (hdk D X n wd q lw Q k s r) ∧ only (PF 536) I I1) ?_ ?_ pm_N 0 (ly_u I9 108 54 s, s, r) ⟨dk_M_8 rwa_536 z2, hr, ho0, by simp only; rw [ly_uE, if_pos ⟨rfl, rfl⟩], rfl⟩ (by omega) (by rw [pm_NE]; omega)
    · intro again i y hi hQQ hnx
      obtain ⟨A, x, r1⟩ := y
      obtain ⟨q1, q2, q3, q4, q5⟩ := hQQ
      simp only at q1 q2 q3 q4 q5
      have hEA := eM_e rwa_536 hE q3
      rw [show k - i = (k - (i + 1)) + 1 by omega] at q5
      simp only [hdk] at q5
      unfold X9_handBy_L19 X9_handBy_j124
      simp only
      rw [if_neg (nI_ge hi (by omega)), lg_108 h, hEA.1.2.1, if_neg (nI_nle (by omega) (by omega)), lg_108 h, hEA.1.2.1, lc_108 h]
      obtain ⟨A1, a1, a2, a3, a4⟩ := dwM (w := w) (K := K) (m := n) hw h rwa_536 (by omega) (by omega) q4 q1
      have o1 := only_t q3 a4
      have hE1 := eM_e rwa_536 hE o1
      have hl : D (X x) % n < n := Nat.mod_lt _ (by omega)
      rw [a1, ly_cI]
      unfold hd1 at q5
      generalize D (X x) % n = l at hl q5 ⊢
      have hww := hE1.1.1.2.1 l hl
      have hwl := hE1.1.2.2.1 l (by omega)
      rw [lr_108_16 h, ld_113 h (by omega), hwl, lc_108 h]
      obtain ⟨A2, b1, b2, b3, b4⟩ := dwM (w := w) (K := K) (m := wd l) hw h rwa_536 (by omega) (by omega) a2 a3
      have o2 := only_t o1 b4
      have hE2 := eM_e rwa_536 hE o2
      have hwl2 := hE2.1.2.2.1 l (by omega)
      rw [b1, ly_cI, lr_108_16 h, ld_113 h (by omega), hwl2, lc_108 h]
      obtain ⟨A3, c1, c2, c3, c4⟩ := dwM (w := w) (K := K) (m := wd l) hw h rwa_536 (by omega) (by omega) b2 b3
      have o3 := only_t o2 c4
      have hE3 := eM_e rwa_536 hE o3
      rw [c1, ly_cI]
      have hi1 : D (X (X x)) % wd l < wd l := Nat.mod_lt _ (by omega)
      have hj1 : D (X (X (X x))) % wd l < wd l := Nat.mod_lt _ (by omega)
      generalize D (X (X x)) % wd l = i1 at hi1 q5 ⊢
      generalize D (X (X (X x))) % wd l = j1 at hj1 q5 ⊢
      rw [lr_108_30 h, ls_min (by omega) (by omega), ly_cI, mr_max (by omega) (by omega), ly_cI, lc_108 h]
      obtain ⟨A4, d1, d2, d3⟩ := sk_M (w := w) (K := K) (i := min i1 j1) (j := max i1 j1) h hE3 rwa_536 c3 q2 hl (by omega) (by omega)
      have o4 := only_t o3 (PR_e d3)
      have hE4 := eM_e rwa_536 hE o4
      have hrw := rsk_W (lw := lw) (i := min i1 j1) (j := max i1 j1) hE3.1.1 q2 hl
      rw [d1, ly_cI, lc_108 h]
      generalize (rsk n wd lw r1 l (min i1 j1) (max i1 j1)).2 = r2 at d2 hrw q5 ⊢
      obtain ⟨A5, e1, e2, e3, e4⟩ := dwM (w := w) (K := K) (m := 16) hw h rwa_536 (by omega) (by omega) ((PR8 rwa_536 d3).trans c2) d2
      have o5 := only_t o4 e4
      have hE5 := eM_e rwa_536 hE o5
      rw [show (16 : Int32) = nI 16 from rfl, e1, ly_cI]
      have hx16 : D (X (X (X (X x)))) % 16 < 16 := Nat.mod_lt _ (by omega)
      generalize D (X (X (X (X x)))) % 16 = x16 at hx16 q5 ⊢
      simp only at q5
      by_cases hxq : x16 < Q
      · rw [if_pos hxq] at q5
        rw [if_neg (nI_ge hxq (by omega)), lr_108_30 h, lc_108 h, show (3 : Int32) = nI 3 from rfl]
        obtain ⟨A6, f1, f2, f3⟩ := rn_M (w := w) (K := K) (k := 3) h hE5 rwa_536 e3 hrw (by omega)
        have o6 := only_t o5 (PR_e f3)
        have hE6 := eM_e rwa_536 hE o6
        rw [f1, ly_cI]
        by_cases hov : rd_s r2 11 < n
        · rw [if_pos hov] at q5
          rw [decide_eq_true hov, ib1, ly_bI, nI_1]
          exact hnx (A6, X (X (X (X x))), rdk n wd q 3 r2) ⟨f2, rdk_W hE6.1.1 hrw, o6, (PR8 rwa_536 f3).trans e2, q5⟩
        · rw [if_neg hov] at q5
          rw [rdk_ov hrw hov] at f2
          rw [decide_eq_false hov, ib0, lr_108_30 h, lc_108 h]
          obtain ⟨A7, g1, g2, g3⟩ := bg_M (w := w) (K := K) h hE6 rwa_536 f2 hrw
          rw [g1, ly_cI, ly_bI, nI_1]
          exact hnx (A7, X (X (X (X x))), (rbg n r2).2) ⟨g2, rbg_W hrw hn6, only_t o6 (PR_e g3), (PR8 rwa_536 g3).trans ((PR8 rwa_536 f3).trans e2), q5⟩
      · rw [if_neg hxq] at q5
        rw [if_pos (nI_le (by omega) (by omega)), ly_bI, nI_1]
        exact hnx (A5, X (X (X (X x))), r2) ⟨e3, hrw, o5, e2, q5⟩
    · intro again y hQQ
      obtain ⟨A, x, r1⟩ := y
      obtain ⟨q1, q2, q3, q4, q5⟩ := hQQ
      simp only at q1 q2 q3 q4 q5
      rw [Nat.sub_self] at q5
      simp only [hdk] at q5
      unfold X9_handBy_L19 X9_handBy_j130
      simp only
      rw [if_pos (nI_le (Nat.le_refl _) (by omega))]
      exact ⟨A, rfl, by rw [← q5]; exact q1, q3⟩
end HNE
