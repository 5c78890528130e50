/-! what a step makes of a row: strokes, runs .. -/
section ROW
variable {c w : Nat} {S : Nat → pmS} {I I1 I2 J : Nat → Nat → Int32} {K K1 : Nat → Nat → Int64} {n : Nat} {wd : Nat → Nat} {q : Nat → Nat → Nat} {r : Nat → Int32} {a : Nat} {se : Nat → Nat} {W G d : Nat} {lw : (Nat → Int32) → Int32}
/-- what a desk of the class, a row of the model may change -/
def PD (d i j : Nat) : Prop := i = 77 ∨ i = 78 ∨ (i = d ∧ 4 ≤ j ∧ j ≤ 7) ∨ i = d + 1 ∨ i = d + 2
def PR (a i _j : Nat) : Prop := i = a ∨ i = 450 ∨ i = 451
theorem dfr_o (h : dfr d I I1) : only (PD d) I I1 := fun i j hn => h i j (fun e => hn (by unfold PD; omega)) (fun e => hn (by unfold PD; omega)) (fun e => hn (by unfold PD; omega))
theorem but_o (h : but a I I1) : only (PR a) I I1 := fun i j hn => h i j (fun e => hn (by unfold PR; omega))
/-- what the class's desk needs: page, law -/
def eC (I : Nat → Nat → Int32) (n : Nat) (wd : Nat → Nat) (q : Nat → Nat → Nat) (lw : (Nat → Int32) → Int32) : Prop := pg_C I n wd q ∧ jl I ∧ ∀ kn, lwp I kn = lw kn
def eM (I : Nat → Nat → Int32) (n : Nat) (wd : Nat → Nat) (q : Nat → Nat → Nat) (lw : (Nat → Int32) → Int32) : Prop := pg_M I n wd q ∧ jl I ∧ ∀ kn, lwp I kn = lw kn
theorem eC_o (hd : dk d) (h : eC I n wd q lw) (ho : only (PD d) I I1) : eC I1 n wd q lw := by
  have := dk_lt hd
  obtain ⟨h1, h2, h3⟩ := h
  refine ⟨pg_C_c h1 (fun i j e => ho i j (by unfold dPC at e; unfold PD; omega)), jl_c h2 (fun i j e => ho i j (by unfold dL at e; unfold PD; omega)), fun kn => ?_⟩
  rw [lwp_c (by have := jl_m h2; omega) (fun i j e => ho i j (by unfold dL at e; unfold PD; omega))]
  exact h3 kn
theorem eM_o (ha : rwa a) (h : eM I n wd q lw) (ho : only (PR a) I I1) : eM I1 n wd q lw := by
  have := rwa_lt ha
  obtain ⟨h1, h2, h3⟩ := h
  refine ⟨pg_M_c h1 (fun i j e => ho i j (by unfold dPM at e; unfold PR; omega)), jl_c h2 (fun i j e => ho i j (by unfold dL at e; unfold PR; omega)), fun kn => ?_⟩
  rw [lwp_c (by have := jl_m h2; omega) (fun i j e => ho i j (by unfold dL at e; unfold PR; omega))]
  exact h3 kn
theorem dk_C_o (hd : dk d) (h : dk_C I d r) (ho : only P78 I I1) : dk_C I1 d r := by
  have hd2 := dk_lt hd
  obtain ⟨h1, h2, h3, h4, h5, h6⟩ := h
  have e : ∀ i j, i ≠ 77 → i ≠ 78 → I1 i j = I i j := fun i j e1 e2 => ho i j (by unfold P78; omega)
  exact ⟨fun l hl => by rw [e _ _ (by omega) (by omega)]; exact h1 l hl, fun k hk => by rw [e _ _ (by omega) (by omega)]; exact h2 k hk, by rw [e _ _ (by omega) (by omega)]; exact h3, by rw [e _ _ (by omega) (by omega)]; exact h4, by rw [e _ _ (by omega) (by omega)]; exact h5, by rw [e _ _ (by omega) (by omega)]; exact h6⟩
theorem dk_M_o (ha : rwa a) (h : dk_M I a r) (ho : only P45 I I1) : dk_M I1 a r := fun k hk => by
  have := rwa_lt ha
  rw [ho a k (by unfold P45; omega)]; exact h k hk
/-- a stroke -/
def rsk (n : Nat) (wd : Nat → Nat) (lw : (Nat → Int32) → Int32) (r : Nat → Int32) (l i j : Nat) : Bool × (Nat → Int32) :=
  if i ≤ j ∧ j < wd l ∧ clp (lw (knr n wd r l i j)) ≤ rd_s r 10 then (true, rup (rup (rup r l (nI (rd_s r l ^^^ bsp i j))) 10 (nI (rd_s r 10 - clp (lw (knr n wd r l i j))))) 12 (r 12 + 1)) else (false, r)
theorem xor_b {l i j : Nat} (hW : pg_W n wd q) (hr : dk_W n wd r) (hl : l < n) (hj : j < wd l) (hij : i ≤ j) : rd_s r l ^^^ bsp i j < 2 ^ wd l := by
  have hw8 := pg_wd hW l
  have hn6 := hW.1
  refine Nat.xor_lt_two_pow (hr.1 l (by omega)).2 ?_
  have := (bsp_f i (by omega) j (by omega) hij).2.2.2
  exact Nat.lt_of_lt_of_le this (Nat.pow_le_pow_right (by omega) (by omega))
theorem rsk_W {l i j : Nat} (hW : pg_W n wd q) (hr : dk_W n wd r) (hl : l < n) : dk_W n wd (rsk n wd lw r l i j).2 := by
  have hn6 := hW.1
  unfold rsk
  split
  · rename_i hh
    have hi2 := hr.2.2.1.2
    exact dk_Wx (dk_Wi (dk_Ws hW hr (by omega) (xor_b hW hr hl hh.2.1 hh.1)) (by omega)) (by omega)
  · exact hr
theorem sk_C {l i j : Nat} (h : ly c S) (hE : eC I n wd q lw) (hd : dk d) (hC : dk_C I d r) (hr : dk_W n wd r) (hl : l < n) (hi : i < 2 ^ 31) (hj : j < 2 ^ 31) : ∃ I1, X0_strike d (nI l) (nI i) (nI j) (c, w, S, I, K) = pm_oI (ly_b (rsk n wd lw r l i j).1) (c, w, S, I1, K) ∧ dk_C I1 d (rsk n wd lw r l i j).2 ∧ only (PD d) I I1 := by
  obtain ⟨hP, hL, hlw⟩ := id hE
  have hn6 := hP.1.1
  have hw8 := pg_wd hP.1 l
  have hd2 := dk_lt hd
  unfold X0_strike X0_strike_j21 rsk
  by_cases h1 : i ≤ j
  · rw [if_neg (nI_pos hi), if_neg (nI_nlt h1 hj), lk_0 h hd, lc_67 h]
    by_cases h2 : j < wd l
    · rw [rd_hasWord h hP (by omega) hj, ly_cI, decide_eq_true ⟨hl, h2⟩, ib1, lk_c h hd]
      obtain ⟨A, g1, g2⟩ := po_C (w := w) (K := K) h hP hd hC hr hL hl (show j < 8 by omega) h1
      have hCA := dk_C_o hd hC g2
      have e5 : A d 5 = nI (rd_s r 10) := hCA.2.2.1.trans hr.2.2.1.1
      have e2 := dk_s hCA hr (show l < 6 by omega)
      have hi2 := hr.2.2.1.2
      have hoA : only (PD d) I A := only_m g2 (fun i j e => by unfold P78 at e; unfold PD; omega)
      have hcl : clp (lw (knr n wd r l i j)) ≤ 60 := by unfold clp; omega
      rw [g1, ly_cI, hlw, lk_g h hd, e5]
      by_cases h3 : clp (lw (knr n wd r l i j)) ≤ rd_s r 10
      · rw [if_pos (nI_le h3 (by omega)), lk_2 h hd, lk_l1 h hd (by omega), e2, bs_C (by omega) h1, ly_cI, nI_xor, lk_s1 h hd (by omega), lk_g h hd, if_pos ⟨h1, h2, h3⟩]
        have c1 := (dk_C_u hCA (k := l) (v := nI (rd_s r l ^^^ bsp i j))).2.2.2.2.1 (by omega)
        have e5b : ly_u A (d + 1) l (nI (rd_s r l ^^^ bsp i j)) d 5 = nI (rd_s r 10) := by rw [ly_uE, if_neg (by omega)]; exact e5
        rw [e5b, pk_sub h3, lk_p h hd, lk_g h hd]
        have c2 := (dk_C_u c1 (k := 0) (v := nI (rd_s r 10 - clp (lw (knr n wd r l i j))))).2.1
        have e6 : ly_u (ly_u A (d + 1) l (nI (rd_s r l ^^^ bsp i j))) d 5 (nI (rd_s r 10 - clp (lw (knr n wd r l i j)))) d 6 = r 12 := by
          rw [ly_uE, if_neg (by omega), ly_uE, if_neg (by omega)]; exact hCA.2.2.2.2.1
        rw [e6, lk_p h hd]
        have c3 := (dk_C_u c2 (k := 0) (v := r 12 + 1)).2.2.1
        exact ⟨_, rfl, c3, only_u (only_u (only_u hoA (by unfold PD; omega)) (by unfold PD; omega)) (by unfold PD; omega)⟩
      · rw [if_neg (nI_ge (by omega) (by omega)), if_neg (fun e => h3 e.2.2)]
        exact ⟨A, rfl, hCA, hoA⟩
    · rw [rd_hasWord h hP (by omega) hj, ly_cI, decide_eq_false (fun e => h2 e.2), ib0, if_neg (fun e => h2 e.2.1)]
      exact ⟨I, rfl, hC, only_r⟩
  · rw [if_neg (nI_pos hi), if_pos (nI_lt (by omega) hi), if_neg (fun e => h1 e.1)]
    exact ⟨I, rfl, hC, only_r⟩
theorem sk_M {l i j : Nat} (h : ly c S) (hE : eM I n wd q lw) (ha : rwa a) (hC : dk_M I a r) (hr : dk_W n wd r) (hl : l < n) (hi : i < 2 ^ 31) (hj : j < 2 ^ 31) : ∃ I1, X9_strikes 108 a (nI l) (nI i) (nI j) (c, w, S, I, K) = pm_oI (ly_b (rsk n wd lw r l i j).1) (c, w, S, I1, K) ∧ dk_M I1 a (rsk n wd lw r l i j).2 ∧ only (PR a) I I1 := by
  obtain ⟨hP, hL, hlw⟩ := id hE
  have hn6 := hP.1.1
  have hw8 := pg_wd hP.1 l
  have ha2 := rwa_lt ha
  unfold X9_strikes X9_strikes_j17 rsk
  by_cases h1 : i ≤ j
  · rw [if_neg (nI_nlt h1 hj), lr_108_16 h, ld_113 h (by omega), hP.2.2.1 l (by omega)]
    by_cases h2 : j < wd l
    · rw [if_pos (nI_lt h2 (by omega)), lc_108 h]
      obtain ⟨A, g1, g2⟩ := po_M (w := w) (K := K) h hP ha hC hr hL hl (show j < 8 by omega) h1
      have hCA := dk_M_o ha hC g2
      have e5 : A a 10 = nI (rd_s r 10) := (hCA 10 (by omega)).trans hr.2.2.1.1
      have e2 := dm_s hCA hr (show l < 6 by omega)
      have hi2 := hr.2.2.1.2
      have hoA : only (PR a) I A := only_m g2 (fun i j e => by unfold P45 at e; unfold PR; omega)
      have hcl : clp (lw (knr n wd r l i j)) ≤ 60 := by unfold clp; omega
      rw [g1, ly_cI, hlw, ld_i (i := 10) 10 rfl, lw_l h ha (by omega), e5]
      by_cases h3 : clp (lw (knr n wd r l i j)) ≤ rd_s r 10
      · have e5b : ly_u A a l (nI (rd_s r l ^^^ bsp i j)) a 10 = nI (rd_s r 10) := by rw [ly_uE, if_neg (by omega)]; exact e5
        have e6 : ly_u (ly_u A a l (nI (rd_s r l ^^^ bsp i j))) a 10 (nI (rd_s r 10 - clp (lw (knr n wd r l i j)))) a 12 = r 12 := by
          rw [ly_uE, if_neg (by omega), ly_uE, if_neg (by omega)]; exact hCA 12 (by omega)
        rw [if_pos (nI_le h3 (by omega)), ly_bI, show (0 : Int32) + nI l = nI l from Int32.zero_add _, lw_l h ha (by omega), e2, bs_M (by omega) h1, ly_cI, nI_xor, lw_s h ha (by omega), ld_i (i := 10) 10 rfl, lw_l h ha (by omega), e5b, pk_sub h3, st_i (i := 10) 10 rfl, lw_s h ha (by omega), ld_i (i := 12) 12 rfl, lw_l h ha (by omega), e6, st_i (i := 12) 12 rfl, lw_s h ha (by omega), if_pos ⟨h1, h2, h3⟩]
        exact ⟨_, rfl, dm_u (dm_u (dm_u hCA)), only_u (only_u (only_u hoA (by unfold PR; omega)) (by unfold PR; omega)) (by unfold PR; omega)⟩
      · rw [if_neg (nI_ge (by omega) (by omega)), if_neg (fun e => h3 e.2.2)]
        exact ⟨A, rfl, hCA, hoA⟩
    · rw [if_neg (nI_nlt (by omega) hj), if_neg (fun e => h2 e.2.1)]
      exact ⟨I, rfl, hC, only_r⟩
  · rw [if_pos (nI_lt (by omega) hi), if_neg (fun e => h1 e.1)]
    exact ⟨I, rfl, hC, only_r⟩
/-- up to so many deeds -/
def rdk (n : Nat) (wd : Nat → Nat) (q : Nat → Nat → Nat) : Nat → (Nat → Int32) → (Nat → Int32)
  | 0, r => r
  | k + 1, r => if (dd n wd q r).1 then rdk n wd q k (dd n wd q r).2 else (dd n wd q r).2
theorem rdk_W (hW : pg_W n wd q) : ∀ {k : Nat} {r : Nat → Int32}, dk_W n wd r → dk_W n wd (rdk n wd q k r)
  | 0, _, h => h
  | k + 1, r, h => by
    simp only [rdk]
    split
    · exact rdk_W hW (dd_W hW h)
    · exact dd_W hW h
theorem dk_at (hr : dk_W n wd r) : r 11 = nI (rd_s r 11) ∧ rd_s r 11 ≤ n := hr.2.2.2
theorem dd_ov (hr : dk_W n wd r) (h : ¬ rd_s r 11 < n) : dd n wd q r = (false, r) := by
  have := (dk_at hr).2
  have e : rd_s r 11 = n := by omega
  unfold dd
  rw [e, Nat.sub_self]
  simp only [dd_ln]
  have : rup r 11 (nI n) = r := by
    funext k
    simp only [rup]
    by_cases hk : k = 11
    · subst hk; rw [if_pos rfl, (dk_at hr).1, e]
    · rw [if_neg hk]
  rw [this]
theorem rdk_ov (hr : dk_W n wd r) (h : ¬ rd_s r 11 < n) (k : Nat) : rdk n wd q k r = r := by
  cases k with
  | zero => rfl
  | succ k => simp only [rdk]; rw [dd_ov hr h]; rfl
theorem dd_f (hn6 : n ≤ 6) (h : (dd n wd q r).1 = false) : ¬ rd_s (dd n wd q r).2 11 < n := by
  unfold dd at h ⊢
  cases e : dd_ln wd (rd_s r) (n - rd_s r 11) (rd_s r 11) with
  | none =>
    simp only
    rw [rd_sn (by omega), if_pos rfl]
    omega
  | some l => rw [e] at h; cases h
theorem rdk_s (hW : pg_W n wd q) (hr : dk_W n wd r) (k : Nat) : rdk n wd q (k + 1) r = rdk n wd q k (dd n wd q r).2 := by
  simp only [rdk]
  split
  · rfl
  · rename_i h
    rw [rdk_ov (dd_W hW hr) (dd_f hW.1 (by simpa using h))]
theorem ds_C {k : Nat} (h : ly c S) (hE : eC I n wd q lw) (hd : dk d) (hC : dk_C I d r) (hr : dk_W n wd r) (hk : k < 2 ^ 16) : ∃ I1, pm_lp pm_N (X0_runOn_L18 d (nI k)) (0, (c, w, S, I, K)) = pm_oI 1 (c, w, S, I1, K) ∧ dk_C I1 d (rdk n wd q k r) ∧ only (PD d) I I1 := by
  refine ly_loop (fun i (x : (Nat → Nat → Int32) × (Nat → Int32)) => ((nI i, (c, w, S, x.1, K)) : Int32 × pmM)) k (fun i x => dk_C x.1 d x.2 ∧ dk_W n wd x.2 ∧ only (PD d) I x.1 ∧ rdk n wd q (k - i) x.2 = rdk n wd q k r) (fun R => ∃ I1, R = pm_oI 1 (c, w, S, I1, K) ∧ dk_C I1 d (rdk n wd q k r) ∧ only (PD d) I I1) ?_ ?_ pm_N 0 (I, r) ⟨hC, hr, only_r, rfl⟩ (by omega) (by rw [pm_NE]; omega)
  · intro again i x hi hQ hn
    obtain ⟨A, r1⟩ := x
    obtain ⟨q1, q2, q3, q4⟩ := hQ
    simp only at q1 q2 q3 q4
    have hEA := eC_o hd hE q3
    have hn6 := hEA.1.1.1
    have eat := dk_at q2
    obtain ⟨B, g1, g2, g3⟩ := dd_C (w := w) (K := K) h hEA.1 hd q1 q2
    unfold X0_runOn_L18 X0_runOn_j48
    simp only
    rw [if_neg (nI_ge hi (by omega)), lk_g h hd, q1.2.2.2.1, eat.1, lk_0 h hd, lg_67 h, hEA.1.2.1]
    by_cases hov : rd_s r1 11 < n
    · rw [if_neg (nI_ge hov (by omega)), lk_c h hd, g1, ly_cI, ly_bI, nI_1]
      refine hn (B, (dd n wd q r1).2) ⟨g2, dd_W hEA.1.1 q2, only_t q3 (dfr_o g3), ?_⟩
      rw [← rdk_s hEA.1.1 q2, show k - (i + 1) + 1 = k - i by omega]
      exact q4
    · rw [if_pos (nI_le (by omega) (by omega))]
      exact ⟨A, rfl, by rw [← q4, rdk_ov q2 hov]; exact q1, q3⟩
  · intro again x hQ
    obtain ⟨A, r1⟩ := x
    obtain ⟨q1, q2, q3, q4⟩ := hQ
    simp only at q1 q2 q3 q4
    rw [Nat.sub_self] at q4
    unfold X0_runOn_L18 X0_runOn_j48
    simp only
    rw [if_pos (nI_le (Nat.le_refl _) (by omega))]
    exact ⟨A, rfl, by rw [← q4]; exact q1, q3⟩
/-- the model's loop of deeds -/
theorem ds_M {k : Nat} {body : ((Int32 × pmM) → pmR) → (Int32 × pmM) → pmR} (fin : pmM → pmR) (Rp : pmR → Prop) (h : ly c S) (hE : eM I n wd q lw) (ha : rwa a) (hC : dk_M I a r) (hr : dk_W n wd r) (hk : k < 2 ^ 16)
    (hb : ∀ again i A, body again (i, (c, w, S, A, K)) = if nI k ≤ i then fin (c, w, S, A, K) else (pm_ld 100 a 11 (c, w, S, A, K) fun x3 => pm_gI 9 108 13 (c, w, S, A, K) fun x4 => if x4 ≤ x3 then fin (c, w, S, A, K) else (pm_rc 9 108 (c, w, S, A, K) <| pm_cI (X9_deed 108 a (c, w, S, A, K)) fun x6 m5 => pm_bI (i + 1) fun x7 => again (x7, m5))))
    (hf : ∀ I1, dk_M I1 a (rdk n wd q k r) → only (PR a) I I1 → Rp (fin (c, w, S, I1, K))) : Rp (pm_lp pm_N body (nI 0, (c, w, S, I, K))) := by
  refine ly_loop (fun i (x : (Nat → Nat → Int32) × (Nat → Int32)) => ((nI i, (c, w, S, x.1, K)) : Int32 × pmM)) k (fun i x => dk_M x.1 a x.2 ∧ dk_W n wd x.2 ∧ only (PR a) I x.1 ∧ rdk n wd q (k - i) x.2 = rdk n wd q k r) Rp ?_ ?_ pm_N 0 (I, r) ⟨hC, hr, only_r, rfl⟩ (by omega) (by rw [pm_NE]; omega)
  · intro again i x hi hQ hn
    obtain ⟨A, r1⟩ := x
    obtain ⟨q1, q2, q3, q4⟩ := hQ
    simp only at q1 q2 q3 q4
    have hEA := eM_o ha hE q3
    have hn6 := hEA.1.1.1
    obtain ⟨B, g1, g2, g3⟩ := dd_M (w := w) (K := K) h hEA.1 ha q1 q2
    have eat := dk_at q2
    rw [hb]
    simp only
    rw [if_neg (nI_ge hi (by omega)), ld_i (i := 11) 11 rfl, lw_l h ha (by omega), q1 11 (by omega), eat.1, lg_108 h, hEA.1.2.1]
    by_cases hov : rd_s r1 11 < n
    · rw [if_neg (nI_ge hov (by omega)), lc_108 h, g1, ly_cI, ly_bI, nI_1]
      refine hn (B, (dd n wd q r1).2) ⟨g2, dd_W hEA.1.1 q2, only_t q3 (but_o g3), ?_⟩
      rw [← rdk_s hEA.1.1 q2, show k - (i + 1) + 1 = k - i by omega]
      exact q4
    · rw [if_pos (nI_le (by omega) (by omega))]
      refine hf A ?_ q3
      rw [← q4, rdk_ov q2 hov]
      exact q1
  · intro again x hQ
    obtain ⟨A, r1⟩ := x
    obtain ⟨q1, q2, q3, q4⟩ := hQ
    simp only at q1 q2 q3 q4
    rw [Nat.sub_self] at q4
    rw [hb]
    simp only
    rw [if_pos (nI_le (Nat.le_refl _) (by omega))]
    exact hf A (by rw [← q4]; exact q1) q3
end ROW
