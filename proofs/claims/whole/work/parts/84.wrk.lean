/-! a work read by the one and by the other: loops, rows of steps -/
section WKL
variable {c w : Nat} {S : Nat → pmS} {I I1 I2 J J1 A B E I0 J0 : Nat → Nat → Int32} {K K2 : Nat → Nat → Int64} {T : Nat → Nat} {L p g n N m o d : Nat} {s v x : Int32} {rsC : Nat → Nat → Int32 → pmM → pmR} {rsM : Nat → pmM → pmR} {P2 Q2 : Nat → Nat → Prop} {G2 : (Nat → Nat → Int32) → (Nat → Nat → Int32) → Nat → Prop} {FC FM : pmM → pmR} {FCl : Int32 → pmM → pmR}
def STh (c w : Nat) (S : Nat → pmS) (K K2 : Nat → Nat → Int64) (T : Nat → Nat) (L n : Nat) (x : Int32) (rsC : Nat → Nat → Int32 → pmM → pmR) (rsM : Nat → pmM → pmR) (o : Nat) : Prop :=
  ∀ (I J : Nat → Nat → Int32) (p m : Nat) (s v : Int32) (P2 Q2 : Nat → Nat → Prop) (G2 : (Nat → Nat → Int32) → (Nat → Nat → Int32) → Nat → Prop) (I0 J0 : Nat → Nat → Int32) (FC FM : pmM → pmR) (FCl : Int32 → pmM → pmR), WS T L n m o I J p → tS T L p = p → hOK c w S K K2 L n m o p I J I0 J0 x P2 Q2 G2 FC FM FCl → hNO c w S K K2 m I J I0 J0 x P2 Q2 G2 FM FCl →
    rO c w S K K2 P2 Q2 I0 J0 x G2 (pm_cI (pm_cI (X6_readStep rsC 87 65 (nI o) (c, w, S, tx I p s v, K)) (fE FC)) FCl) (pm_cV (X9_readsStep rsM 108 (c, w, S, mx J p 0 x, K2)) FM)
/-- where a row of steps is at its end -/
def xt (T : Nat → Nat) (L o p : Nat) : Prop := (o = 0 ∧ p = L) ∨ (o ≠ 0 ∧ tb T L p = nI 93)
def LIh (c w : Nat) (S : Nat → pmS) (K K2 : Nat → Nat → Int64) (T : Nat → Nat) (L n : Nat) (x : Int32) (rsC : Nat → Nat → Int32 → pmM → pmR) (rsM : Nat → pmM → pmR) (o : Nat) : Prop :=
  ∀ (I J : Nat → Nat → Int32) (p m : Nat) (s v : Int32) (P2 Q2 : Nat → Nat → Prop) (G2 : (Nat → Nat → Int32) → (Nat → Nat → Int32) → Nat → Prop) (I0 J0 : Nat → Nat → Int32) (bM : (pmM → pmR) → pmM → pmR) (EXIT FM : pmM → pmR) (FCl : Int32 → pmM → pmR), WS T L n m o I J p →
    (∀ ag J1 p1, mB J1 T L → p1 ≤ L → xt T L o p1 → bM ag (c, w, S, mx J1 p1 0 x, K2) = EXIT (c, w, S, mx J1 p1 0 x, K2)) →
    (∀ ag J1 p1, mB J1 T L → p1 ≤ L → ¬ xt T L o p1 → bM ag (c, w, S, mx J1 p1 0 x, K2) = (pm_rc 9 108 (c, w, S, mx J1 p1 0 x, K2) <| pm_cV (rsM 108 (c, w, S, mx J1 p1 0 x, K2)) fun m29 => pm_rc 9 108 m29 <| pm_cV (X9_blanks 108 m29) fun m30 => ag m30)) →
    (∀ ag J1 p1 k y, 1 ≤ k ∧ k ≤ 3 → bM ag (c, w, S, mx J1 p1 k y, K2) = EXIT (c, w, S, mx J1 p1 k y, K2)) →
    (∀ I1 J1 p1 s v, only (PW m) I I1 → only (QW m) J J1 → GW L n m o p I1 J1 p1 → xt T L o p1 → tS T L p1 = p1 → rO c w S K K2 P2 Q2 I0 J0 x G2 (FCl 1 (c, w, S, tx I1 p1 s v, K)) (pm_cV (EXIT (c, w, S, mx J1 p1 0 x, K2)) FM)) →
    (o ≠ 0 → ∀ I1 J1 s v, only (PW m) I I1 → only (QW m) J J1 → GW L n m o p I1 J1 L → rO c w S K K2 P2 Q2 I0 J0 x G2 (FCl 1 (c, w, S, tx I1 L s v, K)) (pm_cV (EXIT (c, w, S, mx J1 L 1 (nI L), K2)) FM)) →
    (∀ I1 J1 p1 p2 s v k q, only (PW m) I I1 → only (QW m) J J1 → 1 ≤ k ∧ k ≤ 3 ∧ q ≤ 600 ∧ p2 ≤ 600 → rO c w S K K2 P2 Q2 I0 J0 x G2 (FCl 0 (c, w, S, tx (tf I1 k q) p1 s v, K)) (pm_cV (EXIT (c, w, S, mx J1 p2 k (nI q), K2)) FM)) →
    rO c w S K K2 P2 Q2 I0 J0 x G2 (pm_cI (rsC 87 65 (nI o) (c, w, S, tx I p s v, K)) FCl) (pm_cV (pm_lp pm_N bM (c, w, S, mx J (tS T L p) 0 x, K2)) FM)
theorem bl_F {y : Int32} (h : ly c S) (hM : mB J T L) (hp : p ≤ 600) : ∃ p', X9_blanks 108 (c, w, S, mx J p g y, K2) = pm_oV (c, w, S, mx J p' g y, K2) ∧ p' ≤ 600 := by
  have hL := hM.2.1
  rcases Nat.lt_or_ge L p with a | a
  · refine ⟨p, ?_, hp⟩
    unfold X9_blanks
    show pm_lp (99999 + 1) _ _ = _
    rw [ly_S]
    generalize pm_lp 99999 (X9_blanks_L0 108) = ag
    unfold X9_blanks_L0
    rw [lg_108 h, mx4, lc_108 h, mx_byteAt h hM (by omega), ly_cI, tb_ge (by omega), nl_32, if_neg (fun e9 => by have := (ng_peq (by omega) (by omega)).mp e9; omega)]
  · exact ⟨tS T L p, mx_blanks h hM a, by have : tS T L p ≤ L := tE_lL a; omega⟩
theorem j209_F {y : Int32} (h : ly c S) (hm : m < 80) (hg : 1 ≤ g ∧ g ≤ 3) : ∃ J', X9_readsStep_j209 rsM 108 (455 + m) (c, w, S, mx J p g y, K2) = pm_oV (c, w, S, mx J' p g y, K2) ∧ only (QW m) J J' := by
  unfold X9_readsStep_j209
  rw [lc_108 h, mx_signF h (by omega), ly_cV, lg_108 h, lp_108 h, mx_unj (by omega), j225_F h hm hg]
  exact ⟨_, rfl, only_u (only_u only_r (by unfold QW; omega)) (by unfold QW; omega)⟩
theorem tl_F {y : Int32} (h : ly c S) (hM : mB J T L) (hp : p ≤ 600) (hm : m < 80) (hg : 1 ≤ g ∧ g ≤ 3) : ∃ J' p', (pm_rc 9 108 (c, w, S, mx J p g y, K2) <| pm_cV (X9_blanks 108 (c, w, S, mx J p g y, K2)) fun m21 => pm_lp pm_N (X9_readsStep_L178 rsM 108 (455 + m)) m21) = pm_oV (c, w, S, mx J' p' g y, K2) ∧ only (QW m) J J' ∧ p' ≤ 600 := by
  obtain ⟨p', h1, h2⟩ := bl_F (w := w) (K2 := K2) (g := g) (y := y) h hM hp
  obtain ⟨J', h3, h4⟩ := j209_F (w := w) (K2 := K2) (J := J) (p := p') (y := y) (rsM := rsM) h hm hg
  refine ⟨J', p', ?_, h4, h2⟩
  rw [lc_108 h, h1, ly_cV]
  show pm_lp (99999 + 1) _ _ = _
  rw [ly_S]
  generalize pm_lp 99999 (X9_readsStep_L178 rsM 108 (455 + m)) = ag
  unfold X9_readsStep_L178
  rw [lg_108 h, mx5, nk0 hg, h3]
/-- again -/
theorem st_6 {e : Nat} (h : ly c S) (hLI : LIh c w S K K2 T L n x rsC rsM (o + 1)) (hw : WS T L n m o I J p) (hL : L ≤ 150) (ho : o < 6) (hm : m < 30) (he : e ≤ L) (hpe : p + 5 ≤ e) (hok : hOK c w S K K2 L n m o p I J I0 J0 x P2 Q2 G2 FC FM FCl) (hno : hNO c w S K K2 m I J I0 J0 x P2 Q2 G2 FM FCl) : rO c w S K K2 P2 Q2 I0 J0 x G2 (pm_cI (pm_cI (pm_rc 6 87 (c, w, S, tx (hdC I m 6) e s v, K) <| pm_cI (X6_readAgain rsC 87 65 (nI m) (nI o) (c, w, S, tx (hdC I m 6) e s v, K)) fun x27 m26 => pm_oI (vp_nar .boolean x27) m26) (fE FC)) FCl) (pm_cV (X9_readsStep_j107 rsM 108 (nI 6) (455 + m) (c, w, S, mx (hdM (ly_u J 108 8 (nI (o + 1))) m 6) e 0 x, K2)) FM) := by
  have oJ8 : only (QW m) J (ly_u J 108 8 (nI (o + 1))) := only_u only_r (by unfold QW; omega)
  have h5p := hw.2.2.2.2.2.2.1
  have hw8 : WS T L n m (o + 1) I (ly_u J 108 8 (nI (o + 1))) p := WS_on hw only_r oJ8 hw.2.2.2.1 hw.2.2.2.2.1 (by rw [ly_uE, if_neg (by omega)]; exact hw.2.2.2.2.2.1) h5p (by rw [ly_uE, if_pos ⟨rfl, rfl⟩])
  obtain ⟨e5, e88, e92, e28, e8, e0, e13, e6⟩ := hd_e (kd := 6) hw8
  have oI := hdC_o (kd := 6) (only_r (P := PW m) (I := I))
  have oJ := hdM_o (kd := 6) (show m < 80 by omega) oJ8
  have e8' := e8.trans hw8.2.2.2.2.2.2.2.1
  generalize hHM : hdM (ly_u J 108 8 (nI (o + 1))) m 6 = HM at e28 e8 e0 e13 oJ e8'
  unfold X6_readAgain X6_readAgain_j32 X9_readsStep_j107 X9_readsStep_j127 X9_readsStep_j152
  rw [if_neg (show ¬ nI 6 = 1 by decide), if_neg (show ¬ nI 6 = 3 by decide), if_neg (show ¬ nI 6 = 5 by decide), if_pos (show nI 6 = 6 from rfl), lc_87 h, lc_87 h, ly_cc, ly_cc, ly_cc, lc_108 h]
  refine rf_R (Bd := fun z => z ≤ 60) h (PW_T hw.1 oI) (QW_T hw.2.1 oJ) he hm (fun z hz hh => le_lit hz (by omega) hh) (fun z p1 s v h0 hz h1 h2 => ?_) (fun k q pp p1 s v hk => ?_)
  · have oI2 : only (PW m) I (ly_u (hdC I m 6) 89 m (nI z)) := only_u oI (by unfold PW; omega)
    have oJ2 : only (QW m) J (ly_u HM (455 + m) 1 (nI z)) := only_u oJ (by unfold QW; omega)
    have f5 : ly_u (hdC I m 6) 89 m (nI z) 87 5 = nI (m + 1) := by rw [ly_uE, if_neg (by omega)]; exact e5
    have f88 : ly_u (hdC I m 6) 89 m (nI z) 88 m = nI 6 := by rw [ly_uE, if_neg (by omega)]; exact e88
    have f89 : ly_u (hdC I m 6) 89 m (nI z) 89 m = nI z := by rw [ly_uE, if_pos ⟨rfl, rfl⟩]
    have g28 : ly_u HM (455 + m) 1 (nI z) 108 28 = nI (m + 1) := by rw [ly_uE, if_neg (by omega)]; exact e28
    have g8 : ly_u HM (455 + m) 1 (nI z) 108 8 = nI (o + 1) := by rw [ly_uE, if_neg (by omega)]; exact e8'
    have g0 : ly_u HM (455 + m) 1 (nI z) (455 + m) 0 = nI 6 := by rw [ly_uE, if_neg (by omega)]; exact e0
    have g1 : ly_u HM (455 + m) 1 (nI z) (455 + m) 1 = nI z := by rw [ly_uE, if_pos ⟨rfl, rfl⟩]
    generalize ly_u (hdC I m 6) 89 m (nI z) = Ia at oI2 f5 f88 f89
    generalize ly_u HM (455 + m) 1 (nI z) = Ja at oJ2 g28 g8 g0 g1
    rw [i10, lc_65 h, ly_cc, lc_108 h, ly_cvv, show (91 : Int32) = nI 91 from rfl]
    refine rO_sign h (PW_T hw.1 oI2) (QW_T hw.2.1 oJ2) h2 h2 rfl (by omega) (fun hb h3 h4 => ?_) (fun q pp hk => ?_)
    · have hp2 : tS T L p1 + 1 ≤ L := by omega
      rw [i10, lc_87 h, ly_cc, nI_1, lc_108 h, mx_blanks h (QW_T hw.2.1 oJ2) hp2, ly_cV]
      have hwa : WS T L n (m + 1) (o + 1) Ia Ja (tS T L p1 + 1) := WS_on hw oI2 oJ2 hp2 f5 g28 (by omega) g8
      have PWm : ∀ {A B : Nat → Nat → Int32}, only (PW (m + 1)) A B → only (PW m) A B := fun ho => only_m ho (fun i j e => by unfold PW at e ⊢; omega)
      have QWm : ∀ {A B : Nat → Nat → Int32}, only (QW (m + 1)) A B → only (QW m) A B := fun ho => only_m ho (fun i j e => by unfold QW at e ⊢; omega)
      refine hLI Ia Ja (tS T L p1 + 1) (m + 1) s v P2 Q2 G2 I0 J0 (X9_readsStep_L178 rsM 108 (455 + m)) (X9_readsStep_j209 rsM 108 (455 + m)) FM _ hwa (fun ag J1 p1 hM hp hx => ?_) (fun ag J1 p1 hM hp hx => ?_) (fun ag J1 p1 k y hk => ?_) (fun I3 J3 p3 s v o3 o4 hG hx hs3 => ?_) (fun _ I3 J3 s v o3 o4 hG => ?_) (fun I3 J3 p3 p4 s v k q o3 o4 hk => ?_)
      · have hb : tb T L p1 = nI 93 := by
          rcases hx with ⟨a, -⟩ | ⟨-, a⟩
          · omega
          · exact a
        unfold X9_readsStep_L178
        rw [lg_108 h, mx5, n00, lg_108 h, mx4, lc_108 h, mx_byteAt h hM (by omega), ly_cI, if_pos (show tb T L p1 = 93 from hb)]
      · unfold X9_readsStep_L178
        rw [lg_108 h, mx5, n00, lg_108 h, mx4, lc_108 h, mx_byteAt h hM (by omega), ly_cI, if_neg (show ¬ tb T L p1 = 93 from fun e => hx (Or.inr ⟨by omega, e⟩))]
      · unfold X9_readsStep_L178
        rw [lg_108 h, mx5, nk0 hk]
      · obtain ⟨q1, q2, q3, m1, q4, q5, q6, q7, q8, q9⟩ := hG
        have hb : tb T L p3 = nI 93 := by
          rcases hx with ⟨a, -⟩ | ⟨-, a⟩
          · omega
          · exact a
        have oI3 : only (PW m) I (ly_u I3 92 m (nI m1)) := only_u (only_t oI2 (PWm o3)) (by unfold PW; omega)
        have oJ3 : only (QW m) J J3 := only_t oJ2 (QWm o4)
        unfold X9_readsStep_j209
        rw [i10, lr_87_4 h, lg_87 h, tx_n (by omega), q6, ls_92 h hm, tx_un (by omega), lc_65 h, ly_cc, lc_108 h, ly_cvv, show (93 : Int32) = nI 93 from rfl]
        refine rO_sign h (PW_T hw.1 oI3) (QW_T hw.2.1 oJ3) q2 q2 rfl (by omega) (fun hb2 h5 h6 => ?_) (fun q pp hk => ?_)
        · have oJ4 : only (QW m) J (ly_u J3 108 8 (nI o)) := only_u oJ3 (by unfold QW; omega)
          rw [lg_108 h, mx_nj (by omega), q3, lp_108 h, mx_unj (by omega), show nI (o + 1) - (1 : Int32) = nI o from nI_pred o]
          show rO c w S K K2 P2 Q2 I0 J0 x G2 (pm_cI (fE FC 1 _) FCl) _
          refine sg_R h (PW_T hw.1 oI3) (QW_T hw.2.1 oJ4) (by omega) (by omega) (m2 := m1) (by rw [ly_uE, if_neg (by omega)]; exact q7) (fun h7 h8 => ?_) (fun q pp hk => ?_)
          · have eJ : ∀ k j, k ≠ m → ly_u (ly_u J3 108 8 (nI o)) (455 + m) 4 (nI m1) (455 + k) j = J3 (455 + k) j := fun k j hk => by rw [ly_uE, if_neg (by omega), ly_uE, if_neg (by omega)]
            have eJm : ∀ j, j ≠ 4 → ly_u (ly_u J3 108 8 (nI o)) (455 + m) 4 (nI m1) (455 + m) j = Ja (455 + m) j := fun j hj => by rw [ly_uE, if_neg (by omega), ly_uE, if_neg (by omega), o4 (455 + m) j (by unfold QW; omega)]
            have hn1 : nst (ly_u (ly_u J3 108 8 (nI o)) (455 + m) 4 (nI m1)) (6 - (o + 1)) (m + 1) m1 := by
              have aux : ∀ {e f t : Nat}, m < f → nst J3 e f t → nst (ly_u (ly_u J3 108 8 (nI o)) (455 + m) 4 (nI m1)) e f t := by
                intro e
                induction e with
                | zero => intro f t hf hh k h1 h2; rw [eJ k 0 (by omega)]; exact hh k h1 h2
                | succ e ih =>
                  intro f t hf hh k h1 h2 h3
                  rw [eJ k 0 (by omega)] at h3
                  obtain ⟨cl, a1, a2, a3⟩ := hh k h1 h2 h3
                  exact ⟨cl, by rw [eJ k 4 (by omega)]; exact a1, a2, ih (by omega) a3⟩
              exact aux (by omega) q9
            refine hok _ _ _ _ _ oI3 (only_u oJ4 (by unfold QW; omega)) ⟨by omega, by omega, by rw [ly_uE, if_neg (by omega), ly_uE, if_pos ⟨rfl, rfl⟩], m1, by omega, by omega, by rw [ly_uE, if_neg (by omega)]; exact q6, by rw [ly_uE, if_neg (by omega), ly_uE, if_neg (by omega)]; exact q7, fun k h9 h10 => ?_, ?_⟩
            · by_cases hkm : k = m
              · subst hkm
                refine ⟨6, m1, ?_, ?_, by omega, by rw [ly_uE, if_pos ⟨rfl, rfl⟩], by rw [ly_uE, if_pos ⟨rfl, rfl⟩], by omega, by omega, Or.inr ⟨z, ?_, ?_, Or.inr (Or.inl ⟨rfl, hz⟩)⟩⟩
                · rw [ly_uE, if_neg (by omega), o3 88 k (by unfold PW; omega)]; exact f88
                · rw [eJm 0 (by omega)]; exact g0
                · rw [ly_uE, if_neg (by omega), o3 89 k (by unfold PW; omega)]; exact f89
                · rw [eJm 1 (by omega)]; exact g1
              · exact srw_c (q8 k (by omega) h10) (fun i h1 h2 => by rw [ly_uE, if_neg (by omega)]) (fun j => eJ k j hkm) (Nat.le_refl _)
            · rw [show 6 - o = (6 - (o + 1)) + 1 by omega]
              intro k h1 h2 h3
              by_cases hkm : k = m
              · subst hkm
                exact ⟨m1, by rw [ly_uE, if_pos ⟨rfl, rfl⟩], Nat.le_refl _, hn1⟩
              · exact nst_s hn1 k (by omega) h2 h3
          · exact hno _ _ _ _ _ _ _ _ oI3 (only_u oJ4 (by unfold QW; omega)) hk
        · rw [lg_108 h, mx_nj (by omega), q3, lp_108 h, mx_unj (by omega), j225_F h (by omega) (by omega), ly_cV]
          show rO c w S K K2 P2 Q2 I0 J0 x G2 (FCl 0 _) _
          exact hno _ _ _ _ _ _ _ _ oI3 (only_u (only_u oJ3 (by unfold QW; omega)) (by unfold QW; omega)) hk
      · obtain ⟨q1, q2, q3, m1, q4, q5, q6, q7, q8, q9⟩ := hG
        have oI3 : only (PW m) I (ly_u I3 92 m (nI m1)) := only_u (only_t oI2 (PWm o3)) (by unfold PW; omega)
        have oJ3 : only (QW m) J J3 := only_t oJ2 (QWm o4)
        have hsL : tS T L L = L := tE_n (by omega)
        obtain ⟨J', r1, r2⟩ := j209_F (w := w) (K2 := K2) (J := J3) (p := L) (g := 1) (y := nI L) (rsM := rsM) h (show m < 80 by omega) (by omega)
        rw [i10, lr_87_4 h, lg_87 h, tx_n (by omega), q6, ls_92 h hm, tx_un (by omega), lc_65 h, ly_cc, show (93 : Int32) = nI 93 from rfl, tx_sign_no h (PW_T hw.1 oI3) (Nat.le_refl _) (by rw [hsL]; exact tb_ne (by omega) (by omega)), hsL, ly_cI, r1, ly_cV]
        show rO c w S K K2 P2 Q2 I0 J0 x G2 (FCl 0 _) _
        exact hno _ _ _ _ _ _ _ _ oI3 (only_t oJ3 r2) (by omega)
      · obtain ⟨J', r1, r2⟩ := j209_F (w := w) (K2 := K2) (J := J3) (p := p4) (g := k) (y := nI q) (rsM := rsM) h (show m < 80 by omega) ⟨hk.1, hk.2.1⟩
        rw [i00, r1, ly_cV]
        show rO c w S K K2 P2 Q2 I0 J0 x G2 (FCl 0 _) _
        exact hno _ _ _ _ _ _ _ _ (only_t oI2 (PWm o3)) (only_t (only_t oJ2 (QWm o4)) r2) hk
    · obtain ⟨J', p', r1, r2, r3⟩ := tl_F (w := w) (K2 := K2) (J := Ja) (p := pp) (g := 1) (y := nI q) (rsM := rsM) h (QW_T hw.2.1 oJ2) hk.2.2.2 (show m < 80 by omega) (by omega)
      rw [i00, r1, ly_cV]
      show rO c w S K K2 P2 Q2 I0 J0 x G2 (FCl 0 _) _
      exact hno _ _ _ _ _ _ _ _ oI2 (only_t oJ2 r2) ⟨hk.1, hk.2.1, hk.2.2.1, r3⟩
  · have oJ2 : only (QW m) J (ly_u HM (455 + m) 1 0) := only_u oJ (by unfold QW; omega)
    obtain ⟨J', p', r1, r2, r3⟩ := tl_F (w := w) (K2 := K2) (J := ly_u HM (455 + m) 1 0) (p := pp) (g := k) (y := nI q) (rsM := rsM) h (QW_T hw.2.1 oJ2) hk.2.2.2 (show m < 80 by omega) ⟨hk.1, hk.2.1⟩
    rw [i00, lc_108 h, mx_signF h (by omega), ly_cV, r1, ly_cV]
    show rO c w S K K2 P2 Q2 I0 J0 x G2 (FCl 0 _) _
    exact hno _ _ _ _ _ _ _ _ oI (only_t oJ2 r2) ⟨hk.1, hk.2.1, hk.2.2.1, r3⟩
/-- nothing known stands there: the model -/
theorem rs_0 (h : ly c S) (hM : mB J T L) (hp : p ≤ L) (hs : tS T L p = p) (hW : ∀ i, i < 7 → ¬ tW T L p = sn (12 + i)) : X9_readsStep rsM 108 (c, w, S, mx J p 0 x, K2) = pm_oV (c, w, S, mx J p 1 (nI p), K2) := by
  have ew : X9_wrong 108 1 (nI p) (c, w, S, mx J p 0 x, K2) = pm_oV (c, w, S, mx J p 1 (nI p), K2) := mx_wrong (k := 1) h
  unfold X9_readsStep
  rw [lc_108 h, sh_0 h hM hp hs hW, ly_cI, if_pos rfl, lg_108 h, mx4, lc_108 h, ew, ly_cV]
  unfold X9_readsStep_j19
  rw [if_neg (show ¬ (-1 : Int32) = 6 by decide)]
  unfold X9_readsStep_j33
  rw [lg_108 h, mx5, nk0 (by omega)]
theorem st_R (h : ly c S) (hL : L ≤ 150) (hn6 : n ≤ 6) (ho : o ≤ 6) (hLI : o < 6 → LIh c w S K K2 T L n x rsC rsM (o + 1)) : STh c w S K K2 T L n x rsC rsM o := by
  intro I J p m s v P2 Q2 G2 I0 J0 FC FM FCl hw hs hok hno
  obtain ⟨hT, hM, hJ, hp, e5, e28, h5m, e8, e6, e13⟩ := id hw
  have hL6 := hT.2.1
  rcases tI_cases iLt T L p with hl | hl
  · by_cases hk : ∃ i, i < 7 ∧ tW T L p = sn (12 + i)
    · obtain ⟨i, hi, hW⟩ := hk
      have hE : tE iLt T L p ≤ L := tE_lL hp
      have hlen := tW_len hi hp hW
      have hl3 : ∀ i, i < 7 → 3 ≤ (if i = 0 then 6 else if i = 1 then 3 else if i = 2 then 5 else if i = 3 then 4 else if i = 4 then 4 else if i = 5 then 3 else 5) := by decide
      have h3 : p + 3 ≤ tE iLt T L p := by rw [hlen]; exact Nat.add_le_add_left (hl3 i hi) p
      have h4 : i = 2 ∨ i = 4 → p + 4 ≤ tE iLt T L p := fun e => by rw [hlen]; rcases e with rfl | rfl <;> simp
      have h5 : i = 6 → p + 5 ≤ tE iLt T L p := fun e => by rw [hlen]; subst e; simp
      clear hlen hl3
      have hm : m < 30 := by omega
      have ni : ∀ i, i < 7 → ¬ nI i = -1 := by decide
      unfold X6_readStep X9_readsStep X9_readsStep_j19
      rw [lc_65 h, tx_let1 h hT hp (by rw [hs]; exact hl), hs, ly_cI, i10, kt_C h hT hJ hp hi hW, ly_cI, if_neg (ni i hi), lg_87 h, tx_n (by omega), e5, if_pos (show nI m < 30 from nI_lt (b := 30) hm (by omega)), lc_108 h, sh_M h hM hp hs hi hW, ly_cI, if_neg (ni i hi)]
      rcases (show i = 0 ∨ i = 1 ∨ i = 2 ∨ i = 3 ∨ i = 4 ∨ i = 5 ∨ i = 6 by omega) with rfl | rfl | rfl | rfl | rfl | rfl | rfl
      · rw [if_neg (show ¬ nI 0 = 6 by decide), if_neg (show ¬ nI 0 = 6 by decide), h60 h hm e5, h33 h hM hp (by omega) e28, if_pos (show nI 0 = 0 from rfl)]
        simp only []
        rw [if_pos (show nI 0 = 0 from rfl)]
        exact st_0 h hw hn6 hm hE h3 hok hno
      · rw [if_neg (show ¬ nI 1 = 6 by decide), if_neg (show ¬ nI 1 = 6 by decide), h60 h hm e5, h33 h hM hp (by omega) e28, if_neg (show ¬ nI 1 = 0 by decide)]
        simp only []
        rw [if_neg (show ¬ nI 1 = 0 by decide), if_pos (show nI 1 = 1 from rfl)]
        exact st_13 h hw hm (Or.inl rfl) hE h3 hok hno
      · rw [if_neg (show ¬ nI 2 = 6 by decide), if_neg (show ¬ nI 2 = 6 by decide), h60 h hm e5, h33 h hM hp (by omega) e28, if_neg (show ¬ nI 2 = 0 by decide)]
        simp only []
        rw [if_neg (show ¬ nI 2 = 0 by decide), if_neg (show ¬ nI 2 = 1 by decide), if_pos (show nI 2 = 2 from rfl), j107_s (Or.inr (Or.inl rfl))]
        obtain ⟨f5, f88, f92, f28, f8, f0, -, -⟩ := hd_e (kd := 2) hw
        show rO c w S K K2 P2 Q2 I0 J0 x G2 (pm_cI (fE FC 1 _) FCl) _
        exact en_R h hw hm (by omega) (hdC_o only_r) (hdM_o (by omega) only_r) f5 f28 (f8.trans e8) f88 f0 f92 (Or.inl (Or.inl rfl)) hE (h4 (Or.inl rfl)) hok hno
      · rw [if_neg (show ¬ nI 3 = 6 by decide), if_neg (show ¬ nI 3 = 6 by decide), h60 h hm e5, h33 h hM hp (by omega) e28, if_neg (show ¬ nI 3 = 0 by decide)]
        simp only []
        rw [if_neg (show ¬ nI 3 = 0 by decide), if_neg (show ¬ nI 3 = 1 by decide), if_neg (show ¬ nI 3 = 2 by decide), if_pos (show nI 3 = 3 from rfl)]
        exact st_13 h hw hm (Or.inr rfl) hE h3 hok hno
      · rw [if_neg (show ¬ nI 4 = 6 by decide), if_neg (show ¬ nI 4 = 6 by decide), h60 h hm e5, h33 h hM hp (by omega) e28, if_neg (show ¬ nI 4 = 0 by decide)]
        simp only []
        rw [if_neg (show ¬ nI 4 = 0 by decide), if_neg (show ¬ nI 4 = 1 by decide), if_neg (show ¬ nI 4 = 2 by decide), if_neg (show ¬ nI 4 = 3 by decide), if_pos (show nI 4 = 4 from rfl), j107_s (Or.inr (Or.inr rfl))]
        obtain ⟨f5, f88, f92, f28, f8, f0, -, -⟩ := hd_e (kd := 4) hw
        show rO c w S K K2 P2 Q2 I0 J0 x G2 (pm_cI (fE FC 1 _) FCl) _
        exact en_R h hw hm (by omega) (hdC_o only_r) (hdM_o (by omega) only_r) f5 f28 (f8.trans e8) f88 f0 f92 (Or.inl (Or.inr rfl)) hE (h4 (Or.inr rfl)) hok hno
      · rw [if_neg (show ¬ nI 5 = 6 by decide), if_neg (show ¬ nI 5 = 6 by decide), h60 h hm e5, h33 h hM hp (by omega) e28, if_neg (show ¬ nI 5 = 0 by decide)]
        simp only []
        rw [if_neg (show ¬ nI 5 = 0 by decide), if_neg (show ¬ nI 5 = 1 by decide), if_neg (show ¬ nI 5 = 2 by decide), if_neg (show ¬ nI 5 = 3 by decide), if_neg (show ¬ nI 5 = 4 by decide), if_pos (show nI 5 = 5 from rfl)]
        exact st_5 h hw hm hE h3 hok hno
      · rw [if_pos (show nI 6 = 6 from rfl), if_pos (show nI 6 = 6 from rfl), lc_108 h]
        by_cases h6 : o < 6
        · have oJ8 : only (QW m) J (ly_u J 108 8 (nI (o + 1))) := only_u only_r (by unfold QW; omega)
          rw [if_pos (show nI o < 6 from nI_lt (b := 6) h6 (by omega)), opn_ok h h6 e8, ly_cI, i10, h60 h hm e5, h33 (m := m) h (QW_T hM oJ8) hp (by omega) (by rw [ly_uE, if_neg (by omega)]; exact e28), if_neg (show ¬ nI 6 = 0 by decide)]
          simp only []
          rw [if_neg (show ¬ nI 6 = 0 by decide), if_neg (show ¬ nI 6 = 1 by decide), if_neg (show ¬ nI 6 = 2 by decide), if_neg (show ¬ nI 6 = 3 by decide), if_neg (show ¬ nI 6 = 4 by decide), if_neg (show ¬ nI 6 = 5 by decide), if_pos (show nI 6 = 6 from rfl)]
          exact st_6 h (hLI h6) hw hL h6 hm hE (h5 rfl) hok hno
        · have e66 : o = 6 := by omega
          subst e66
          rw [if_neg (show ¬ nI 6 < 6 by decide), lg_65 h, tx4, lc_65 h, show (3 : Int32) = nI 3 from rfl, tx_fail h, ly_cI, opn_no h e8, ly_cI, ly_cI, i00, ly_cV]
          show rO c w S K K2 P2 Q2 I0 J0 x G2 (FCl 0 _) _
          exact hno _ _ _ _ _ _ _ _ only_r only_r (by omega)
    · have hW : ∀ i, i < 7 → ¬ tW T L p = sn (12 + i) := fun i hi e => hk ⟨i, hi, e⟩
      have ef : X7_fail 65 1 (nI p) (c, w, S, tx I (tE iLt T L p) (nI p) v, K) = pm_oI 0 (c, w, S, tx (tf I 1 p) (tE iLt T L p) (nI p) v, K) := tx_fail (k := 1) h
      unfold X6_readStep X6_readStep_j28
      rw [rs_0 h hM hp hs hW, ly_cV, lc_65 h, tx_let1 h hT hp (by rw [hs]; exact hl), hs, ly_cI, i10, kt_0 h hT hJ hp hW, ly_cI, if_pos rfl, lg_65 h, tx4, lc_65 h, ef, ly_cI]
      show rO c w S K K2 P2 Q2 I0 J0 x G2 (FCl 0 _) _
      exact hno _ _ _ _ _ _ _ _ only_r only_r (by omega)
  · have hW : ∀ i, i < 7 → ¬ tW T L p = sn (12 + i) := fun i hi => tW_no (by omega) hl
    unfold X6_readStep
    rw [rs_0 h hM hp hs hW, ly_cV, lc_65 h, tx_let0 h hT hp (by rw [hs]; exact hl), hs, ly_cI, i00]
    show rO c w S K K2 P2 Q2 I0 J0 x G2 (FCl 0 _) _
    exact hno _ _ _ _ _ _ _ _ only_r only_r (by omega)
end WKL
