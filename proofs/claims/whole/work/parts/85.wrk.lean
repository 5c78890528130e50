/-! a work read by the one and by the other: the whole text -/
section WKA
variable {c w : Nat} {S : Nat → pmS} {I I1 I2 J J1 A B E I0 J0 O : Nat → Nat → Int32} {K K2 : Nat → Nat → Int64} {T : Nat → Nat} {L p g n N m o d : Nat} {s v x : Int32} {rsC : Nat → Nat → Int32 → pmM → pmR} {rsM : Nat → pmM → pmR}
theorem GW_1 {p2 p3 : Nat} (hL : L ≤ 150) (hG : GW L n m o p I1 J1 p2) (hp : p2 ≤ g) (hm1 : ∃ m1, I1 87 5 = nI m1 ∧ m1 ≤ 150 ∧ only (PW m1) I1 I2 ∧ only (QW m1) J1 J ∧ G1 L n m1 o g I2 J p3) : GW L n m o p I2 J p3 := by
  obtain ⟨a1, a2, a3, m2, a4, a5, a6, a7, a8, a9⟩ := hG
  obtain ⟨m1, b1, b2, oI, oJ, c1, c2, c3, m3, c4, c5, c6, c7, c8, c9⟩ := hm1
  have e : m2 = m1 := by
    rw [a6] at b1
    by_cases hb : m2 < 2 ^ 31
    · exact (nI_eq hb (by omega)).mp b1
    · omega
  subst e
  refine ⟨by omega, c2, c3, m3, by omega, c5, c6, c7, fun k h1 h2 => ?_, ?_⟩
  · rcases Nat.lt_or_ge k m2 with a | a
    · exact srw_c (a8 k h1 a) (fun i h3 h4 => oI i k (by unfold PW; omega)) (fun j => oJ (455 + k) j (by unfold QW; omega)) (by omega)
    · exact c8 k a h2
  · exact nst_j (nst_c a9 (fun k j hk => oJ (455 + k) j (by unfold QW; omega))) c9 (by omega)
theorem li_R (h : ly c S) (hL : L ≤ 150) (ho6 : o ≤ 6) (hST : STh c w S K K2 T L n x rsC rsM o) : LIh c w S K K2 T L n x (X6_readSteps rsC) (X9_readsStep rsM) o := by
  intro I J p m s v P2 Q2 G2 I0 J0 bM EXIT FM FCl hw hb1 hb2 hbF hex hend hno
  obtain ⟨hT, hM, hJk, hp, e5, e28, h5m, e8, e6, e13⟩ := id hw
  have := ly_wh2 (α := (Nat → Nat → Int32) × (Nat → Nat → Int32) × Nat × Nat × Int32 × Int32) (bC := X6_readSteps_L2 rsC 87 65 (nI o)) (bM := bM) (fun a => L - a.2.2.1) (fun a => (nI a.2.2.2.1, (c, w, S, tx a.1 a.2.2.1 a.2.2.2.2.1 a.2.2.2.2.2, K))) (fun a => (c, w, S, mx a.2.1 (tS T L a.2.2.1) 0 x, K2))
    (fun a RC RM => only (PW m) I a.1 → only (QW m) J a.2.1 → GW L n m o p a.1 a.2.1 a.2.2.1 → (∀ m2, a.1 87 5 = nI m2 → m2 ≤ 150 → a.2.2.2.1 ≤ m2) → rO c w S K K2 P2 Q2 I0 J0 x G2 (pm_cI RC FCl) (pm_cV RM FM)) ?_ pm_N pm_N (I, J, p, 0, s, v) (by show L - _ < 100000; omega) (by show L - _ + 1 < 100000; omega) only_r only_r ⟨Nat.le_refl _, hp, e8, m, Nat.le_refl _, h5m, e5, e28, fun k h1 h2 => by omega, nst_0⟩ (fun m2 _ _ => Nat.zero_le _)
  · exact this
  · rintro aC aM ⟨I2, J2, p2, k, s2, v2⟩ hb hA oI oJ hG hk
    replace oI : only (PW m) I I2 := oI
    replace oJ : only (QW m) J J2 := oJ
    replace hG : GW L n m o p I2 J2 p2 := hG
    replace hk : ∀ m2, I2 87 5 = nI m2 → m2 ≤ 150 → k ≤ m2 := hk
    obtain ⟨g1, g2, g3, m1, g4, g5, g6, g7, g8, g9⟩ := id hG
    have hkm := hk m1 g6 (by omega)
    have hT2 := PW_T hT oI
    have hM2 := QW_T hM oJ
    have hq : tS T L p2 ≤ L := tE_lL g2
    have hs2 : tS T L (tS T L p2) = tS T L p2 := tE_i g2
    have hpq : p2 ≤ tS T L p2 := tE_ge g2
    have hT6 := hT.2.1
    show rO c w S K K2 P2 Q2 I0 J0 x G2 (pm_cI (X6_readSteps_L2 rsC 87 65 (nI o) aC (nI k, (c, w, S, tx I2 p2 s2 v2, K))) FCl) (pm_cV (bM aM (c, w, S, mx J2 (tS T L p2) 0 x, K2)) FM)
    generalize hqq : tS T L p2 = q2 at hq hs2 hpq ⊢
    have hG2 : GW L n m o p I2 J2 q2 := ⟨by omega, hq, g3, m1, g4, by omega, g6, g7, g8, g9⟩
    have hwq : WS T L n m1 o I2 J2 q2 := by
      obtain ⟨a1, a2, a3, a4, a5, a6, a7, a8, a9, a10⟩ := hw
      exact ⟨hT2, hM2, PW_jk a3 oI, hq, g6, g7, by omega, g3, by rw [oI 87 6 (by unfold PW; omega)]; exact a9, by rw [oJ 108 13 (by unfold QW; omega)]; exact a10⟩
    have PWm : ∀ {A B : Nat → Nat → Int32}, only (PW m1) A B → only (PW m) A B := fun ho => only_m ho (fun i j e => by unfold PW at e ⊢; omega)
    have QWm : ∀ {A B : Nat → Nat → Int32}, only (QW m1) A B → only (QW m) A B := fun ho => only_m ho (fun i j e => by unfold QW at e ⊢; omega)
    have step : ¬ xt T L o q2 → rO c w S K K2 P2 Q2 I0 J0 x G2 (pm_cI (X6_readSteps_j33 rsC aC 87 65 (nI o) (nI k) (c, w, S, tx I2 q2 s2 v2, K)) FCl) (pm_cV (bM aM (c, w, S, mx J2 q2 0 x, K2)) FM) := fun hx => by
      unfold X6_readSteps_j33 X6_readSteps_j51
      rw [lc_87 h, hb2 aM J2 q2 hM2 hq hx, lc_108 h, ly_cvv]
      refine hST I2 J2 q2 m1 s2 v2 P2 Q2 G2 I0 J0 (fun m5 => pm_bI (nI k + 1) fun x7 => aC (x7, m5)) _ FCl hwq hs2 (fun I3 J3 p3 s3 v3 o3 o4 hG3 => ?_) (fun I3 J3 p3 p4 s3 v3 k3 q3 o3 o4 hk3 => ?_)
      · have hM3 := QW_T hM2 o4
        have hp3 : p3 ≤ L := hG3.2.1
        show rO c w S K K2 P2 Q2 I0 J0 x G2 (pm_cI (pm_bI (nI k + 1) fun x7 => aC (x7, (c, w, S, tx I3 p3 s3 v3, K))) FCl) (pm_cV (pm_rc 9 108 (c, w, S, mx J3 p3 0 x, K2) <| pm_cV (X9_blanks 108 (c, w, S, mx J3 p3 0 x, K2)) fun m30 => aM m30) FM)
        rw [ly_bI, nI_1, lc_108 h, mx_blanks h hM3 hp3, ly_cV]
        refine hA (I3, J3, p3, k + 1, s3, v3) (by have := hG3.1; show L - p3 < L - p2; omega) (only_t oI (PWm o3)) (only_t oJ (QWm o4)) (GW_1 hL hG2 (Nat.le_refl q2) ⟨m1, g6, by omega, o3, o4, hG3⟩) (fun m2 h1 h2 => ?_)
        obtain ⟨-, -, -, m3, c4, c5, c6, -, -, -⟩ := hG3
        have h1 : I3 87 5 = nI m2 := h1
        rw [c6] at h1
        have := (nI_eq (by omega) (by omega)).mp h1
        show k + 1 ≤ m2
        omega
      · obtain ⟨p', r1, r2⟩ := bl_F (w := w) (K2 := K2) (g := k3) (y := nI q3) h (QW_T hM2 o4) hk3.2.2.2
        obtain ⟨b, eb⟩ := hb (c, w, S, mx J3 p' k3 (nI q3), K2)
        show rO c w S K K2 P2 Q2 I0 J0 x G2 _ (pm_cV (pm_rc 9 108 (c, w, S, mx J3 p4 k3 (nI q3), K2) <| pm_cV (X9_blanks 108 (c, w, S, mx J3 p4 k3 (nI q3), K2)) fun m30 => aM m30) FM)
        rw [lc_108 h, r1, ly_cV, eb, hbF _ _ _ _ _ ⟨hk3.1, hk3.2.1⟩]
        exact hno _ _ _ _ _ _ _ _ (only_t oI (PWm o3)) (only_t oJ (QWm o4)) ⟨hk3.1, hk3.2.1, hk3.2.2.1, r2⟩
    unfold X6_readSteps_L2 X6_readSteps_j31
    rw [if_neg (show ¬ (30 : Int32) < nI k from nI_nlt (a := 30) (by omega) (by omega)), lc_65 h, tx_peek h hT2 g2, hqq, ly_cI]
    by_cases hE : q2 = L
    · rw [if_pos ((tb_end (fun k hk => (hT2.2.2 k hk).2) hT6 hq).mpr hE), ly_cI]
      by_cases ho : o = 0
      · rw [hb1 aM J2 q2 hM2 hq (Or.inl ⟨ho, hE⟩)]
        exact hex _ _ _ _ _ oI oJ hG2 (Or.inl ⟨ho, hE⟩) hs2
      · have htb : ¬ tb T L q2 = nI 93 := tb_ne (by omega) (by omega)
        have hno2 : ∀ i, i < 7 → ¬ tW T L q2 = sn (12 + i) := fun i hi => tW_no (by omega) (decide_eq_false (by omega))
        rw [hb2 aM J2 q2 hM2 hq (fun e => by
          rcases e with ⟨a, -⟩ | ⟨-, a⟩
          · exact ho a
          · exact htb a), lc_108 h, rs_0 h hM2 hq hs2 hno2, ly_cV, lc_108 h, mx_blanks h hM2 hq, hs2, ly_cV]
        obtain ⟨b, eb⟩ := hb (c, w, S, mx J2 q2 1 (nI q2), K2)
        rw [eb, hbF _ _ _ _ _ (by omega)]
        subst hE
        exact hend ho _ _ _ _ oI oJ hG2
    · rw [if_neg (fun e => hE ((tb_end (fun k hk => (hT2.2.2 k hk).2) hT6 hq).mp e))]
      by_cases ho : o = 0
      · rw [if_pos (show nI o ≤ 0 by rw [ho]; decide)]
        exact step (fun e => by
          rcases e with ⟨-, a⟩ | ⟨a, -⟩
          · exact hE a
          · exact a ho)
      · rw [if_neg (show ¬ nI o ≤ 0 from (show ¬ nI o ≤ nI 0 from nI_ge (by omega) (by omega)))]
        by_cases h93 : tb T L q2 = nI 93
        · rw [if_pos (show tb T L q2 = 93 from h93), ly_cI, hb1 aM J2 q2 hM2 hq (Or.inr ⟨ho, h93⟩)]
          exact hex _ _ _ _ _ oI oJ hG2 (Or.inr ⟨ho, h93⟩) hs2
        · rw [if_neg (show ¬ tb T L q2 = 93 from h93)]
          exact step (fun e => by
            rcases e with ⟨a, -⟩ | ⟨-, a⟩
            · exact ho a
            · exact h93 a)
theorem LI_all (h : ly c S) (hL : L ≤ 150) (hn6 : n ≤ 6) : ∀ nn o, o ≤ 6 → 7 - o ≤ nn → LIh c w S K K2 T L n x (X6_readSteps_N nn) (X9_readsStep_N nn) o := by
  intro nn
  induction nn with
  | zero => intro o ho hn; omega
  | succ nn ih =>
    intro o ho hn
    exact li_R h hL ho (st_R h hL hn6 ho (fun h6 => ih (o + 1) (by omega) (by omega)))
/-- the model's row of steps, without what comes behind -/
def LG (E : pmM → pmR) (ag : pmM → pmR) (s : pmM) : pmR := pm_gI 9 108 5 s fun x10 => if x10 = 0 then (pm_gI 9 108 4 s fun x28 => pm_gI 9 108 2 s fun x29 => if x29 ≤ x28 then (E s) else (pm_rc 9 108 s <| pm_cV (X9_readsStep_N 10 108 s) fun m30 => pm_rc 9 108 m30 <| pm_cV (X9_blanks 108 m30) fun m31 => ag m31)) else (E s)
theorem cgI {ci a k : Nat} {m : pmM} {f : Int32 → pmR} {g : pmM → pmR} : pm_cV (pm_gI ci a k m f) g = pm_gI ci a k m (fun y => pm_cV (f y) g) := by
  unfold pm_gI
  split <;> rfl
theorem crc {ci b : Nat} {m : pmM} {r : pmR} {g : pmM → pmR} : pm_cV (pm_rc ci b m r) g = pm_rc ci b m (pm_cV r g) := by
  unfold pm_rc
  split <;> rfl
theorem cif {q : Prop} [Decidable q] {r1 r2 : pmR} {g : pmM → pmR} : pm_cV (if q then r1 else r2) g = if q then pm_cV r1 g else pm_cV r2 g := by split <;> rfl
theorem LG_E {E : pmM → pmR} : ∀ (N : Nat) (s : pmM), pm_lp N (LG E) s = pm_cV (pm_lp N (LG pm_oV) s) E
  | 0, s => rfl
  | N + 1, s => by
    have ih := LG_E (E := E) N
    rw [ly_S, ly_S]
    generalize pm_lp N (LG E) = a1 at ih ⊢
    generalize pm_lp N (LG pm_oV) = a2 at ih ⊢
    unfold LG
    simp only [cgI, cif, crc, ly_cvv, ih]
    rfl
end WKA
