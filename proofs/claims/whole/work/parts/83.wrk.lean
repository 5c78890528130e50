/-! a work read by the one and by the other: steps -/
section WKS
variable {c w : Nat} {S : Nat → pmS} {I I1 I2 J J1 A B E I0 J0 : Nat → Nat → Int32} {K K2 : Nat → Nat → Int64} {T : Nat → Nat} {L p g n N m o d : Nat} {s v x : Int32} {rsC : Nat → Nat → Int32 → pmM → pmR} {rsM : Nat → pmM → pmR} {P2 Q2 : Nat → Nat → Prop} {G2 : (Nat → Nat → Int32) → (Nat → Nat → Int32) → Nat → Prop} {FC FM : pmM → pmR} {FCl : Int32 → pmM → pmR}
/-- a step more -/
def G1 (L n m o p : Nat) (I1 J1 : Nat → Nat → Int32) (p1 : Nat) : Prop := p < p1 ∧ p1 ≤ L ∧ J1 108 8 = nI o ∧ ∃ m1, m < m1 ∧ 5 * m1 ≤ p1 ∧ I1 87 5 = nI m1 ∧ J1 108 28 = nI m1 ∧ (∀ k, m ≤ k → k < m1 → srw n I1 J1 k m1) ∧ nst J1 (6 - o) m m1
/-- what comes behind a step: well, or a fault -/
def hOK (c w : Nat) (S : Nat → pmS) (K K2 : Nat → Nat → Int64) (L n m o p : Nat) (I J I0 J0 : Nat → Nat → Int32) (x : Int32) (P2 Q2 : Nat → Nat → Prop) (G2 : (Nat → Nat → Int32) → (Nat → Nat → Int32) → Nat → Prop) (FC FM : pmM → pmR) (FCl : Int32 → pmM → pmR) : Prop := ∀ I1 J1 p1 s v, only (PW m) I I1 → only (QW m) J J1 → G1 L n m o p I1 J1 p1 → rO c w S K K2 P2 Q2 I0 J0 x G2 (pm_cI (FC (c, w, S, tx I1 p1 s v, K)) FCl) (FM (c, w, S, mx J1 p1 0 x, K2))
def hNO (c w : Nat) (S : Nat → pmS) (K K2 : Nat → Nat → Int64) (m : Nat) (I J I0 J0 : Nat → Nat → Int32) (x : Int32) (P2 Q2 : Nat → Nat → Prop) (G2 : (Nat → Nat → Int32) → (Nat → Nat → Int32) → Nat → Prop) (FM : pmM → pmR) (FCl : Int32 → pmM → pmR) : Prop := ∀ I1 J1 p1 p2 s v k q, only (PW m) I I1 → only (QW m) J J1 → 1 ≤ k ∧ k ≤ 3 ∧ q ≤ 600 ∧ p2 ≤ 600 → rO c w S K K2 P2 Q2 I0 J0 x G2 (FCl 0 (c, w, S, tx (tf I1 k q) p1 s v, K)) (FM (c, w, S, mx J1 p2 k (nI q), K2))
def hdC (I : Nat → Nat → Int32) (m kd : Nat) : Nat → Nat → Int32 := ly_u (ly_u (ly_u I 88 m (nI kd)) 92 m (nI (m + 1))) 87 5 (nI (m + 1))
def hdM (J : Nat → Nat → Int32) (m kd : Nat) : Nat → Nat → Int32 := ly_u (ly_u J 108 28 (nI (m + 1))) (455 + m) 0 (nI kd)
theorem hdC_o {kd : Nat} (h : only (PW m) I I1) : only (PW m) I (hdC I1 m kd) := only_u (only_u (only_u h (by unfold PW; omega)) (by unfold PW; omega)) (by unfold PW; omega)
theorem hdM_o {kd : Nat} (hm : m < 80) (h : only (QW m) J J1) : only (QW m) J (hdM J1 m kd) := only_u (only_u h (by unfold QW; omega)) (by unfold QW; omega)
/-- the model behind a step's word -/
theorem h33 {kd : Nat} (h : ly c S) (hM : mB J T L) (hp : p ≤ L) (hm : m < 80) (e28 : J 108 28 = nI m) : X9_readsStep_j33 rsM 108 (nI kd) (c, w, S, mx J p 0 x, K2) = (if nI kd = 0 then (pm_gI 9 108 13 (c, w, S, mx (hdM J m kd) (tE iLt T L p) 0 x, K2) fun x37 => pm_rc 9 108 (c, w, S, mx (hdM J m kd) (tE iLt T L p) 0 x, K2) <| pm_cI (X9_number 108 0 (x37 - 1) (c, w, S, mx (hdM J m kd) (tE iLt T L p) 0 x, K2)) fun x39 m38 => pm_st 100 (455 + m) 1 x39 m38 fun m40 => pm_rc 9 108 m40 <| pm_cI (X9_number 108 0 7 m40) fun x42 m41 => pm_st 100 (455 + m) 2 x42 m41 fun m43 => pm_rc 9 108 m43 <| pm_cI (X9_number 108 0 7 m43) fun x45 m44 => pm_st 100 (455 + m) 3 x45 m44 fun m46 => X9_readsStep_j107 rsM 108 (nI kd) (455 + m) m46) else (X9_readsStep_j107 rsM 108 (nI kd) (455 + m) (c, w, S, mx (hdM J m kd) (tE iLt T L p) 0 x, K2))) := by
  unfold X9_readsStep_j33
  rw [lg_108 h, mx5, n00, lc_108 h, mx_skipWord h hM hp, ly_cV, lr_108_27 h, lg_108 h, mx_nj (by omega), e28, lr_454 h hm, lg_108 h, mx_nj (by omega), e28, lp_108 h, mx_unj (by omega), nI_1, st_i (i := 0) 0 rfl, ls_455 h hm (by omega), mx_un (by omega)]
  rfl
/-- the class behind a step's word -/
theorem h60 {kd : Nat} (h : ly c S) (hm : m < 30) (e5 : I 87 5 = nI m) : X6_readStep_j60 rsC 87 65 (nI o) (nI kd) (c, w, S, tx I p s v, K) = (fun m15 : pmM => if nI kd = (0 : Int32) then (pm_rc 6 87 m15 <| pm_cI (X6_readStrike 87 65 (nI m) m15) fun x17 m16 => pm_oI (vp_nar .boolean x17) m16) else if nI kd = (1 : Int32) then (pm_rc 6 87 m15 <| pm_cI (X6_readFirst 87 65 (nI m) 1 99 m15) fun x19 m18 => pm_oI (vp_nar .boolean x19) m18) else if nI kd = (2 : Int32) then (X6_readStep_j210 rsC m15) else if nI kd = (3 : Int32) then (pm_rc 6 87 m15 <| pm_cI (X6_readFirst 87 65 (nI m) 1 99 m15) fun x21 m20 => pm_oI (vp_nar .boolean x21) m20) else if nI kd = (4 : Int32) then (X6_readStep_j210 rsC m15) else if nI kd = (5 : Int32) then (pm_rc 6 87 m15 <| pm_cI (X6_readFirst 87 65 (nI m) 0 3 m15) fun x23 m22 => if x23 = 0 then (X6_readStep_j199 rsC m22) else (pm_rc 6 87 m22 <| pm_cI (X6_readSecond 87 65 (nI m) 999 m22) fun x25 m24 => if x25 = 0 then (X6_readStep_j199 rsC m24) else (X6_readStep_j200 rsC 1 m24))) else if nI kd = (6 : Int32) then (pm_rc 6 87 m15 <| pm_cI (X6_readAgain rsC 87 65 (nI m) (nI o) m15) fun x27 m26 => pm_oI (vp_nar .boolean x27) m26) else (X6_readStep_j210 rsC m15)) (c, w, S, tx (hdC I m kd) p s v, K) := by
  unfold X6_readStep_j60
  have e1 : ly_u (ly_u I 88 m (nI kd)) 92 m (nI m + 1) 87 5 = nI m := by rw [ly_uE, if_neg (by omega), ly_uE, if_neg (by omega)]; exact e5
  rw [lg_87 h, tx_n (by omega), e5, lr_87_0 h, ls_88 h hm, tx_un (by omega), lr_87_4 h, ls_92 h hm, tx_un (by omega), lg_87 h, tx_n (by omega), e1, lp_87 h, tx_un (by omega), nI_1]
  rfl
/-- a simple step ends -/
theorem en_R {kd p1 : Nat} (h : ly c S) (hw : WS T L n m o I J p) (hm : m < 30) (hkd : kd ≤ 5) (oI : only (PW m) I I1) (oJ : only (QW m) J J1) (e5 : I1 87 5 = nI (m + 1)) (e28 : J1 108 28 = nI (m + 1)) (e8 : J1 108 8 = nI o) (e88 : I1 88 m = nI kd) (e0 : J1 (455 + m) 0 = nI kd) (e92 : I1 92 m = nI (m + 1)) (ha : arw n I1 J1 kd m) (hp1 : p1 ≤ L) (hpp : p + 4 ≤ p1) (hok : hOK c w S K K2 L n m o p I J I0 J0 x P2 Q2 G2 FC FM FCl) (hno : hNO c w S K K2 m I J I0 J0 x P2 Q2 G2 FM FCl) : rO c w S K K2 P2 Q2 I0 J0 x G2 (pm_cI (fE FC 1 (c, w, S, tx I1 p1 s v, K)) FCl) (pm_cV (X9_readsStep_j225 rsM 108 (455 + m) (c, w, S, mx J1 p1 0 x, K2)) FM) := by
  have h5 := hw.2.2.2.2.2.2.1
  have oJ4 : only (QW m) J (ly_u J1 (455 + m) 4 (nI (m + 1))) := only_u oJ (by unfold QW; omega)
  refine sg_R h (PW_T hw.1 oI) (QW_T hw.2.1 oJ) hp1 (by omega) e28 (fun h1 h2 => ?_) (fun q pp hk => ?_)
  · refine hok _ _ _ _ _ oI oJ4 ⟨by omega, by omega, by rw [ly_uE, if_neg (by omega)]; exact e8, m + 1, by omega, by omega, e5, by rw [ly_uE, if_neg (by omega)]; exact e28, fun k h1 h2 => ?_, nst_1 ?_⟩
    · have : k = m := by omega
      subst this
      refine ⟨kd, k + 1, e88, by rw [ly_uE, if_neg (by omega)]; exact e0, by omega, e92, by rw [ly_uE, if_pos ⟨rfl, rfl⟩], by omega, by omega, ?_⟩
      unfold arw at ha ⊢
      rw [ly_uE, if_neg (by omega), ly_uE, if_neg (by omega), ly_uE, if_neg (by omega)]
      exact ha
    · rw [ly_uE, if_neg (by omega), e0]
      intro e
      have := (nI_eq (by omega) (by omega)).mp e
      omega
  · exact hno _ _ _ _ _ _ _ _ oI oJ4 hk
/-- the model's way out of a simple step -/
theorem j107_s {kd : Nat} {M : pmM} (hk : kd = 0 ∨ kd = 2 ∨ kd = 4) : X9_readsStep_j107 rsM 108 (nI kd) (455 + m) M = X9_readsStep_j225 rsM 108 (455 + m) M := by
  unfold X9_readsStep_j107 X9_readsStep_j127 X9_readsStep_j152
  rcases hk with rfl | rfl | rfl
  · rw [if_neg (by decide), if_neg (by decide), if_neg (by decide), if_neg (by decide)]
  · rw [if_neg (by decide), if_neg (by decide), if_neg (by decide), if_neg (by decide)]
  · rw [if_neg (by decide), if_neg (by decide), if_neg (by decide), if_neg (by decide)]
theorem j127_s {kd : Nat} {M : pmM} (hk : kd = 1 ∨ kd = 3) : X9_readsStep_j127 rsM 108 (nI kd) (455 + m) M = X9_readsStep_j225 rsM 108 (455 + m) M := by
  unfold X9_readsStep_j127 X9_readsStep_j152
  rcases hk with rfl | rfl
  · rw [if_neg (by decide), if_neg (by decide)]
  · rw [if_neg (by decide), if_neg (by decide)]
theorem hd_e {kd : Nat} (hw : WS T L n m o I J p) : (hdC I m kd) 87 5 = nI (m + 1) ∧ (hdC I m kd) 88 m = nI kd ∧ (hdC I m kd) 92 m = nI (m + 1) ∧ (hdM J m kd) 108 28 = nI (m + 1) ∧ (hdM J m kd) 108 8 = J 108 8 ∧ (hdM J m kd) (455 + m) 0 = nI kd ∧ (hdM J m kd) 108 13 = J 108 13 ∧ (hdC I m kd) 87 6 = I 87 6 := by
  unfold hdC hdM
  refine ⟨?_, ?_, ?_, ?_, ?_, ?_, ?_, ?_⟩ <;> simp (disch := omega) only [ly_uE, if_neg, if_pos, and_self, if_true]
/-- run, fill -/
theorem st_13 {kd e : Nat} (h : ly c S) (hw : WS T L n m o I J p) (hm : m < 30) (hkd : kd = 1 ∨ kd = 3) (he : e ≤ L) (hpe : p + 3 ≤ e) (hok : hOK c w S K K2 L n m o p I J I0 J0 x P2 Q2 G2 FC FM FCl) (hno : hNO c w S K K2 m I J I0 J0 x P2 Q2 G2 FM FCl) : rO c w S K K2 P2 Q2 I0 J0 x G2 (pm_cI (pm_cI (pm_rc 6 87 (c, w, S, tx (hdC I m kd) e s v, K) <| pm_cI (X6_readFirst 87 65 (nI m) 1 99 (c, w, S, tx (hdC I m kd) e s v, K)) fun x19 m18 => pm_oI (vp_nar .boolean x19) m18) (fE FC)) FCl) (pm_cV (X9_readsStep_j107 rsM 108 (nI kd) (455 + m) (c, w, S, mx (hdM J m kd) e 0 x, K2)) FM) := by
  obtain ⟨e5, e88, e92, e28, e8, e0, -, -⟩ := hd_e (kd := kd) hw
  have oI := hdC_o (kd := kd) (only_r (P := PW m) (I := I))
  have oJ := hdM_o (kd := kd) (show m < 80 by omega) (only_r (P := QW m) (I := J))
  have e8' := e8.trans hw.2.2.2.2.2.2.2.1
  have ej : X9_readsStep_j107 rsM 108 (nI kd) (455 + m) (c, w, S, mx (hdM J m kd) e 0 x, K2) = X9_readsStep_j117 rsM 108 (nI kd) (455 + m) (c, w, S, mx (hdM J m kd) e 0 x, K2) := by
    unfold X9_readsStep_j107
    rcases hkd with rfl | rfl
    · rw [if_pos (show nI 1 = 1 from rfl)]
    · rw [if_neg (by decide), if_pos (show nI 3 = 3 from rfl)]
  rw [ej]
  unfold X9_readsStep_j117
  rw [lc_87 h, ly_cc, ly_cc, lc_108 h]
  refine rf_R (Bd := fun z => z ≤ 99) h (PW_T hw.1 oI) (QW_T hw.2.1 oJ) he hm (fun z hz hh => le_lit hz (by omega) hh) (fun z p1 s v h0 hz h1 h2 => ?_) (fun k q pp p1 s v hk => ?_)
  · rw [j127_s hkd]
    show rO c w S K K2 P2 Q2 I0 J0 x G2 (pm_cI (fE FC 1 _) FCl) _
    refine en_R (I := I) (J := J) (kd := kd) h hw hm (by omega) (only_u oI (by unfold PW; omega)) (only_u oJ (by unfold QW; omega)) ?_ ?_ ?_ ?_ ?_ ?_ ?_ h2 (by omega) hok hno
    · rw [ly_uE, if_neg (by omega)]; exact e5
    · rw [ly_uE, if_neg (by omega)]; exact e28
    · rw [ly_uE, if_neg (by omega)]; exact e8'
    · rw [ly_uE, if_neg (by omega)]; exact e88
    · rw [ly_uE, if_neg (by omega)]; exact e0
    · rw [ly_uE, if_neg (by omega)]; exact e92
    · exact Or.inr ⟨z, by rw [ly_uE, if_pos ⟨rfl, rfl⟩], by rw [ly_uE, if_pos ⟨rfl, rfl⟩], Or.inl ⟨hkd, (nI_leI (a := 1) (by omega) (by omega)).mp h0, hz⟩⟩
  · rw [j127_s hkd, j225_F h (by omega) ⟨hk.1, hk.2.1⟩, ly_cV]
    show rO c w S K K2 P2 Q2 I0 J0 x G2 (FCl 0 _) _
    exact hno _ _ _ _ _ _ _ _ oI (only_u (only_u oJ (by unfold QW; omega)) (by unfold QW; omega)) hk
/-- set -/
theorem st_5 {e : Nat} (h : ly c S) (hw : WS T L n m o I J p) (hm : m < 30) (he : e ≤ L) (hpe : p + 3 ≤ e) (hok : hOK c w S K K2 L n m o p I J I0 J0 x P2 Q2 G2 FC FM FCl) (hno : hNO c w S K K2 m I J I0 J0 x P2 Q2 G2 FM FCl) : rO c w S K K2 P2 Q2 I0 J0 x G2 (pm_cI (pm_cI (pm_rc 6 87 (c, w, S, tx (hdC I m 5) e s v, K) <| pm_cI (X6_readFirst 87 65 (nI m) 0 3 (c, w, S, tx (hdC I m 5) e s v, K)) fun x23 m22 => if x23 = 0 then (X6_readStep_j199 rsC m22) else (pm_rc 6 87 m22 <| pm_cI (X6_readSecond 87 65 (nI m) 999 m22) fun x25 m24 => if x25 = 0 then (X6_readStep_j199 rsC m24) else (X6_readStep_j200 rsC 1 m24))) (fE FC)) FCl) (pm_cV (X9_readsStep_j107 rsM 108 (nI 5) (455 + m) (c, w, S, mx (hdM J m 5) e 0 x, K2)) FM) := by
  obtain ⟨e5, e88, e92, e28, e8, e0, -, -⟩ := hd_e (kd := 5) hw
  have oI := hdC_o (kd := 5) (only_r (P := PW m) (I := I))
  have oJ := hdM_o (kd := 5) (show m < 80 by omega) (only_r (P := QW m) (I := J))
  have e8' := e8.trans hw.2.2.2.2.2.2.2.1
  have e152 : ∀ M, X9_readsStep_j152 rsM 108 (nI 5) (455 + m) M = X9_readsStep_j225 rsM 108 (455 + m) M := fun M => by unfold X9_readsStep_j152; rw [if_neg (by decide)]
  unfold X9_readsStep_j107 X9_readsStep_j127
  rw [if_neg (by decide), if_neg (by decide), if_pos (show nI 5 = 5 from rfl), lc_87 h, ly_cc, ly_cc, lc_108 h]
  refine rf_R (Bd := fun z => z ≤ 3) h (PW_T hw.1 oI) (QW_T hw.2.1 oJ) he hm (fun z hz hh => le_lit hz (by omega) hh) (fun z p1 s v h0 hz h1 h2 => ?_) (fun k q pp p1 s v hk => ?_)
  · have oI2 : only (PW m) I (ly_u (hdC I m 5) 89 m (nI z)) := only_u oI (by unfold PW; omega)
    have oJ2 : only (QW m) J (ly_u (hdM J m 5) (455 + m) 1 (nI z)) := only_u oJ (by unfold QW; omega)
    rw [i10, lc_87 h, ly_cc, lc_108 h]
    refine rs_R (Bd := fun z => z ≤ 999) h (PW_T hw.1 oI2) (QW_T hw.2.1 oJ2) h2 hm (fun z hz hh => le_lit hz (by omega) hh) (fun z2 p2 s v hz2 h3 h4 => ?_) (fun k q pp p1 s v hk => ?_)
    · rw [i10, e152]
      show rO c w S K K2 P2 Q2 I0 J0 x G2 (pm_cI (fE FC 1 _) FCl) _
      refine en_R (I := I) (J := J) (kd := 5) h hw hm (by omega) (only_u oI2 (by unfold PW; omega)) (only_u oJ2 (by unfold QW; omega)) ?_ ?_ ?_ ?_ ?_ ?_ ?_ h4 (by omega) hok hno
      · rw [ly_uE, if_neg (by omega), ly_uE, if_neg (by omega)]; exact e5
      · rw [ly_uE, if_neg (by omega), ly_uE, if_neg (by omega)]; exact e28
      · rw [ly_uE, if_neg (by omega), ly_uE, if_neg (by omega)]; exact e8'
      · rw [ly_uE, if_neg (by omega), ly_uE, if_neg (by omega)]; exact e88
      · rw [ly_uE, if_neg (by omega), ly_uE, if_neg (by omega)]; exact e0
      · rw [ly_uE, if_neg (by omega), ly_uE, if_neg (by omega)]; exact e92
      · exact Or.inr ⟨z, by rw [ly_uE, if_neg (by omega), ly_uE, if_pos ⟨rfl, rfl⟩], by rw [ly_uE, if_neg (by omega), ly_uE, if_pos ⟨rfl, rfl⟩], Or.inr (Or.inr (Or.inl ⟨rfl, hz, z2, by rw [ly_uE, if_pos ⟨rfl, rfl⟩], by rw [ly_uE, if_pos ⟨rfl, rfl⟩], hz2⟩))⟩
    · rw [i00, e152, j225_F h (by omega) ⟨hk.1, hk.2.1⟩, ly_cV]
      show rO c w S K K2 P2 Q2 I0 J0 x G2 (FCl 0 _) _
      exact hno _ _ _ _ _ _ _ _ oI2 (only_u (only_u oJ2 (by unfold QW; omega)) (by unfold QW; omega)) hk
  · rw [i00, lc_108 h, mx_numF h (by omega), ly_cI, st_i (i := 2) 2 rfl, ls_455 h (by omega) (by omega), mx_un (by omega), e152, j225_F h (by omega) ⟨hk.1, hk.2.1⟩, ly_cV]
    show rO c w S K K2 P2 Q2 I0 J0 x G2 (FCl 0 _) _
    exact hno _ _ _ _ _ _ _ _ oI (only_u (only_u (only_u oJ (by unfold QW; omega)) (by unfold QW; omega)) (by unfold QW; omega)) hk
theorem lt_n1 {z : Nat} (hz : z ≤ 100000) (hn : n ≤ 6) (h : nI z ≤ nI n - 1) : z < n := by
  rw [Int32.le_iff_toInt_le, nI_toInt (by omega)] at h
  have := pk_sub_toInt (a := n) (b := 1) (by omega) (by omega)
  have e : (nI n - 1).toInt = (n : Int) - 1 := this
  omega
/-- strike -/
theorem st_0 {e : Nat} (h : ly c S) (hw : WS T L n m o I J p) (hn6 : n ≤ 6) (hm : m < 30) (he : e ≤ L) (hpe : p + 3 ≤ e) (hok : hOK c w S K K2 L n m o p I J I0 J0 x P2 Q2 G2 FC FM FCl) (hno : hNO c w S K K2 m I J I0 J0 x P2 Q2 G2 FM FCl) : rO c w S K K2 P2 Q2 I0 J0 x G2 (pm_cI (pm_cI (pm_rc 6 87 (c, w, S, tx (hdC I m 0) e s v, K) <| pm_cI (X6_readStrike 87 65 (nI m) (c, w, S, tx (hdC I m 0) e s v, K)) fun x17 m16 => pm_oI (vp_nar .boolean x17) m16) (fE FC)) FCl) (pm_cV (pm_gI 9 108 13 (c, w, S, mx (hdM J m 0) e 0 x, K2) fun x37 => pm_rc 9 108 (c, w, S, mx (hdM J m 0) e 0 x, K2) <| pm_cI (X9_number 108 0 (x37 - 1) (c, w, S, mx (hdM J m 0) e 0 x, K2)) fun x39 m38 => pm_st 100 (455 + m) 1 x39 m38 fun m40 => pm_rc 9 108 m40 <| pm_cI (X9_number 108 0 7 m40) fun x42 m41 => pm_st 100 (455 + m) 2 x42 m41 fun m43 => pm_rc 9 108 m43 <| pm_cI (X9_number 108 0 7 m43) fun x45 m44 => pm_st 100 (455 + m) 3 x45 m44 fun m46 => X9_readsStep_j107 rsM 108 (nI 0) (455 + m) m46) FM) := by
  obtain ⟨e5, e88, e92, e28, e8, e0, e13, e6⟩ := hd_e (kd := 0) hw
  have oI := hdC_o (kd := 0) (only_r (P := PW m) (I := I))
  have oJ := hdM_o (kd := 0) (show m < 80 by omega) (only_r (P := QW m) (I := J))
  have e8' := e8.trans hw.2.2.2.2.2.2.2.1
  have e6' := e6.trans hw.2.2.2.2.2.2.2.2.1
  have e13' := e13.trans hw.2.2.2.2.2.2.2.2.2
  unfold X6_readStrike X6_readStrike_j37
  rw [lc_87 h, lg_87 h, tx_n (by omega), e6', lc_87 h, ly_cc, ly_cc, ly_cc, lg_108 h, mx_nj (by omega), e13', lc_108 h]
  refine rf_R (Bd := fun z => z < n) h (PW_T hw.1 oI) (QW_T hw.2.1 oJ) he hm (fun z hz hh => lt_n1 hz hn6 hh) (fun z p1 s v h0 hz h1 h2 => ?_) (fun k q pp p1 s v hk => ?_)
  · have oI2 : only (PW m) I (ly_u (hdC I m 0) 89 m (nI z)) := only_u oI (by unfold PW; omega)
    have oJ2 : only (QW m) J (ly_u (hdM J m 0) (455 + m) 1 (nI z)) := only_u oJ (by unfold QW; omega)
    rw [i10, lc_87 h, ly_cc, lc_108 h]
    refine rs_R (Bd := fun z => z ≤ 7) h (PW_T hw.1 oI2) (QW_T hw.2.1 oJ2) h2 hm (fun z hz hh => le_lit hz (by omega) hh) (fun z2 p2 s v hz2 h3 h4 => ?_) (fun k q pp p1 s v hk => ?_)
    · have oI3 : only (PW m) I (ly_u (ly_u (hdC I m 0) 89 m (nI z)) 90 m (nI z2)) := only_u oI2 (by unfold PW; omega)
      have oJ3 : only (QW m) J (ly_u (ly_u (hdM J m 0) (455 + m) 1 (nI z)) (455 + m) 2 (nI z2)) := only_u oJ2 (by unfold QW; omega)
      have hpq : p2 ≤ tS T L p2 := tE_ge h4
      rw [i10, lc_65 h, ly_cc, lc_108 h, ly_civ]
      refine rO_numP (Bd := fun z => z ≤ 7) h (PW_T hw.1 oI3) (QW_T hw.2.1 oJ3) h4 h4 rfl (fun z hz hh => le_lit hz (by omega) hh) (fun z3 h5 hz3 h6 h7 h8 => ?_) (fun k q pp s v hk => ?_)
      · rw [i10, lr_87_3 h, lg_65 h, tx5, ls_91 h hm, tx_un (by omega), st_i (i := 3) 3 rfl, ls_455 h (by omega) (by omega), mx_un (by omega), j107_s (Or.inl rfl)]
        show rO c w S K K2 P2 Q2 I0 J0 x G2 (pm_cI (fE FC 1 _) FCl) _
        refine en_R (I := I) (J := J) (kd := 0) h hw hm (by omega) (only_u oI3 (by unfold PW; omega)) (only_u oJ3 (by unfold QW; omega)) ?_ ?_ ?_ ?_ ?_ ?_ ?_ h7 (by omega) hok hno
        · rw [ly_uE, if_neg (by omega), ly_uE, if_neg (by omega), ly_uE, if_neg (by omega)]; exact e5
        · rw [ly_uE, if_neg (by omega), ly_uE, if_neg (by omega), ly_uE, if_neg (by omega)]; exact e28
        · rw [ly_uE, if_neg (by omega), ly_uE, if_neg (by omega), ly_uE, if_neg (by omega)]; exact e8'
        · rw [ly_uE, if_neg (by omega), ly_uE, if_neg (by omega), ly_uE, if_neg (by omega)]; exact e88
        · rw [ly_uE, if_neg (by omega), ly_uE, if_neg (by omega), ly_uE, if_neg (by omega)]; exact e0
        · rw [ly_uE, if_neg (by omega), ly_uE, if_neg (by omega), ly_uE, if_neg (by omega)]; exact e92
        · refine Or.inr ⟨z, by rw [ly_uE, if_neg (by omega), ly_uE, if_neg (by omega), ly_uE, if_pos ⟨rfl, rfl⟩], by rw [ly_uE, if_neg (by omega), ly_uE, if_neg (by omega), ly_uE, if_pos ⟨rfl, rfl⟩], Or.inr (Or.inr (Or.inr ⟨rfl, hz, ⟨z2, by rw [ly_uE, if_neg (by omega), ly_uE, if_pos ⟨rfl, rfl⟩], by rw [ly_uE, if_neg (by omega), ly_uE, if_pos ⟨rfl, rfl⟩], hz2⟩, z3, by rw [ly_uE, if_pos ⟨rfl, rfl⟩], by rw [ly_uE, if_pos ⟨rfl, rfl⟩], hz3⟩))⟩
      · rw [i00, st_i (i := 3) 3 rfl, ls_455 h (by omega) (by omega), mx_un (by omega), j107_s (Or.inl rfl), j225_F h (by omega) ⟨hk.1, hk.2.1⟩, ly_cV]
        show rO c w S K K2 P2 Q2 I0 J0 x G2 (FCl 0 _) _
        exact hno _ _ _ _ _ _ _ _ oI3 (only_u (only_u oJ3 (by unfold QW; omega)) (by unfold QW; omega)) hk
    · rw [i00, lc_108 h, mx_numF h (by omega), ly_cI, ly_cI, ly_cI, st_i (i := 3) 3 rfl, ls_455 h (by omega) (by omega), mx_un (by omega), j107_s (Or.inl rfl), j225_F h (by omega) ⟨hk.1, hk.2.1⟩, ly_cV]
      show rO c w S K K2 P2 Q2 I0 J0 x G2 (FCl 0 _) _
      exact hno _ _ _ _ _ _ _ _ oI2 (only_u (only_u (only_u oJ2 (by unfold QW; omega)) (by unfold QW; omega)) (by unfold QW; omega)) hk
  · rw [i00, lc_108 h, mx_numF h (by omega), ly_cI, ly_cI, ly_cI, st_i (i := 2) 2 rfl, ls_455 h (by omega) (by omega), mx_un (by omega), lc_108 h, mx_numF h (by omega), ly_cI, st_i (i := 3) 3 rfl, ls_455 h (by omega) (by omega), mx_un (by omega), j107_s (Or.inl rfl), j225_F h (by omega) ⟨hk.1, hk.2.1⟩, ly_cV]
    show rO c w S K K2 P2 Q2 I0 J0 x G2 (FCl 0 _) _
    exact hno _ _ _ _ _ _ _ _ oI (only_u (only_u (only_u (only_u oJ (by unfold QW; omega)) (by unfold QW; omega)) (by unfold QW; omega)) (by unfold QW; omega)) hk
end WKS
