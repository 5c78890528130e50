/-! a call of the one and of the other: refusals, texts opened -/
section CAL
variable {c w : Nat} {S : Nat → pmS} {I I1 I2 J : Nat → Nat → Int32} {K K1 : Nat → Nat → Int64} {T : Nat → Nat} {L p g n : Nat} {s v x : Int32}
def xS (c : Nat) (S : Nat → pmS) : Nat → pmS := fun i => if i = c then (199, 0, fun _ => none) else S i
def xI (c : Nat) (I : Nat → Nat → Int32) : Nat → Nat → Int32 := fun i j => if i = c then 0 else I i j
def xK (c : Nat) (K : Nat → Nat → Int64) : Nat → Nat → Int64 := fun i j => if i = c then 0 else K i j
theorem ly_x (h : ly c S) : ly (c + 1) (xS c S) := by
  have h1 := h.1
  refine ⟨by omega, fun a ha hb => ?_⟩
  simp only [xS]
  rw [if_neg (by omega)]
  exact h.2 a ha hb
theorem xI_n {i j : Nat} (h : ly c S) (hi : i < 595) : xI c I i j = I i j := if_neg (by have := h.1; omega)
theorem mu_no (h : ly c S) : X8_must 64 0 (c, w, S, I, K) = some (.inr 1, (c + 1, w + 6, xS c S, xI c (ly_u I 64 14 (I 64 14 + 1)), xK c K)) := by
  unfold X8_must
  rw [if_pos (by first | decide | rfl), lg_64 h, lp_64 h]
  rfl
theorem mu_ok {m : pmM} : X8_must 64 1 m = pm_oV m := by
  unfold X8_must
  rw [if_neg (by decide)]
/-- the memory behind a refusal of the class: 14 an argument, 13 no such one -/
def rI (c : Nat) (I : Nat → Nat → Int32) (k : Nat) : Nat → Nat → Int32 := xI c (ly_u I 64 (13 + k) (I 64 (13 + k) + 1))
/-- a refusal -/
abbrev rX (c w : Nat) (S : Nat → pmS) (I : Nat → Nat → Int32) (K : Nat → Nat → Int64) (k : Nat) : pmR := some (.inr k, (c + 1, w + 6, xS c S, rI c I k, xK c K))
theorem mu_cV {f : pmM → pmR} (h : ly c S) : pm_cV (X8_must 64 0 (c, w, S, I, K)) f = rX c w S I K 1 := by rw [mu_no h]; rfl
theorem mu_cV1 {m : pmM} {f : pmM → pmR} : pm_cV (X8_must 64 1 m) f = f m := by rw [mu_ok]; rfl
theorem rx_cV {f : pmM → pmR} {k : Nat} : pm_cV (rX c w S I K k) f = rX c w S I K k := rfl
theorem rx_cI {f : Int32 → pmM → pmR} {k : Nat} : pm_cI (rX c w S I K k) f = rX c w S I K k := rfl
/-- the script, and the relation -/
def jx (I0 : Nat → Int32) (I : Nat → Nat → Int32) : Prop := (∀ j, I 0 j = I0 j) ∧ ∃ n wd q r a se W G, JJ I n wd q r a se W G
/-- the one answers or refuses, the other likewise; e: how a refusal is called -/
def ag (vl : Value → Prop) (I0 : Nat → Int32) (c w : Nat) (S : Nat → pmS) (e : Nat → Nat) (RC : pmR) (FM : pmM → pmR) : Prop :=
  ∃ c1 w1 S1 I1 K1, (c ≤ c1 ∧ c1 ≤ c + 1 ∧ w1 ≤ w + 6 ∧ ly c1 S1 ∧ S1 0 = S 0 ∧ ∀ j, I1 0 j = I0 j) ∧
    ((∃ v, vl v ∧ RC = some (.inl (some v), (c1, w1, S1, I1, K1)) ∧ ∀ K2, ∃ I2 K3, FM (c1, w1, S1, I1, K2) = some (.inl (some v), (c1, w1, S1, I2, K3)) ∧ I2 108 0 = nI 0 ∧ jx I0 I2 ∧ K3 594 0 = K2 594 0) ∨
     (∃ k b, (k = 0 ∨ k = 1) ∧ 0 < e k ∧ vl b ∧ RC = some (.inr k, (c1, w1, S1, I1, K1)) ∧ ∀ K2, ∃ I2 K3, FM (c1, w1, S1, I1, K2) = some (.inl (some b), (c1, w1, S1, I2, K3)) ∧ I2 108 0 = nI (e k) ∧ jx I0 I2 ∧ K3 594 0 = K2 594 0))
def isI (v : Value) : Prop := ∃ y, v = .int y
def isL (v : Value) : Prop := ∃ y, v = .long y
variable {nn : Nat} {wd : Nat → Nat} {q : Nat → Nat → Nat} {r : Nat → Int32} {a : Nat} {se : Nat → Nat} {W G : Nat}
theorem sc_z {j : Nat} : ¬ sc 0 j := by unfold sc; omega
theorem jx_same (h : jx (I 0) I) (hs : same I I1) : jx (I 0) I1 := by
  obtain ⟨h1, n, wd, q, r, a, se, W, G, hJ⟩ := h
  exact ⟨fun j => hs 0 j sc_z, n, wd, q, r, a, se, W, G, JJ_same hJ hs⟩
/-- an answer that changes nothing -/
theorem ag_ro {vl : Value → Prop} {e : Nat → Nat} {RC : pmR} {FM : pmM → pmR} {v : Value} {I1 : Nat → Nat → Int32} (h : ly c S) (hJ : JJ I nn wd q r a se W G) (hv : vl v) (h1 : RC = some (.inl (some v), (c, w, S, I1, K1))) (hs : same I I1) (h2 : JJ I1 nn wd q r a se W G → ∀ K2, ∃ I2 K3, FM (c, w, S, I1, K2) = some (.inl (some v), (c, w, S, I2, K3)) ∧ I2 108 0 = nI 0 ∧ same I1 I2 ∧ K3 594 0 = K2 594 0) : ag vl (I 0) c w S e RC FM := by
  refine ⟨c, w, S, I1, K1, ⟨by omega, by omega, by omega, h, rfl, fun j => hs 0 j sc_z⟩, Or.inl ⟨v, hv, h1, fun K2 => ?_⟩⟩
  obtain ⟨I2, K3, g1, g2, g3, g4⟩ := h2 (JJ_same hJ hs) K2
  exact ⟨I2, K3, g1, g2, ⟨fun j => (g3 0 j sc_z).trans (hs 0 j sc_z), nn, wd, q, r, a, se, W, G, JJ_same (JJ_same hJ hs) g3⟩, g4⟩
/-- a refusal of the one and of the other -/
theorem bad_1 {k e : Nat} (h : ly c S) (hk : k < 2) (he : 0 < e ∧ e < 4) (h0 : I 108 0 = nI 0) : X9_bad 108 1 (nI e) (nI k) (c, w, S, I, K) = pm_oI 1 (c, w, S, ly_u (ly_u I 108 0 (nI e)) 110 k (I 110 k + 1), K) := by
  unfold X9_bad X9_bad_j26 X9_bad_j38
  have e2 : ly_u I 108 0 (nI e) 110 k = I 110 k := by rw [ly_uE, if_neg (by omega)]
  have e1 : ∀ y, ly_u (ly_u I 108 0 (nI e)) 110 k y 108 0 = nI e := fun y => by rw [ly_uE, if_neg (by omega), ly_uE, if_pos ⟨rfl, rfl⟩]
  rw [i10, lg_108 h, h0, n00, lp_108 h, lr_108_10 h, ld_110 h hk, e2, ls_110 h hk, lg_108 h, e1, if_neg (nI_ne0 he.1 (by omega))]
  rfl
theorem bad_0 {e k : Int32} (h : ly c S) (h0 : I 108 0 = nI 0) : X9_bad 108 0 e k (c, w, S, I, K) = pm_oI 0 (c, w, S, I, K) := by
  unfold X9_bad X9_bad_j26 X9_bad_j38
  rw [if_pos (by first | decide | rfl), lg_108 h, h0, if_pos (by first | decide | rfl)]
  rfl
/-- the memory behind a refusal of the model -/
def bI (I : Nat → Nat → Int32) (e k : Nat) : Nat → Nat → Int32 := ly_u (ly_u (ly_u I 108 0 (nI 0)) 108 0 (nI e)) 110 k (I 110 k + 1)
theorem JJ_bad {k e : Nat} (h : ly c S) (hk : k < 2) (hJ : JJ I nn wd q r a se W G) : JJ (bI (rI c I k) e k) nn wd q r a se W G := by
  have hc := h.1
  have ho : ∀ i j, i < 595 → ¬ (i = 64 ∧ j = 13 + k) → ¬ (i = 108 ∧ j = 0) → ¬ (i = 110 ∧ j = k) → bI (rI c I k) e k i j = I i j := by
    intro i j hi h1 h2 h3
    unfold bI rI
    rw [ly_uE, if_neg h3, ly_uE, if_neg h2, ly_uE, if_neg h2, xI_n h hi, ly_uE, if_neg h1]
  obtain ⟨h1, h2, h3, h4, h5, h6, h7, h8, h9, h10, h11⟩ := hJ
  refine ⟨pg_C_c h1 ?_, pg_M_c h2 ?_, dk_C_c h3 ?_, dk_M_c h4 ?_, h5, jt_c h6 ?_, js_c h7 ?_, jh_c h8 ?_, ?_, jk_c h10 ?_, jl_c h11 ?_⟩
  · intro i j hd; unfold dPC at hd; exact ho i j (by omega) (by omega) (by omega) (by omega)
  · intro i j hd; unfold dPM at hd; exact ho i j (by omega) (by omega) (by omega) (by omega)
  · intro i j hd; unfold dDC at hd; exact ho i j (by omega) (by omega) (by omega) (by omega)
  · intro i j hd; unfold dDM at hd; exact ho i j (by omega) (by omega) (by omega) (by omega)
  · intro i j hd; unfold dT at hd; exact ho i j (by omega) (by omega) (by omega) (by omega)
  · intro i j hd; unfold dS at hd; exact ho i j (by omega) (by omega) (by omega) (by omega)
  · intro i j hd; unfold dH at hd; exact ho i j (by omega) (by omega) (by omega) (by omega)
  · obtain ⟨a1, a2, a3⟩ := h9
    have e64 : bI (rI c I k) e k 64 (13 + k) = I 64 (13 + k) + 1 := by
      unfold bI rI
      rw [ly_uE, if_neg (by omega), ly_uE, if_neg (by omega), ly_uE, if_neg (by omega), xI_n h (by omega), ly_uE, if_pos ⟨rfl, rfl⟩]
    have e110 : bI (rI c I k) e k 110 k = I 110 k + 1 := by
      unfold bI rI
      rw [ly_uE, if_pos ⟨rfl, rfl⟩, xI_n h (by omega), ly_uE, if_neg (by omega)]
    have hk2 : k = 0 ∨ k = 1 := by omega
    refine ⟨?_, ?_, ?_⟩
    · rw [ho 64 12 (by omega) (by omega) (by omega) (by omega), ho 108 35 (by omega) (by omega) (by omega) (by omega)]; exact a1
    · rcases hk2 with rfl | rfl
      · rw [e64, e110, a2]
      · rw [ho 64 13 (by omega) (by omega) (by omega) (by omega), ho 110 0 (by omega) (by omega) (by omega) (by omega)]; exact a2
    · rcases hk2 with rfl | rfl
      · rw [ho 64 14 (by omega) (by omega) (by omega) (by omega), ho 110 1 (by omega) (by omega) (by omega) (by omega)]; exact a3
      · rw [e64, e110, a3]
  · intro i j hd; unfold dK at hd; exact ho i j (by omega) (by omega) (by omega) (by omega)
  · intro i j hd; unfold dL at hd; exact ho i j (by omega) (by omega) (by omega) (by omega)
theorem ag_no {vl : Value → Prop} {e : Nat → Nat} {RC : pmR} {FM : pmM → pmR} {b : Value} {k : Nat} (h : ly c S) (hJ : JJ I nn wd q r a se W G) (hk : k < 2) (hb : vl b) (h1 : RC = rX c w S I K k) (h2 : ∀ c1 w1 S1 I1 K2, ly c1 S1 → (∀ i j, i < 595 → i ≠ 64 → I1 i j = I i j) → FM (c1, w1, S1, I1, K2) = some (.inl (some b), (c1, w1, S1, bI I1 (e k) k, K2))) (he : 0 < e k := by decide) : ag vl (I 0) c w S e RC FM := by
  have hc := h.1
  refine ⟨c + 1, w + 6, xS c S, rI c I k, xK c K, ⟨by omega, by omega, by omega, ly_x h, if_neg (by omega), fun j => by unfold rI; rw [xI_n h (by omega), ly_uE, if_neg (by omega)]⟩, Or.inr ⟨k, b, by omega, he, hb, h1, fun K2 => ?_⟩⟩
  refine ⟨_, _, h2 _ _ _ _ K2 (ly_x h) (fun i j hi hn => by unfold rI; rw [xI_n h hi, ly_uE, if_neg (by omega)]), ?_, ⟨fun j => ?_, nn, wd, q, r, a, se, W, G, JJ_bad h hk hJ⟩, rfl⟩
  · unfold bI
    rw [ly_uE, if_neg (by omega), ly_uE, if_pos ⟨rfl, rfl⟩]
  · unfold bI rI
    rw [ly_uE, if_neg (by omega), ly_uE, if_neg (by omega), ly_uE, if_neg (by omega), xI_n h (by omega), ly_uE, if_neg (by omega)]
/-- the model's beginning: nothing thrown -/
theorem z0 : ly_u I 108 0 (nI 0) 108 0 = nI 0 := by rw [ly_uE, if_pos ⟨rfl, rfl⟩]
theorem bad_n {k e : Nat} (h : ly c S) (hk : k < 2) (he : 0 < e ∧ e < 4) : X9_bad 108 1 (nI e) (nI k) (c, w, S, ly_u I 108 0 (nI 0), K) = pm_oI 1 (c, w, S, bI I e k, K) := by
  rw [bad_1 h hk he z0]
  unfold bI
  rw [ly_uE (I := I), if_neg (by omega)]
/-- the class's text, opened -/
def opn (I : Nat → Nat → Int32) (N : Nat) : Nat → Nat → Int32 := ly_u (ly_u (ly_u (ly_u (ly_u I 65 2 (nI N)) 65 1 (nI 0)) 65 3 (nI 0)) 65 6 (nI 0)) 65 7 (-1)
theorem op_ok {N F : Nat} {most : Int32} (h : ly c S) (hF : I 65 1 = nI F) (hF6 : F ≤ 600) (hN : N ≤ F) (hm : nI N ≤ most) : X8_openText 64 (nI N) most (c, w, S, I, K) = pm_oV (c, w, S, opn I N, K) := by
  unfold X8_openText X8_openText_j26 X7_open
  rw [if_neg (nI_pos (by omega)), if_neg (Int32.not_lt.mpr hm), lr_64_0 h, lg_65 h, hF, if_neg (nI_nlt hN (by omega)), lc_64 h, mu_cV1, lr_64_0 h, lc_65 h, if_neg (show ¬ (600 : Int32) < nI N from fun e9 => by have := (nI_ltI (a := 600) (by omega) (by omega)).mp e9; omega), lp_65 h, lp_65 h, lp_65 h, lp_65 h, lp_65 h]
  rfl
theorem op_no {F : Nat} {y most : Int32} (h : ly c S) (hF : I 65 1 = nI F) (hn : ¬ (0 ≤ y ∧ y ≤ most ∧ y ≤ nI F)) : X8_openText 64 y most (c, w, S, I, K) = rX c w S I K 1 := by
  have e : X8_openText_j25 64 y 64 (c, w, S, I, K) = rX c w S I K 1 := by
    unfold X8_openText_j25 X8_openText_j26
    rw [lc_64 h, mu_cV h]
  unfold X8_openText
  by_cases h1 : y < 0
  · rw [if_pos h1, e]
  · by_cases h2 : most < y
    · rw [if_neg h1, if_pos h2, e]
    · rw [if_neg h1, if_neg h2, lr_64_0 h, lg_65 h, hF]
      by_cases h3 : nI F < y
      · rw [if_pos h3, e]
      · exact absurd ⟨Int32.not_lt.mp h1, Int32.not_lt.mp h2, Int32.not_lt.mp h3⟩ hn
/-- the model's text, opened: nothing of it is a blank ahead -/
def mst (I : Nat → Nat → Int32) (N : Nat) : Nat → Nat → Int32 := ly_u (ly_u (ly_u (ly_u I 108 1 (nI 0)) 108 2 (nI N)) 108 7 (nI 0)) 108 8 (nI 0)
theorem ms_ok {N : Nat} (h : ly c S) (hN : N ≤ 600) (hB : ∀ k, k < 600 → I 109 k = nI (T k) ∧ T k < 256) : X9_starts 108 (nI N) (c, w, S, I, K) = pm_oV (c, w, S, mx (mst I N) (tS T N 0) 0 (-1), K) ∧ mB (mst I N) T N := by
  have hM : mB (mst I N) T N := by
    refine ⟨?_, hN, fun k hk => ?_⟩
    · unfold mst; simp (disch := omega) only [ly_uE, if_neg, if_pos, and_self, if_true]
    · unfold mst; simp (disch := omega) only [ly_uE, if_neg]; exact hB k hk
  refine ⟨?_, hM⟩
  have e : ly_u (ly_u (ly_u (ly_u (ly_u (ly_u (ly_u I 108 1 (nI 0)) 108 2 (nI N)) 108 4 (nI 0)) 108 5 (nI 0)) 108 6 (-1)) 108 7 (nI 0)) 108 8 (nI 0) = mx (mst I N) 0 0 (-1) := by
    funext i j
    by_cases hi : i = 108
    · subst hi
      simp only [ly_u, mx, mst, true_and, if_true]
      by_cases h4 : j = 4
      · subst h4; simp
      · by_cases h5 : j = 5
        · subst h5; simp
        · by_cases h6 : j = 6
          · subst h6; simp
          · simp [h4, h5, h6]
    · simp [ly_u, mx, mst, hi]
  unfold X9_starts
  rw [lp_108 h, lp_108 h, lp_108 h, lp_108 h, lp_108 h, lp_108 h, lp_108 h, lc_108 h, nl_0, e, mx_blanks h hM (by omega), ly_cV]
end CAL
