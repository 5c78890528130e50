/-! what is kept to be taken back: the class's rows -/
section SHF
variable {c w : Nat} {S : Nat → pmS} {I I1 I2 J : Nat → Nat → Int32} {K K1 : Nat → Nat → Int64} {n : Nat} {wd : Nat → Nat} {q : Nat → Nat → Nat} {r : Nat → Int32} {a : Nat} {se : Nat → Nat} {W G d p : Nat}
theorem wt_C (h : ly c S) (hp : p + 14 ≤ 938) (hC : dk_C I 93 r) : ∃ I1, X0_writeTo 93 100 (nI p) (c, w, S, I, K) = pm_oV (c, w, S, I1, K) ∧ dk_R I1 p r ∧ only (fun i j => i = 100 ∧ p ≤ j ∧ j < p + 14) I I1 := by
  obtain ⟨h1, h2, h3, h4, h5, h6⟩ := hC
  unfold X0_writeTo
  rw [lr_93_2 h, lcp (x := 0) (y := nI p) (z := 6) (sp := 0) (dp := p) (m := 6) 6 938 h rfl rfl rfl rfl (by omega) (by omega) (by omega) (by omega) rfl rfl rfl, lr_93_3 h, show nI p + (6 : Int32) = nI (p + 6) from nI_add p 6, lcp (x := 0) (y := nI (p + 6)) (z := 4) (sp := 0) (dp := p + 6) (m := 4) 4 938 h rfl rfl rfl rfl (by omega) (by omega) (by omega) (by omega) rfl rfl rfl, show nI (p + 6) + (4 : Int32) = nI (p + 10) from nI_add (p + 6) 4, ly_bI, lg_93 h, ls_100 h (by omega), lg_93 h, show nI (p + 10) + (1 : Int32) = nI (p + 11) from nI_add (p + 10) 1, ls_100 h (by omega), lg_93 h, show nI (p + 10) + (2 : Int32) = nI (p + 12) from nI_add (p + 10) 2, ls_100 h (by omega), lg_93 h, show nI (p + 10) + (3 : Int32) = nI (p + 13) from nI_add (p + 10) 3, ls_100 h (by omega)]
  have e4 : ly_c (ly_c I 94 0 100 p 6) 95 0 100 (p + 6) 4 93 4 = I 93 4 := by rw [ly_cE, if_neg (by omega), ly_cE, if_neg (by omega)]
  have e5 : ly_c (ly_c I 94 0 100 p 6) 95 0 100 (p + 6) 4 93 5 = I 93 5 := by rw [ly_cE, if_neg (by omega), ly_cE, if_neg (by omega)]
  have e6 : ly_c (ly_c I 94 0 100 p 6) 95 0 100 (p + 6) 4 93 6 = I 93 6 := by rw [ly_cE, if_neg (by omega), ly_cE, if_neg (by omega)]
  have e7 : ly_c (ly_c I 94 0 100 p 6) 95 0 100 (p + 6) 4 93 7 = I 93 7 := by rw [ly_cE, if_neg (by omega), ly_cE, if_neg (by omega)]
  have ec : ∀ l, l < 6 → ly_c (ly_c I 94 0 100 p 6) 95 0 100 (p + 6) 4 100 (p + l) = I 94 l := fun l hl => by
    rw [ly_cE, if_neg (by omega), ly_cE, if_pos ⟨rfl, by omega, by omega⟩]
    congr 1; omega
  have ed : ∀ k, k < 4 → ly_c (ly_c I 94 0 100 p 6) 95 0 100 (p + 6) 4 100 (p + 6 + k) = I 95 k := fun k hk => by
    rw [ly_cE, if_pos ⟨rfl, by omega, by omega⟩, ly_cE, if_neg (by omega)]
    congr 1; omega
  have eo : ∀ i j, ¬ (i = 100 ∧ p ≤ j ∧ j < p + 14) → ly_c (ly_c I 94 0 100 p 6) 95 0 100 (p + 6) 4 i j = I i j := fun i j hn => by rw [ly_cE, if_neg (by omega), ly_cE, if_neg (by omega)]
  generalize ly_c (ly_c I 94 0 100 p 6) 95 0 100 (p + 6) 4 = B at e4 e5 e6 e7 ec ed eo ⊢
  refine ⟨_, rfl, ⟨fun l hl => ?_, fun k hk => ?_, ?_, ?_, ?_, ?_⟩, fun i j hn => ?_⟩
  · simp (disch := omega) only [ly_uE, if_neg]
    rw [ec l hl]; exact h1 l hl
  · simp (disch := omega) only [ly_uE, if_neg]
    rw [ed k hk]; exact h2 k hk
  · simp (disch := omega) only [ly_uE, if_neg, if_pos, and_self, if_true]
    rw [e4]; exact h4
  · simp (disch := omega) only [ly_uE, if_neg, if_pos, and_self, if_true]
    rw [e5]; exact h3
  · simp (disch := omega) only [ly_uE, if_neg, if_pos, and_self, if_true]
    rw [e6]; exact h5
  · simp (disch := omega) only [ly_uE, if_neg, if_pos, and_self, if_true]
    rw [e7]; exact h6
  · simp only at hn
    simp (disch := omega) only [ly_uE, if_neg]
    exact eo i j hn
def PK (i j : Nat) : Prop := (i = 93 ∧ 4 ≤ j ∧ j ≤ 7) ∨ i = 94 ∨ i = 95
theorem rb_C (h : ly c S) (hp : p + 14 ≤ 938) (hR : dk_R I p r) : ∃ I1, X0_readBack 93 100 (nI p) (c, w, S, I, K) = pm_oV (c, w, S, I1, K) ∧ dk_C I1 93 r ∧ only PK I I1 := by
  obtain ⟨h1, h2, h3, h4, h5, h6⟩ := hR
  unfold X0_readBack
  rw [lr_93_2 h, lcp (x := nI p) (y := 0) (z := 6) (sp := p) (dp := 0) (m := 6) 938 6 h rfl rfl rfl rfl (by omega) (by omega) (by omega) (by omega) rfl rfl rfl, lr_93_3 h, show nI p + (6 : Int32) = nI (p + 6) from nI_add p 6, lcp (x := nI (p + 6)) (y := 0) (z := 4) (sp := p + 6) (dp := 0) (m := 4) 938 4 h rfl rfl rfl rfl (by omega) (by omega) (by omega) (by omega) rfl rfl rfl, show nI (p + 6) + (4 : Int32) = nI (p + 10) from nI_add (p + 6) 4, ly_bI, ld_100 h (by omega), lp_93 h, show nI (p + 10) + (1 : Int32) = nI (p + 11) from nI_add (p + 10) 1, ld_100 h (by omega), lp_93 h, show nI (p + 10) + (2 : Int32) = nI (p + 12) from nI_add (p + 10) 2, ld_100 h (by omega), lp_93 h, show nI (p + 10) + (3 : Int32) = nI (p + 13) from nI_add (p + 10) 3, ld_100 h (by omega), lp_93 h]
  have ec : ∀ l, l < 6 → ly_c (ly_c I 100 p 94 0 6) 100 (p + 6) 95 0 4 94 l = I 100 (p + l) := fun l hl => by
    rw [ly_cE, if_neg (by omega), ly_cE, if_pos ⟨rfl, by omega, by omega⟩]
    congr 1
  have ed : ∀ k, k < 4 → ly_c (ly_c I 100 p 94 0 6) 100 (p + 6) 95 0 4 95 k = I 100 (p + 6 + k) := fun k hk => by
    rw [ly_cE, if_pos ⟨rfl, by omega, by omega⟩, ly_cE, if_neg (by omega)]
    congr 1
  have eo : ∀ i j, i ≠ 94 → i ≠ 95 → ly_c (ly_c I 100 p 94 0 6) 100 (p + 6) 95 0 4 i j = I i j := fun i j n1 n2 => by rw [ly_cE, if_neg (by omega), ly_cE, if_neg (by omega)]
  generalize ly_c (ly_c I 100 p 94 0 6) 100 (p + 6) 95 0 4 = B at ec ed eo ⊢
  have b10 : B 100 (p + 10) = r 11 := by rw [eo _ _ (by omega) (by omega)]; exact h3
  have b11 : B 100 (p + 11) = r 10 := by rw [eo _ _ (by omega) (by omega)]; exact h4
  have b12 : B 100 (p + 12) = r 12 := by rw [eo _ _ (by omega) (by omega)]; exact h5
  have b13 : B 100 (p + 13) = r 13 := by rw [eo _ _ (by omega) (by omega)]; exact h6
  refine ⟨_, rfl, ⟨fun l hl => ?_, fun k hk => ?_, ?_, ?_, ?_, ?_⟩, fun i j hn => ?_⟩
  · simp (disch := omega) only [ly_uE, if_neg]
    rw [ec l hl]; exact h1 l hl
  · simp (disch := omega) only [ly_uE, if_neg]
    rw [ed k hk]; exact h2 k hk
  · simp (disch := omega) only [ly_uE, if_neg, if_pos, and_self, if_true]
    exact b11
  · simp (disch := omega) only [ly_uE, if_neg, if_pos, and_self, if_true]
    exact b10
  · simp (disch := omega) only [ly_uE, if_neg, if_pos, and_self, if_true]
    exact b12
  · simp (disch := omega) only [ly_uE, if_neg, if_pos, and_self, if_true]
    exact b13
  · unfold PK at hn
    simp (disch := omega) only [ly_uE, if_neg]
    exact eo i j (by omega) (by omega)
/-- rows of the shelf at an earlier count of works -/
theorem jh_w {W2 : Nat} (hH : jh I n wd W G) (hW2 : W2 ≤ W) (e1 : I2 99 2 = nI W2) (e2 : I2 108 34 = nI W2) (ho : ∀ i j, dH i j → ¬ (i = 99 ∧ j = 2) → ¬ (i = 108 ∧ j = 34) → I2 i j = I i j) : jh I2 n wd W2 G := by
  obtain ⟨h1, h2, h3, h4, h5, h6, h7, h8, h9, h10⟩ := hH
  have e100 : ∀ p, I2 100 p = I 100 p := fun p => ho 100 p (by unfold dH; omega) (by omega) (by omega)
  refine ⟨by omega, h2, e1, e2, ?_, ?_, fun v hv => ?_, fun v hv => ?_, fun g hg => ⟨?_, ?_, fun v hv => ?_⟩, fun g hg => ?_⟩
  · rw [ho 99 3 (by unfold dH; omega) (by omega) (by omega)]; exact h5
  · rw [ho 108 36 (by unfold dH; omega) (by omega) (by omega)]; exact h6
  · exact dk_R_eq (h7 v hv) (fun k _ => ho _ _ (by unfold dH; omega) (by omega) (by omega)) (fun k _ => e100 _)
  · exact dk_W_eq (h8 v (by omega)) (fun k _ => ho _ _ (by unfold dH; omega) (by omega) (by omega))
  · exact dk_R_eq (h9 g hg).1 (fun k _ => ho _ _ (by unfold dH; omega) (by omega) (by omega)) (fun k _ => e100 _)
  · rw [ho 101 g (by unfold dH; omega) (by omega) (by omega), ho (555 + g) 0 (by unfold dH; omega) (by omega) (by omega)]; exact (h9 g hg).2.1
  · exact dk_R_eq ((h9 g hg).2.2 v hv) (fun k _ => ho _ _ (by unfold dH; omega) (by omega) (by omega)) (fun k _ => e100 _)
  · obtain ⟨a1, V, a2, a3, a4⟩ := h10 g hg
    refine ⟨dk_W_eq a1 (fun k _ => ho _ _ (by unfold dH; omega) (by omega) (by omega)), V, a2, ?_, fun v hv => dk_W_eq (a4 v hv) (fun k _ => ho _ _ (by unfold dH; omega) (by omega) (by omega))⟩
    rw [ho (555 + g) 0 (by unfold dH; omega) (by omega) (by omega)]; exact a3
theorem ca_undo (h : ly c S) (hJ : JJ I n wd q r a se W G) : ag isI (I 0) c w S (fun _ => 0) (X8_undo 64 (c, w, S, I, K)) (X9_undo 108) := by
  obtain ⟨hPC, hPM, hDC, hDM, hr, hT, hS, hH, hc, hk, hL⟩ := id hJ
  have e2 := hH.2.2.1
  have e34 := hH.2.2.2.1
  have hW16 := hH.1
  by_cases hW : W = 0
  · subst hW
    refine ag_ro (v := .int (-1)) (I1 := I) (K1 := K) h hJ ⟨_, rfl⟩ ?_ same_r (fun hJ1 K2 => ⟨ly_u I 108 0 0, K2, ?_, z0', s0, rfl⟩)
    · unfold X8_undo X5_takeWorkBack
      rw [lr_64_10 h, lr_64_8 h, lc_99 h, lg_99 h, e2, n00, ly_cI, i00]
    · unfold X9_undo
      rw [lp_108 h, lg_108 h, u0 (by omega), e34, n00]
  · have hW0 : 0 < W := by omega
    have hR := hH.2.2.2.2.2.2.1 (W - 1) (by omega)
    have hWr := hH.2.2.2.2.2.2.2.1 (W - 1) (by omega)
    have hR1 : dk_R (ly_u I 99 2 (nI (W - 1))) ((W - 1) * 14) (I (538 + (W - 1))) := dk_R_eq hR (fun _ _ => rfl) (fun k _ => by rw [ly_uE, if_neg (by omega)])
    obtain ⟨A, g1, g2, g3⟩ := rb_C (w := w) (K := K) (p := (W - 1) * 14) h (by omega) hR1
    have eA : ∀ i j, ¬ PK i j → ¬ (i = 99 ∧ j = 2) → A i j = I i j := fun i j n1 n2 => by rw [g3 i j n1, ly_uE, if_neg n2]
    have a2 : A 99 2 = nI (W - 1) := by rw [g3 99 2 (by unfold PK; omega), ly_uE, if_pos ⟨rfl, rfl⟩]
    refine ⟨c, w, S, ly_u A 64 12 0, K, ⟨by omega, by omega, by omega, h, rfl, fun j => by rw [ly_uE, if_neg (by omega)]; exact eA 0 j (by unfold PK; omega) (by omega)⟩, Or.inl ⟨.int (nI (W - 1)), ⟨_, rfl⟩, ?_, fun K2 => ?_⟩⟩
    · unfold X8_undo X5_takeWorkBack
      have u2 : ly_u I 99 2 (nI (W - 1)) 99 2 = nI (W - 1) := by rw [ly_uE, if_pos ⟨rfl, rfl⟩]
      rw [lr_64_10 h, lr_64_8 h, lc_99 h, lg_99 h, e2, if_neg (nI_ne0 hW0 (by omega)), lg_99 h, e2, show nI W - (1 : Int32) = nI (W - 1) from pk_sub (b := 1) (by omega), lp_99 h, lr_99_0 h, lg_99 h, u2, lc_93 h, show nI (W - 1) * (14 : Int32) = nI ((W - 1) * 14) from pk_mul _ 14, g1, ly_cV, ly_cI, i10, lp_64 h, lr_64_10 h, lg_99 h]
      rw [show ly_u A 64 12 0 99 2 = nI (W - 1) by rw [ly_uE, if_neg (by omega)]; exact a2]
    · have hB : ∀ i j, ¬ PK i j → ¬ (i = 99 ∧ j = 2) → ¬ (i = 64 ∧ j = 12) → ly_u A 64 12 0 i j = I i j := fun i j n1 n2 n3 => by rw [ly_uE, if_neg n3]; exact eA i j n1 n2
      generalize hBd : ly_u A 64 12 0 = B at hB
      have dC : dk_C B 93 (I (538 + (W - 1))) := by
        rw [← hBd]
        exact dk_C_c g2 (fun i j e => by unfold dDC at e; rw [ly_uE, if_neg (by omega)])
      have b2 : B 99 2 = nI (W - 1) := by rw [← hBd, ly_uE, if_neg (by omega)]; exact a2
      have b12 : B 64 12 = 0 := by rw [← hBd, ly_uE, if_pos ⟨rfl, rfl⟩]
      have b34 : ly_u B 108 0 0 108 34 = nI W := by rw [u0 (by omega), hB 108 34 (by unfold PK; omega) (by omega) (by omega)]; exact e34
      have hcp : ∃ I1, X9_copies (538 + (W - 1)) 535 (c, w, S, ly_u (ly_u B 108 0 0) 108 34 (nI (W - 1)), K2) = pm_oV (c, w, S, I1, K2) ∧ (∀ k, k < 14 → I1 535 k = ly_u (ly_u B 108 0 0) 108 34 (nI (W - 1)) (538 + (W - 1)) k) ∧ but 535 (ly_u (ly_u B 108 0 0) 108 34 (nI (W - 1))) I1 ∧ ∀ k, 14 ≤ k → I1 535 k = ly_u (ly_u B 108 0 0) 108 34 (nI (W - 1)) 535 k := cp_M h (fun J k f hk => ld_538 h (by omega) hk) (fun J k v f hk => ls_535 h hk) (by omega)
      obtain ⟨E, f1, f2, f3, -⟩ := hcp
      have eE : ∀ i j, i ≠ 535 → ¬ (i = 108 ∧ (j = 0 ∨ j = 34)) → E i j = B i j := fun i j n1 n2 => by rw [f3 i j n1, ly_uE, if_neg (by omega), u0 (by omega)]
      have x34 : E 108 34 = nI (W - 1) := by rw [f3 108 34 (by omega), ly_uE, if_pos ⟨rfl, rfl⟩]
      refine ⟨ly_u E 108 35 0, K2, ?_, ?_, ⟨fun j => ?_, n, wd, q, I (538 + (W - 1)), a, se, W - 1, G, ?_⟩, rfl⟩
      · unfold X9_undo
        rw [lp_108 h, lg_108 h, b34, if_neg (nI_ne0 hW0 (by omega)), lg_108 h, b34, show nI W - (1 : Int32) = nI (W - 1) from pk_sub (b := 1) (by omega), lp_108 h, lr_108_31 h, lg_108 h, show ly_u (ly_u B 108 0 0) 108 34 (nI (W - 1)) 108 34 = nI (W - 1) by rw [ly_uE, if_pos ⟨rfl, rfl⟩], lr_537 h (by omega), lr_108_29 h, f1, ly_cV, lp_108 h, lg_108 h, show ly_u E 108 35 0 108 34 = nI (W - 1) by rw [ly_uE, if_neg (by omega)]; exact x34]
      · rw [ly_uE, if_neg (by omega), f3 108 0 (by omega), ly_uE, if_neg (by omega)]
        exact z0'
      · rw [ly_uE, if_neg (by omega), eE 0 j (by omega) (by omega), hB 0 j (by unfold PK; omega) (by omega) (by omega)]
      · have hF : ∀ i j, i ≠ 535 → ¬ (i = 108 ∧ (j = 0 ∨ j = 34 ∨ j = 35)) → ¬ PK i j → ¬ (i = 99 ∧ j = 2) → ¬ (i = 64 ∧ j = 12) → ly_u E 108 35 0 i j = I i j := fun i j n1 n2 n3 n4 n5 => by
          rw [ly_uE, if_neg (by omega), eE i j n1 (by omega)]; exact hB i j n3 n4 n5
        refine ⟨pg_C_c hPC ?_, pg_M_c hPM ?_, dk_C_c dC ?_, ?_, hWr, jt_c hT ?_, js_c hS ?_, jh_w hH (by omega) ?_ ?_ ?_, ?_, jk_c hk ?_, jl_c hL ?_⟩
        · intro i j e; unfold dPC at e; exact hF i j (by omega) (by omega) (by unfold PK; omega) (by omega) (by omega)
        · intro i j e; unfold dPM at e; exact hF i j (by omega) (by omega) (by unfold PK; omega) (by omega) (by omega)
        · intro i j e; unfold dDC at e; rw [ly_uE, if_neg (by omega)]; exact eE i j (by omega) (by omega)
        · intro k hk; rw [ly_uE, if_neg (by omega), f2 k hk, ly_uE, if_neg (by omega), u0 (by omega), hB _ _ (by unfold PK; omega) (by omega) (by omega)]
        · intro i j e; unfold dT at e; exact hF i j (by omega) (by omega) (by unfold PK; omega) (by omega) (by omega)
        · intro i j e; unfold dS at e; exact hF i j (by omega) (by omega) (by unfold PK; omega) (by omega) (by omega)
        · rw [ly_uE, if_neg (by omega), eE 99 2 (by omega) (by omega)]; exact b2
        · rw [ly_uE, if_neg (by omega)]; exact x34
        · intro i j e n1 n2; unfold dH at e; exact hF i j (by omega) (by omega) (by unfold PK; omega) (by omega) (by omega)
        · refine ⟨?_, ?_, ?_⟩
          · rw [ly_uE, if_neg (by omega), eE 64 12 (by omega) (by omega), b12, ly_uE, if_pos ⟨rfl, rfl⟩]
          · rw [hF 64 13 (by omega) (by omega) (by unfold PK; omega) (by omega) (by omega), hF 110 0 (by omega) (by omega) (by unfold PK; omega) (by omega) (by omega)]; exact hc.2.1
          · rw [hF 64 14 (by omega) (by omega) (by unfold PK; omega) (by omega) (by omega), hF 110 1 (by omega) (by omega) (by unfold PK; omega) (by omega) (by omega)]; exact hc.2.2
        · intro i j e; unfold dK at e; exact hF i j (by omega) (by omega) (by unfold PK; omega) (by omega) (by omega)
        · intro i j e; unfold dL at e; exact hF i j (by omega) (by omega) (by unfold PK; omega) (by omega) (by omega)
end SHF
