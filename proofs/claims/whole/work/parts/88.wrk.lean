/-! work -/
section WKZ
variable {c w : Nat} {S : Nat → pmS} {I I1 I2 J J1 A B E I0 J0 O D : Nat → Nat → Int32} {K K2 : Nat → Nat → Int64} {T : Nat → Nat} {L p g n N m o d e b : Nat} {s v x : Int32} {wd : Nat → Nat} {q : Nat → Nat → Nat} {r : Nat → Int32} {a : Nat} {se : Nat → Nat} {W G : Nat} {lw : (Nat → Int32) → Int32}
/-- what the class's reading and doing may change -/
def RC0 (i j : Nat) : Prop := i = 65 ∨ i = 77 ∨ i = 78 ∨ (87 ≤ i ∧ i ≤ 92) ∨ (i = 93 ∧ 4 ≤ j ∧ j ≤ 7) ∨ i = 94 ∨ i = 95 ∨ (i = 99 ∧ j = 2) ∨ i = 100 ∨ (i = 64 ∧ j = 12)
def RM0 (W i j : Nat) : Prop := (i = 108 ∧ ((1 ≤ j ∧ j ≤ 8) ∨ j = 28 ∨ j = 34 ∨ j = 35 ∨ j = 38 ∨ j = 39)) ∨ (450 ≤ i ∧ i ≤ 451) ∨ (455 ≤ i ∧ i ≤ 535) ∨ i = 538 + W
/-- a fault -/
def wFA (W : Nat) (Cf Jf : Nat → Nat → Int32) (I J : Nat → Nat → Int32) : Prop := (∀ i j, i ≠ 65 → ¬ (87 ≤ i ∧ i ≤ 92) → Cf i j = I i j) ∧ Cf 65 1 = nI 0 ∧ Jf 108 1 = nI 0 ∧ Cf 65 7 = Jf 108 3 ∧ ∀ i j, ¬ (i = 108 ∧ ((1 ≤ j ∧ j ≤ 8) ∨ j = 28)) → ¬ (455 ≤ i ∧ i ≤ 534) → Jf i j = J i j
def wOK (n : Nat) (wd : Nat → Nat) (r : Nat → Int32) (W : Nat) (Cf Jf : Nat → Nat → Int32) (I J : Nat → Nat → Int32) : Prop := ∃ r', (∀ i j, ¬ RC0 i j → Cf i j = I i j) ∧ (∀ j, ¬ (W * 14 ≤ j ∧ j < W * 14 + 14) → Cf 100 j = I 100 j) ∧ Cf 65 1 = nI 0 ∧ Cf 65 7 = -1 ∧ dk_C Cf 93 r' ∧ dk_R Cf (W * 14) r ∧ Cf 99 2 = nI (W + 1) ∧ Cf 64 12 = Jf 108 35 ∧ dk_M Jf 535 r' ∧ dk_W n wd r' ∧ (∀ k, k < 14 → Jf (538 + W) k = r k) ∧ Jf 108 34 = nI (W + 1) ∧ Jf 108 1 = nI 0 ∧ Jf 108 3 = -1 ∧ ∀ i j, ¬ RM0 W i j → Jf i j = J i j
def wcB (n N c w : Nat) (S : Nat → pmS) (I : Nat → Nat → Int32) (K : Nat → Nat → Int64) : pmR := pm_cI (X6_readFrom 87 65 (nI n) (c, w, S, opn I N, K)) fun x9 m8 => if x9 = 0 then (pm_gR 8 64 0 m8 fun r25 => pm_gI 7 r25 6 m8 fun x26 => pm_oI (x26 - 10) m8) else (pm_gR 8 64 10 m8 fun r10 => pm_gR 8 64 8 m8 fun r11 => pm_rc 5 r10 m8 <| pm_cV (X5_keepWork r10 r11 m8) fun m12 => pm_gR 8 64 7 m12 fun r13 => pm_rc 6 r13 m12 <| pm_cV (X6_countAnew r13 m12) fun m14 => pm_gR 8 64 7 m14 fun r15 => pm_gR 8 64 8 m14 fun r16 => pm_gR 8 64 7 m14 fun r17 => pm_gI 6 r17 5 m14 fun x18 => pm_rc 6 r15 m14 <| pm_cV (X6_doSteps_N 10 r15 r16 0 x18 0 m14) fun m19 => pm_gR 8 64 7 m19 fun r20 => pm_gI 6 r20 9 m19 fun x21 => pm_pI 8 64 12 x21 m19 fun m22 => pm_gR 8 64 7 m22 fun r23 => pm_gI 6 r23 8 m22 fun x24 => pm_oI x24 m22)
theorem wk_all (h : ly c S) (hJ : JJ I n wd q r a se W G) (hW : W < 16) (hTT : ∀ k, k < 600 → I 66 k = nI (T k) ∧ I 109 k = nI (T k) ∧ T k < 256) (hN : N ≤ 150) (hJm : ∀ i j, (dPM i j ∨ dDM i j ∨ dL i j ∨ i = 109 ∨ (i = 108 ∧ j = 34)) → J i j = I i j) : ∃ val Cf Jf, wcB n N c w S I K = pm_oI val (c, w, S, Cf, K) ∧ (pm_cV (X9_starts 108 (nI N) (c, w, S, J, K2)) fun m8 => pm_pI 9 108 28 0 m8 fun m9 => pm_lp pm_N (X9_work_L72 108) m9) = pm_oI val (c, w, S, Jf, K2) ∧ (wFA W Cf Jf I J ∨ wOK n wd r W Cf Jf I J) := by
  obtain ⟨hPC, hPM, hDC, hDM, hr, hT, hS, hH, hc, hk, hL⟩ := id hJ
  have hn6 := hPC.1.1
  obtain ⟨hO, hO3, hO1, hO7, hOo⟩ := op_B (N := N) hTT (by omega)
  have hjkO : jk (opn I N) := jk_o (P := fun i _ => i = 65) hk (fun i j hn => hOo i j hn) (fun i j hi => by omega)
  have hJ109 : ∀ k, k < 600 → J 109 k = nI (T k) ∧ T k < 256 := fun k hk => by rw [hJm 109 k (by omega)]; exact ⟨(hTT k hk).2.1, (hTT k hk).2.2⟩
  have hPMJ : pg_M J n wd q := pg_M_c hPM (fun i j e => hJm i j (Or.inl e))
  have hDMJ : dk_M J 535 r := dk_M_c hDM (fun i j e => hJm i j (Or.inr (Or.inl e)))
  have hLJ : jl J := jl_c hL (fun i j e => hJm i j (Or.inr (Or.inr (Or.inl e))))
  have hlwJ : ∀ kn, lwp J kn = lwp I kn := fun kn => lwp_c (by have := jl_m hL; omega) (fun i j e => hJm i j (Or.inr (Or.inr (Or.inl e))))
  have h34J : J 108 34 = nI W := by rw [hJm 108 34 (by omega)]; exact hH.2.2.2.1
  have hmst : ∀ i j, ¬ (i = 108 ∧ (j = 1 ∨ j = 2 ∨ j = 7 ∨ j = 8)) → mst J N i j = J i j := fun i j hn => by unfold mst; rw [ly_uE, if_neg (by omega), ly_uE, if_neg (by omega), ly_uE, if_neg (by omega), ly_uE, if_neg (by omega)]
  have hmst1 : mst J N 108 1 = nI 0 := by unfold mst; simp (disch := omega) only [ly_uE, if_neg, if_pos, and_self, if_true]
  obtain ⟨RM, hrO, hRM⟩ := wk_both (w := w) (K := K) (K2 := K2) (J := J) (O := opn I N) h hjkO hO hO3 hN hn6 hJ109 hPMJ.2.1
  rw [hRM]
  unfold wcB
  rcases hrO with ⟨I1, J1, p1, s1, v1, r1, r2, o1, o2, hG⟩ | ⟨I1, J1, p1, p2, s1, v1, k1, q1, r1, r2, hk1, o1, o2⟩
  · obtain ⟨mm, hm30, g1, g2, g3, g4⟩ := hG
    rw [r1, r2, ly_cI, i10, ly_cV]
    -- the class's memory behind the reading
    have hCm : ∀ i j, i ≠ 65 → ¬ (87 ≤ i ∧ i ≤ 92) → tx I1 p1 s1 v1 i j = I i j := fun i j n1 n2 => by rw [tx_n n1, o1 i j (by unfold PW0; omega), hOo i j n1]
    have hC1 : tx I1 p1 s1 v1 65 1 = nI 0 := by rw [tx_nj (by omega), o1 65 1 (by unfold PW0; omega)]; exact hO1
    have hC7 : tx I1 p1 s1 v1 65 7 = -1 := by rw [tx_nj (by omega), o1 65 7 (by unfold PW0; omega)]; exact hO7
    have hCr : ∀ i j, 87 ≤ i → i ≤ 92 → tx I1 p1 s1 v1 i j = I1 i j := fun i j h1 h2 => tx_n (by omega)
    generalize tx I1 p1 s1 v1 = Cm at hCm hC1 hC7 hCr
    have hDCm : dk_C Cm 93 r := dk_C_c hDC (fun i j e => by unfold dDC at e; exact hCm i j (by omega) (by omega))
    have e99 : Cm 99 2 = nI W := by rw [hCm 99 2 (by omega) (by omega)]; exact hH.2.2.1
    obtain ⟨Ac, w1, w2, w3⟩ := wt_C (w := w) (K := K) (p := W * 14) h (by omega) hDCm
    have hA : ∀ i j, ¬ (i = 100 ∧ W * 14 ≤ j ∧ j < W * 14 + 14) → Ac i j = Cm i j := fun i j hn => w3 i j hn
    have kw : X5_keepWork 99 93 (c, w, S, Cm, K) = pm_oV (c, w, S, ly_u Ac 99 2 (nI (W + 1)), K) := by
      unfold X5_keepWork X5_keepWork_j34
      rw [lg_99 h, e99, if_neg (show ¬ (16 : Int32) ≤ nI W from nI_ge (b := 16) hW (by omega)), lr_99_0 h, lg_99 h, e99, lc_93 h, show nI W * (14 : Int32) = nI (W * 14) from pk_mul W 14, w1, ly_cV, lg_99 h, show Ac 99 2 = nI W by rw [hA 99 2 (by omega)]; exact e99, lp_99 h, nI_1]
    -- the model's memory behind the reading
    have hMm : ∀ i j, ¬ (i = 108 ∧ ((1 ≤ j ∧ j ≤ 8) ∨ j = 28)) → ¬ (455 ≤ i ∧ i ≤ 534) → mx (ly_u J1 108 3 (-1)) p1 0 (-1) i j = J i j := fun i j n1 n2 => by
      by_cases e1 : i = 108
      · subst e1; rw [mx_nj (by omega), ly_uE, if_neg (by omega), o2 108 j (by unfold QW; omega), hmst 108 j (by omega)]
      · rw [mx_n e1, ly_uE, if_neg (by omega), o2 i j (by unfold QW; omega), hmst i j (by omega)]
    have hMr : ∀ i j, 455 ≤ i → i ≤ 534 → mx (ly_u J1 108 3 (-1)) p1 0 (-1) i j = J1 i j := fun i j h1 h2 => by rw [mx_n (by omega), ly_uE, if_neg (by omega)]
    have hM1 : mx (ly_u J1 108 3 (-1)) p1 0 (-1) 108 1 = nI 0 := by rw [mx_nj (by omega), ly_uE, if_neg (by omega), o2 108 1 (by unfold QW; omega)]; exact hmst1
    have hM3 : mx (ly_u J1 108 3 (-1)) p1 0 (-1) 108 3 = -1 := by rw [mx_nj (by omega), ly_uE, if_pos ⟨rfl, rfl⟩]
    have hM28 : mx (ly_u J1 108 3 (-1)) p1 0 (-1) 108 28 = nI mm := by rw [mx_nj (by omega), ly_uE, if_neg (by omega)]; exact g2
    unfold X9_work_j101
    rw [lg_108 h, mx5, n00, lp_108 h, mx_unj (by omega)]
    generalize mx (ly_u J1 108 3 (-1)) p1 0 (-1) = Mm at hMm hMr hM1 hM3 hM28
    have e34 : Mm 108 34 = nI W := by rw [hMm 108 34 (by omega) (by omega)]; exact h34J
    have hcp : ∃ I1, X9_copies 535 (538 + W) (c, w, S, Mm, K2) = pm_oV (c, w, S, I1, K2) ∧ (∀ k, k < 14 → I1 (538 + W) k = Mm 535 k) ∧ but (538 + W) Mm I1 ∧ ∀ k, 14 ≤ k → I1 (538 + W) k = Mm (538 + W) k := cp_M h (fun J k f hk => ld_535 h hk) (fun J k v f hk => ls_538 h (by omega) hk) (by omega)
    obtain ⟨Ec, f1, f2, f3, -⟩ := hcp
    have e34E : Ec 108 34 = nI W := by rw [f3 108 34 (by omega)]; exact e34
    -- both begin
    have hB2 : ∀ i j, i ≠ 65 → ¬ (87 ≤ i ∧ i ≤ 92) → ¬ (i = 100 ∧ W * 14 ≤ j ∧ j < W * 14 + 14) → ¬ (i = 99 ∧ j = 2) → ly_u (ly_u (ly_u (ly_u Ac 99 2 (nI (W + 1))) 87 7 0) 87 8 0) 87 9 0 i j = I i j := fun i j n1 n2 n3 n4 => by
      rw [ly_uE, if_neg (by omega), ly_uE, if_neg (by omega), ly_uE, if_neg (by omega), ly_uE, if_neg (by omega), hA i j n3]; exact hCm i j n1 n2
    have hB65 : ∀ j, ly_u (ly_u (ly_u (ly_u Ac 99 2 (nI (W + 1))) 87 7 0) 87 8 0) 87 9 0 65 j = Cm 65 j := fun j => by
      rw [ly_uE, if_neg (by omega), ly_uE, if_neg (by omega), ly_uE, if_neg (by omega), ly_uE, if_neg (by omega), hA 65 j (by omega)]
    have hBr : ∀ i j, 88 ≤ i → i ≤ 92 → ly_u (ly_u (ly_u (ly_u Ac 99 2 (nI (W + 1))) 87 7 0) 87 8 0) 87 9 0 i j = I1 i j := fun i j h1 h2 => by
      rw [ly_uE, if_neg (by omega), ly_uE, if_neg (by omega), ly_uE, if_neg (by omega), ly_uE, if_neg (by omega), hA i j (by omega)]; exact hCr i j (by omega) h2
    have hB5 : ly_u (ly_u (ly_u (ly_u Ac 99 2 (nI (W + 1))) 87 7 0) 87 8 0) 87 9 0 87 5 = nI mm := by
      rw [ly_uE, if_neg (by omega), ly_uE, if_neg (by omega), ly_uE, if_neg (by omega), ly_uE, if_neg (by omega), hA 87 5 (by omega), hCr 87 5 (by omega) (by omega)]; exact g1
    have hB7 : ly_u (ly_u (ly_u (ly_u Ac 99 2 (nI (W + 1))) 87 7 0) 87 8 0) 87 9 0 87 7 = nI 0 ∧ ly_u (ly_u (ly_u (ly_u Ac 99 2 (nI (W + 1))) 87 7 0) 87 8 0) 87 9 0 87 8 = 0 ∧ ly_u (ly_u (ly_u (ly_u Ac 99 2 (nI (W + 1))) 87 7 0) 87 8 0) 87 9 0 87 9 = 0 := by
      refine ⟨?_, ?_, ?_⟩ <;> simp (disch := omega) only [ly_uE, if_neg, if_pos, and_self, if_true] <;> rfl
    have hB99 : ly_u (ly_u (ly_u (ly_u Ac 99 2 (nI (W + 1))) 87 7 0) 87 8 0) 87 9 0 99 2 = nI (W + 1) := by simp (disch := omega) only [ly_uE, if_neg, if_pos, and_self, if_true]
    have hB100 : dk_R (ly_u (ly_u (ly_u (ly_u Ac 99 2 (nI (W + 1))) 87 7 0) 87 8 0) 87 9 0) (W * 14) r := dk_R_eq w2 (fun _ _ => rfl) (fun k _ => by rw [ly_uE, if_neg (by omega), ly_uE, if_neg (by omega), ly_uE, if_neg (by omega), ly_uE, if_neg (by omega)])
    have da : X6_countAnew 87 (c, w, S, ly_u Ac 99 2 (nI (W + 1)), K) = pm_oV (c, w, S, ly_u (ly_u (ly_u (ly_u Ac 99 2 (nI (W + 1))) 87 7 0) 87 8 0) 87 9 0, K) := by
      unfold X6_countAnew
      rw [lp_87 h, lp_87 h, lp_87 h]
    generalize ly_u (ly_u (ly_u (ly_u Ac 99 2 (nI (W + 1))) 87 7 0) 87 8 0) 87 9 0 = B2 at hB2 hB65 hBr hB5 hB7 hB99 hB100 da
    have hE2 : ∀ i j, i ≠ 538 + W → ¬ (i = 108 ∧ ((1 ≤ j ∧ j ≤ 8) ∨ j = 28 ∨ j = 34 ∨ j = 35 ∨ j = 38 ∨ j = 39)) → ¬ (455 ≤ i ∧ i ≤ 534) → ly_u (ly_u (ly_u (ly_u Ec 108 34 (nI (W + 1))) 108 38 0) 108 39 0) 108 35 0 i j = J i j := fun i j n1 n2 n3 => by
      rw [ly_uE, if_neg (by omega), ly_uE, if_neg (by omega), ly_uE, if_neg (by omega), ly_uE, if_neg (by omega), f3 i j n1]; exact hMm i j (by omega) n3
    have hEr : ∀ i j, 455 ≤ i → i ≤ 534 → ly_u (ly_u (ly_u (ly_u Ec 108 34 (nI (W + 1))) 108 38 0) 108 39 0) 108 35 0 i j = J1 i j := fun i j h1 h2 => by
      rw [ly_uE, if_neg (by omega), ly_uE, if_neg (by omega), ly_uE, if_neg (by omega), ly_uE, if_neg (by omega), f3 i j (by omega)]; exact hMr i j h1 h2
    have hE108 : ∀ j, j ≠ 34 → j ≠ 35 → j ≠ 38 → j ≠ 39 → ly_u (ly_u (ly_u (ly_u Ec 108 34 (nI (W + 1))) 108 38 0) 108 39 0) 108 35 0 108 j = Mm 108 j := fun j n1 n2 n3 n4 => by
      rw [ly_uE, if_neg (by omega), ly_uE, if_neg (by omega), ly_uE, if_neg (by omega), ly_uE, if_neg (by omega), f3 108 j (by omega)]
    have hE3 : ly_u (ly_u (ly_u (ly_u Ec 108 34 (nI (W + 1))) 108 38 0) 108 39 0) 108 35 0 108 38 = nI 0 ∧ ly_u (ly_u (ly_u (ly_u Ec 108 34 (nI (W + 1))) 108 38 0) 108 39 0) 108 35 0 108 39 = 0 ∧ ly_u (ly_u (ly_u (ly_u Ec 108 34 (nI (W + 1))) 108 38 0) 108 39 0) 108 35 0 108 35 = 0 ∧ ly_u (ly_u (ly_u (ly_u Ec 108 34 (nI (W + 1))) 108 38 0) 108 39 0) 108 35 0 108 34 = nI (W + 1) := by
      refine ⟨?_, ?_, ?_, ?_⟩ <;> simp (disch := omega) only [ly_uE, if_neg, if_pos, and_self, if_true] <;> rfl
    have hE538 : ∀ k, k < 14 → ly_u (ly_u (ly_u (ly_u Ec 108 34 (nI (W + 1))) 108 38 0) 108 39 0) 108 35 0 (538 + W) k = r k := fun k hk => by
      rw [ly_uE, if_neg (by omega), ly_uE, if_neg (by omega), ly_uE, if_neg (by omega), ly_uE, if_neg (by omega), f2 k hk, hMm 535 k (by omega) (by omega)]; exact hDMJ k hk
    have em : ly_u (ly_u (ly_u (ly_u Ec 108 34 (nI (W + 1))) 108 38 0) 108 39 0) 108 35 0 108 28 = nI mm := by rw [hE108 28 (by omega) (by omega) (by omega) (by omega)]; exact hM28
    rw [lr_108_29 h, lr_108_31 h, lg_108 h, e34, lr_537 h hW, f1, ly_cV, lg_108 h, e34E, lp_108 h, nI_1, lp_108 h, lp_108 h, lp_108 h, lg_108 h, em, lc_108 h]
    generalize ly_u (ly_u (ly_u (ly_u Ec 108 34 (nI (W + 1))) 108 38 0) 108 39 0) 108 35 0 = M2 at hE2 hEr hE108 hE3 hE538 em
    have hX : XR n wd q (lwp I) B2 M2 r 0 := by
      refine ⟨⟨pg_C_c hPC (fun i j e => by unfold dPC at e; exact hB2 i j (by omega) (by omega) (by omega) (by omega)), jl_c hL (fun i j e => by unfold dL at e; exact hB2 i j (by omega) (by omega) (by omega) (by omega)), fun kn => lwp_c (by have := jl_m hL; omega) (fun i j e => by unfold dL at e; exact hB2 i j (by omega) (by omega) (by omega) (by omega))⟩, ⟨pg_M_c hPMJ (fun i j e => by unfold dPM at e; exact hE2 i j (by omega) (by omega) (by omega)), jl_c hLJ (fun i j e => by unfold dL at e; exact hE2 i j (by omega) (by omega) (by omega)), fun kn => by rw [← hlwJ kn]; exact lwp_c (by have := jl_m hLJ; omega) (fun i j e => by unfold dL at e; exact hE2 i j (by omega) (by omega) (by omega))⟩, dk_C_c hDC (fun i j e => by unfold dDC at e; exact hB2 i j (by omega) (by omega) (by omega) (by omega)), dk_M_c hDMJ (fun i j e => by unfold dDM at e; exact hE2 i j (by omega) (by omega) (by omega)), hr, hB7.1, hE3.1, by omega, by rw [hB7.2.1, hE3.2.1], by rw [hB7.2.2, hE3.2.2.1]⟩
    have hRW : RWw n B2 M2 mm := ⟨hm30, fun k hk => srw_c (g3 k hk) (fun i h1 h2 => hBr i k h1 h2) (fun j => hEr (455 + k) j (by omega) (by omega)) (Nat.le_refl _)⟩
    obtain ⟨If, Jf, r', b', z1, z2, z3, z4, z5⟩ := EX_all (w := w) (K := K) (K2 := K2) (n := n) (wd := wd) (q := q) (lw := lwp I) h 10 6 0 (by omega) (by omega) B2 M2 r 0 mm 0 mm hX hRW (Nat.le_refl _) (by omega) (nst_c g4 (fun k j hk => hEr (455 + k) j (by omega) (by omega)))
    obtain ⟨y1, y2, y3, y4, y5, y6, y7, y8, y9, y10⟩ := z3
    refine ⟨If 87 8, ly_u If 64 12 (If 87 9), Jf, ?_, ?_, Or.inr ⟨r', fun i j hn => ?_, fun j hn => ?_, ?_, ?_, dk_C_c y3 (fun i j e => by unfold dDC at e; rw [ly_uE, if_neg (by omega)]), dk_R_eq hB100 (fun _ _ => rfl) (fun k _ => by rw [ly_uE, if_neg (by omega), z4 100 _ (by unfold PX PD; omega)]), ?_, ?_, y4, y5, fun k hk => ?_, ?_, ?_, ?_, fun i j hn => ?_⟩⟩
    · have z1' : X6_doSteps_N 10 87 93 0 (nI mm) 0 (c, w, S, B2, K) = pm_oV (c, w, S, If, K) := z1
      rw [lr_64_10 h, lr_64_8 h, lc_99 h, kw, ly_cV, lr_64_7 h, lc_87 h, da, ly_cV, lr_64_7 h, lr_64_8 h, lr_64_7 h, lg_87 h, hB5, lc_87 h, z1', ly_cV, lr_64_7 h, lg_87 h, lp_64 h, lr_64_7 h, lg_87 h, ly_uE, if_neg (by omega)]
    · have z2' : X9_goes_N 10 108 0 (nI mm) (c, w, S, M2, K2) = pm_oV (c, w, S, Jf, K2) := z2
      rw [z2', ly_cV, lg_108 h, y9]
    · unfold RC0 at hn
      rw [ly_uE, if_neg (by omega), z4 i j (by unfold PX PD; omega)]
      exact hB2 i j (by omega) (by omega) (by omega) (by omega)
    · rw [ly_uE, if_neg (by omega), z4 100 j (by unfold PX PD; omega)]
      exact hB2 100 j (by omega) (by omega) (by omega) (by omega)
    · rw [ly_uE, if_neg (by omega), z4 65 1 (by unfold PX PD; omega), hB65]; exact hC1
    · rw [ly_uE, if_neg (by omega), z4 65 7 (by unfold PX PD; omega), hB65]; exact hC7
    · rw [ly_uE, if_neg (by omega), z4 99 2 (by unfold PX PD; omega)]; exact hB99
    · rw [ly_uE, if_pos ⟨rfl, rfl⟩]; exact y10
    · rw [z5 (538 + W) k (by unfold QX PR; omega)]; exact hE538 k hk
    · rw [z5 108 34 (by unfold QX PR; omega)]; exact hE3.2.2.2
    · rw [z5 108 1 (by unfold QX PR; omega), hE108 1 (by omega) (by omega) (by omega) (by omega)]; exact hM1
    · rw [z5 108 3 (by unfold QX PR; omega), hE108 3 (by omega) (by omega) (by omega) (by omega)]; exact hM3
    · unfold RM0 at hn
      rw [z5 i j (by unfold QX PR; omega)]
      exact hE2 i j (by omega) (by omega) (by omega)
  · rw [r1, r2, ly_cI, i00, ly_cV]
    have hC6 : tx (tf I1 k1 q1) p1 s1 v1 65 6 = nI k1 := by rw [tx_nj (by omega)]; unfold tf; rw [ly_uE, if_neg (by omega), ly_uE, if_pos ⟨rfl, rfl⟩]
    refine ⟨nI k1 - 10, tx (tf I1 k1 q1) p1 s1 v1, mx (ly_u J1 108 3 (nI q1)) p2 k1 (nI q1), ?_, ?_, Or.inl ⟨fun i j n1 n2 => ?_, ?_, ?_, ?_, fun i j n1 n2 => ?_⟩⟩
    · rw [lr_64_0 h, lg_65 h, hC6]
    · unfold X9_work_j101 X9_faulty
      rw [lg_108 h, mx5, nk0 ⟨hk1.1, hk1.2.1⟩, lc_108 h, lg_108 h, mx6, lp_108 h, mx_unj (by omega), lg_108 h, mx5, ly_cI]
    · rw [tx_n n1]; unfold tf; rw [ly_uE, if_neg (by omega), ly_uE, if_neg (by omega), o1 i j (by unfold PW0; omega), hOo i j n1]
    · rw [tx_nj (by omega)]; unfold tf; rw [ly_uE, if_neg (by omega), ly_uE, if_neg (by omega), o1 65 1 (by unfold PW0; omega)]; exact hO1
    · rw [mx_nj (by omega), ly_uE, if_neg (by omega), o2 108 1 (by unfold QW; omega)]; exact hmst1
    · rw [tx_nj (by omega), mx_nj (by omega), ly_uE, if_pos ⟨rfl, rfl⟩]; unfold tf; rw [ly_uE, if_pos ⟨rfl, rfl⟩]
    · by_cases e1 : i = 108
      · subst e1; rw [mx_nj (by omega), ly_uE, if_neg (by omega), o2 108 j (by unfold QW; omega), hmst 108 j (by omega)]
      · rw [mx_n e1, ly_uE, if_neg (by omega), o2 i j (by unfold QW; omega), hmst i j (by omega)]
/-- rows of the shelf with a work more -/
theorem jh_n {r : Nat → Int32} (hH : jh I n wd W G) (hW : W < 16) (hrW : dk_W n wd r) (e1 : D 99 2 = nI (W + 1)) (e2 : D 108 34 = nI (W + 1)) (hR : dk_R D (W * 14) r) (h538 : ∀ k, k < 14 → D (538 + W) k = r k) (h100 : ∀ j, ¬ (W * 14 ≤ j ∧ j < W * 14 + 14) → D 100 j = I 100 j) (ho : ∀ i j, dH i j → i ≠ 100 → i ≠ 538 + W → ¬ (i = 99 ∧ j = 2) → ¬ (i = 108 ∧ j = 34) → D i j = I i j) : jh D n wd (W + 1) G := by
  obtain ⟨h1, h2, h3, h4, h5, h6, h7, h8, h9, h10⟩ := hH
  refine ⟨by omega, h2, e1, e2, ?_, ?_, fun v hv => ?_, fun v hv => ?_, fun g hg => ⟨?_, ?_, fun v hv => ?_⟩, fun g hg => ?_⟩
  · rw [ho 99 3 (by unfold dH; omega) (by omega) (by omega) (by omega) (by omega)]; exact h5
  · rw [ho 108 36 (by unfold dH; omega) (by omega) (by omega) (by omega) (by omega)]; exact h6
  · by_cases e : v = W
    · subst e; exact dk_R_eq hR (fun k hk => h538 k hk) (fun _ _ => rfl)
    · exact dk_R_eq (h7 v hv) (fun k _ => ho _ _ (by unfold dH; omega) (by omega) (by omega) (by omega) (by omega)) (fun k hk => h100 _ (by omega))
  · by_cases e : v = W
    · subst e; exact dk_W_eq hrW (fun k hk => h538 k hk)
    · exact dk_W_eq (h8 v (by omega)) (fun k _ => ho _ _ (by unfold dH; omega) (by omega) (by omega) (by omega) (by omega))
  · exact dk_R_eq (h9 g hg).1 (fun k _ => ho _ _ (by unfold dH; omega) (by omega) (by omega) (by omega) (by omega)) (fun k _ => h100 _ (by omega))
  · rw [ho 101 g (by unfold dH; omega) (by omega) (by omega) (by omega) (by omega), ho (555 + g) 0 (by unfold dH; omega) (by omega) (by omega) (by omega) (by omega)]; exact (h9 g hg).2.1
  · exact dk_R_eq ((h9 g hg).2.2 v hv) (fun k _ => ho _ _ (by unfold dH; omega) (by omega) (by omega) (by omega) (by omega)) (fun k _ => h100 _ (by omega))
  · obtain ⟨a1, V, a2, a3, a4⟩ := h10 g hg
    refine ⟨dk_W_eq a1 (fun k _ => ho _ _ (by unfold dH; omega) (by omega) (by omega) (by omega) (by omega)), V, a2, ?_, fun v hv => dk_W_eq (a4 v hv) (fun k _ => ho _ _ (by unfold dH; omega) (by omega) (by omega) (by omega) (by omega))⟩
    rw [ho (555 + g) 0 (by unfold dH; omega) (by omega) (by omega) (by omega) (by omega)]; exact a3
theorem ca_work (y : Int32) (h : ly c S) (hJ : JJ I n wd q r a se W G) : ag isI (I 0) c w S (fun k => k) (X8_work 64 y (c, w, S, I, K)) (X9_work 108 y) := by
  obtain ⟨hPC, hPM, hDC, hDM, hr, hT, hS, hH, hc, hk, hL⟩ := id hJ
  obtain ⟨T, hTT⟩ := jt_T hT
  obtain ⟨⟨F, hF6, hF1, hF2⟩, hB, hfa⟩ := id hT
  have hW16 := hH.1
  by_cases hy : 0 ≤ y ∧ y ≤ 150 ∧ y ≤ nI F
  case neg =>
    refine ag_no (K := K) (k := 1) (b := .int 0) h hJ (by omega) ⟨_, rfl⟩ ?_ (fun c1 w1 S1 I1 K2 h1 hI => ?_)
    · unfold X8_work
      rw [lc_64 h, op_no h hF1 hy, rx_cV]
    · have e1 : ly_u I1 108 0 0 108 1 = nI F := by rw [u0 (by omega), hI 108 1 (by omega) (by omega)]; exact hF2
      unfold X9_work X9_work_j25 X9_work_j30
      rw [lp_108 h1, lg_108 h1, e1, rm_in, ly_cI]
      by_cases hy2 : 0 ≤ y ∧ y ≤ nI F
      · rw [decide_eq_true hy2, ib1, if_neg (fun e => hy ⟨hy2.1, e, hy2.2⟩), lc_108 h1, bad_11 h1, ly_cI, i10]
      · rw [decide_eq_false hy2, ib0, lc_108 h1, bad_11 h1, ly_cI, i10]
  obtain ⟨N, hN31, rfl⟩ := nI_of (nI_lt0 hy.1)
  have hNF : N ≤ F := (nI_leI hN31 (by omega)).mp hy.2.2
  have hN : N ≤ 150 := (nI_leI (b := 150) hN31 (by omega)).mp hy.2.1
  obtain ⟨hO, hO3, hO1, hO7, hOo⟩ := op_B (N := N) hTT (by omega)
  have e99O : opn I N 99 2 = nI W := by rw [hOo 99 2 (by omega)]; exact hH.2.2.1
  have hmo : ∀ (Dm : Nat → Nat → Int32) (K2 : Nat → Nat → Int64), Dm 108 1 = nI F → Dm 108 34 = nI W → X9_work 108 (nI N) (c, w, S, Dm, K2) = (if nI W = 16 then (pm_oI (-20) (c, w, S, ly_u (ly_u (ly_u Dm 108 0 0) 108 1 0) 108 3 (-1), K2)) else (pm_cV (X9_starts 108 (nI N) (c, w, S, ly_u Dm 108 0 0, K2)) fun m8 => pm_pI 9 108 28 0 m8 fun m9 => pm_lp pm_N (X9_work_L72 108) m9)) := fun Dm K2 e e34 => by
    unfold X9_work X9_work_j25 X9_work_j30
    rw [lp_108 h, lg_108 h, u0 (by omega), e, rm_in, ly_cI, decide_eq_true ⟨hy.1, hy.2.2⟩, ib1, if_pos hy.2.1, lc_108 h, bad_z h, ly_cI, i00, lg_108 h, u0 (by omega), e34, lp_108 h, lp_108 h, lc_108 h]
  by_cases hW : W < 16
  case neg =>
    have eW : W = 16 := by omega
    refine ⟨c, w, S, opn I N, K, ⟨by omega, by omega, by omega, h, rfl, fun j => hOo 0 j (by omega)⟩, Or.inl ⟨.int (-20), ⟨_, rfl⟩, ?_, fun K2 => ?_⟩⟩
    · unfold X8_work
      rw [lc_64 h, op_ok h hF1 hF6 hNF hy.2.1, ly_cV, lr_64_10 h, lg_99 h, e99O, eW, if_neg (show ¬ nI 16 < 16 by decide)]
    · have eo : ∀ i j, i ≠ 65 → ¬ (i = 108 ∧ (j = 0 ∨ j = 1 ∨ j = 3)) → ly_u (ly_u (ly_u (opn I N) 108 0 0) 108 1 0) 108 3 (-1) i j = I i j := fun i j n1 n2 => by rw [ly_uE, if_neg (by omega), ly_uE, if_neg (by omega), u0 (by omega)]; exact hOo i j n1
      refine ⟨_, K2, by rw [hmo (opn I N) K2 (by rw [hOo 108 1 (by omega)]; exact hF2) (by rw [hOo 108 34 (by omega)]; exact hH.2.2.2.1), eW, if_pos (show nI 16 = 16 from rfl)], by rw [ly_uE, if_neg (by omega), ly_uE, if_neg (by omega)]; exact z0', ⟨fun j => eo 0 j (by omega) (by omega), n, wd, q, r, a, se, W, G, JJ_t hJ (fun i j e n1 n2 => eo i j n1 (by unfold dA dPC dPM dDC dDM dT dS dH dCC dK dL at e; omega)) ⟨⟨0, by omega, ?_, ?_⟩, fun k hk => ?_, ?_⟩⟩, rfl⟩
      · rw [ly_uE, if_neg (by omega), ly_uE, if_neg (by omega), u0 (by omega)]; exact hO1
      · rw [ly_uE, if_neg (by omega), ly_uE, if_pos ⟨rfl, rfl⟩]; rfl
      · rw [eo 66 k (by omega) (by omega), eo 109 k (by omega) (by omega)]; exact hB k hk
      · rw [ly_uE, if_neg (by omega), ly_uE, if_neg (by omega), u0 (by omega), hO7, ly_uE, if_pos ⟨rfl, rfl⟩]
  have hcl : X8_work 64 (nI N) (c, w, S, I, K) = wcB n N c w S I K := by
    unfold X8_work wcB
    rw [lc_64 h, op_ok h hF1 hF6 hNF hy.2.1, ly_cV, lr_64_10 h, lg_99 h, e99O, if_pos (show nI W < 16 from nI_lt (b := 16) hW (by omega)), lr_64_7 h, lr_64_0 h, lr_64_1 h, lg_67 h, hOo 67 3 (by omega), hPC.2.1, lc_87 h]
  obtain ⟨val, Cf, Jf0, k1, -, hfact⟩ := wk_all (w := w) (K := K) (K2 := K) (J := I) h hJ hW hTT hN (fun _ _ _ => rfl)
  have hCo : ∀ i j, ¬ RC0 i j → Cf i j = I i j := by
    rcases hfact with hf | ⟨r', hf, -⟩
    · intro i j hn; unfold RC0 at hn; exact hf.1 i j (by omega) (by omega)
    · exact hf
  refine ⟨c, w, S, Cf, K, ⟨by omega, by omega, by omega, h, rfl, fun j => hCo 0 j (by unfold RC0; omega)⟩, Or.inl ⟨.int val, ⟨_, rfl⟩, by rw [hcl]; exact k1, fun K2 => ?_⟩⟩
  obtain ⟨val2, Cf2, Jf, k3, k4, hfact2⟩ := wk_all (w := w) (K := K) (K2 := K2) (J := ly_u Cf 108 0 0) h hJ hW hTT hN (fun i j e => by
    unfold dPM dDM dL at e
    rw [u0 (by omega)]
    exact hCo i j (by unfold RC0; omega))
  have eqv := oI_inj (k3.symm.trans k1)
  have eC : Cf2 = Cf := m_inj eqv.2
  have ev : val2 = val := eqv.1
  subst eC ev
  have e108 : Cf2 108 1 = nI F := by rw [hCo 108 1 (by unfold RC0; omega)]; exact hF2
  have e34 : Cf2 108 34 = nI W := by rw [hCo 108 34 (by unfold RC0; omega)]; exact hH.2.2.2.1
  have hW16n : ¬ nI W = 16 := fun e => by have := (nI_eq (b := 16) (by omega) (by omega)).mp e; omega
  rcases hfact2 with ⟨a1, a2, a3, a4, a5⟩ | ⟨r', b1, b2, b3, b4, b5, b6, b7, b8, b9, b10, b11, b12, b13, b14, b15⟩
  · have eo : ∀ i j, i ≠ 65 → ¬ (87 ≤ i ∧ i ≤ 92) → ¬ (i = 108 ∧ (j ≤ 8 ∨ j = 28)) → ¬ (455 ≤ i ∧ i ≤ 534) → Jf i j = I i j := fun i j n1 n2 n3 n4 => by rw [a5 i j (by omega) n4, u0 (by omega)]; exact a1 i j n1 n2
    refine ⟨Jf, K2, by rw [hmo Cf2 K2 e108 e34, if_neg hW16n]; exact k4, by rw [a5 108 0 (by omega) (by omega)]; exact z0', ⟨fun j => eo 0 j (by omega) (by omega) (by omega) (by omega), n, wd, q, r, a, se, W, G, JJ_t hJ (fun i j e n1 n2 => eo i j n1 (by unfold dA dPC dPM dDC dDM dT dS dH dCC dK dL at e; omega) (by unfold dA dPC dPM dDC dDM dT dS dH dCC dK dL at e; omega) (by unfold dA dPC dPM dDC dDM dT dS dH dCC dK dL at e; omega)) ⟨⟨0, by omega, ?_, a3⟩, fun k hk => ?_, ?_⟩⟩, rfl⟩
    · rw [a5 65 1 (by omega) (by omega), u0 (by omega)]; exact a2
    · rw [eo 66 k (by omega) (by omega) (by omega) (by omega), eo 109 k (by omega) (by omega) (by omega) (by omega)]; exact hB k hk
    · rw [a5 65 7 (by omega) (by omega), u0 (by omega)]; exact a4
  · have eJ : ∀ i j, ¬ RM0 W i j → ¬ (i = 108 ∧ j = 0) → Jf i j = Cf2 i j := fun i j n1 n2 => by rw [b15 i j n1, u0 n2]
    have eo : ∀ i j, ¬ RC0 i j → ¬ RM0 W i j → ¬ (i = 108 ∧ j = 0) → Jf i j = I i j := fun i j n1 n2 n3 => by rw [eJ i j n2 n3]; exact b1 i j n1
    refine ⟨Jf, K2, by rw [hmo Cf2 K2 e108 e34, if_neg hW16n]; exact k4, by rw [b15 108 0 (by unfold RM0; omega)]; exact z0', ⟨fun j => eo 0 j (by unfold RC0; omega) (by unfold RM0; omega) (by omega), n, wd, q, r', a, se, W + 1, G, ?_⟩, rfl⟩
    refine ⟨pg_C_c hPC ?_, pg_M_c hPM ?_, dk_C_c b5 ?_, b9, b10, ⟨⟨0, by omega, ?_, b13⟩, fun k hk => ?_, ?_⟩, js_c hS ?_, jh_n hH hW hr ?_ b12 ?_ b11 ?_ ?_, ⟨?_, ?_, ?_⟩, jk_c hk ?_, jl_c hL ?_⟩
    · intro i j e; unfold dPC at e; exact eo i j (by unfold RC0; omega) (by unfold RM0; omega) (by omega)
    · intro i j e; unfold dPM at e; exact eo i j (by unfold RC0; omega) (by unfold RM0; omega) (by omega)
    · intro i j e; unfold dDC at e; exact eJ i j (by unfold RM0; omega) (by omega)
    · rw [eJ 65 1 (by unfold RM0; omega) (by omega)]; exact b3
    · rw [eo 66 k (by unfold RC0; omega) (by unfold RM0; omega) (by omega), eo 109 k (by unfold RC0; omega) (by unfold RM0; omega) (by omega)]; exact hB k hk
    · rw [eJ 65 7 (by unfold RM0; omega) (by omega), b4, b14]
    · intro i j e; unfold dS at e; exact eo i j (by unfold RC0; omega) (by unfold RM0; omega) (by omega)
    · rw [eJ 99 2 (by unfold RM0; omega) (by omega)]; exact b7
    · exact dk_R_eq b6 (fun _ _ => rfl) (fun k _ => eJ 100 _ (by unfold RM0; omega) (by omega))
    · intro j hj; rw [eJ 100 j (by unfold RM0; omega) (by omega)]; exact b2 j hj
    · intro i j e n1 n2 n3 n4; unfold dH at e; exact eo i j (by unfold RC0; omega) (by unfold RM0; omega) (by omega)
    · rw [eJ 64 12 (by unfold RM0; omega) (by omega)]; exact b8
    · rw [eo 64 13 (by unfold RC0; omega) (by unfold RM0; omega) (by omega), eo 110 0 (by unfold RC0; omega) (by unfold RM0; omega) (by omega)]; exact hc.2.1
    · rw [eo 64 14 (by unfold RC0; omega) (by unfold RM0; omega) (by omega), eo 110 1 (by unfold RC0; omega) (by unfold RM0; omega) (by omega)]; exact hc.2.2
    · intro i j e; unfold dK at e; exact eo i j (by unfold RC0; omega) (by unfold RM0; omega) (by omega)
    · intro i j e; unfold dL at e; exact eo i j (by unfold RC0; omega) (by unfold RM0; omega) (by omega)
end WKZ
