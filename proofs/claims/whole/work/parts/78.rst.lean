/-! images: restore -/
section RST
variable {c w : Nat} {S : Nat → pmS} {I I1 I2 A : Nat → Nat → Int32} {K K1 : Nat → Nat → Int64} {n : Nat} {wd : Nat → Nat} {q : Nat → Nat → Nat} {r : Nat → Int32} {a : Nat} {se : Nat → Nat} {W G d p g sp : Nat}
theorem ca_restore (h : ly c S) (hJ : JJ I n wd q r a se W G) : ag isI (I 0) c w S (fun _ => 0) (X8_restore 64 (c, w, S, I, K)) (X9_restore 108) := by
  obtain ⟨hPC, hPM, hDC, hDM, hr, hT, hS, hH, hc, hk, hL⟩ := id hJ
  obtain ⟨b1, b2, b3, b4, b5, b6, b7, b8, b9, b10⟩ := id hH
  by_cases hG : G = 0
  · subst hG
    refine ag_ro (v := .int (-1)) (I1 := I) (K1 := K) h hJ ⟨_, rfl⟩ ?_ same_r (fun hJ1 K2 => ⟨ly_u I 108 0 0, K2, ?_, z0', s0, rfl⟩)
    · unfold X8_restore X5_takeImageBack
      rw [lr_64_10 h, lr_64_8 h, lc_99 h, lg_99 h, b5, n00, ly_cI, i00]
    · unfold X9_restore
      rw [lp_108 h, lg_108 h, u0 (by omega), b6, n00]
  · obtain ⟨g, rfl⟩ : ∃ g, G = g + 1 := ⟨G - 1, by omega⟩
    have hg3 : g < 3 := by omega
    obtain ⟨r1, r2, r3⟩ := b9 g hg3
    obtain ⟨w1, V, w2, w3, w4⟩ := b10 g (by omega)
    have hR1 : dk_R (ly_u I 99 3 (nI g)) (224 + 238 * g) (fun k => I (555 + g) (1 + k)) := dk_R_eq r1 (fun _ _ => rfl) (fun k _ => by rw [ly_uE, if_neg (by omega)])
    obtain ⟨A, g1, g2, g3⟩ := rb_C (w := w) (K := K) (p := 224 + 238 * g) h (by omega) hR1
    have eA : ∀ i j, ¬ PK i j → ¬ (i = 99 ∧ j = 3) → A i j = I i j := fun i j n1 n2 => by rw [g3 i j n1, ly_uE, if_neg n2]
    have ep : ∀ m : pmM, X5_placeOf (nI g) m = pm_oI (nI (224 + 238 * g)) m := fun m => by
      unfold X5_placeOf
      rw [show (224 : Int32) + nI g * 238 = nI (224 + 238 * g) from by rw [show (224 : Int32) = nI 224 from rfl, show (238 : Int32) = nI 238 from rfl, pk_mul, nI_add, Nat.mul_comm]]
    have a3 : A 99 3 = nI g := by rw [g3 99 3 (by unfold PK; omega), ly_uE, if_pos ⟨rfl, rfl⟩]
    have cin : ∀ j, j < 224 → ly_c A 100 (238 + 238 * g) 100 0 224 100 j = I 100 (238 + 238 * g + j) := fun j hj => by
      rw [ly_cE, if_pos ⟨rfl, by omega, by omega⟩, Nat.sub_zero, eA 100 _ (by unfold PK; omega) (by omega)]
    have cout : ∀ j, 224 ≤ j → ly_c A 100 (238 + 238 * g) 100 0 224 100 j = I 100 j := fun j hn => by rw [ly_cE, if_neg (by omega), eA 100 _ (by unfold PK; omega) (by omega)]
    have c2 : ∀ i j, i ≠ 100 → ly_c A 100 (238 + 238 * g) 100 0 224 i j = A i j := fun i j n1 => by rw [ly_cE, if_neg (by omega)]
    generalize hBd : ly_c A 100 (238 + 238 * g) 100 0 224 = B at cin cout c2
    have hB : ∀ i j, i ≠ 100 → ¬ PK i j → ¬ (i = 99 ∧ j = 3) → B i j = I i j := fun i j n1 n2 n3 => by rw [c2 i j n1, eA i j n2 n3]
    have e101 : B 101 g = nI V := by rw [hB 101 g (by omega) (by unfold PK; omega) (by omega), r2]; exact w3
    have e993 : B 99 3 = nI g := by rw [c2 99 3 (by omega)]; exact a3
    refine ⟨c, w, S, ly_u (ly_u B 99 2 (nI V)) 64 12 0, K, ⟨by omega, by omega, by omega, h, rfl, fun j => by rw [ly_uE, if_neg (by omega), ly_uE, if_neg (by omega)]; exact hB 0 j (by omega) (by unfold PK; omega) (by omega)⟩, Or.inl ⟨.int (nI g), ⟨_, rfl⟩, ?_, fun K2 => ?_⟩⟩
    · have u3 : ly_u I 99 3 (nI g) 99 3 = nI g := by rw [ly_uE, if_pos ⟨rfl, rfl⟩]
      unfold X8_restore X5_takeImageBack
      rw [lr_64_10 h, lr_64_8 h, lc_99 h, lg_99 h, b5, if_neg (nI_ne0 (by omega) (by omega)), lg_99 h, b5, show nI (g + 1) - (1 : Int32) = nI g from nI_pred g, lp_99 h, lg_99 h, u3, ep, ly_cI, lr_99_0 h, lc_93 h, g1, ly_cV, lr_99_0 h, lr_99_0 h, lcp1 (sp := 238 + 238 * g) (dp := 0) (m := 224) (x := nI (224 + 238 * g) + 14) (y := 0) (z := 224) h (by omega) (by omega) (by rw [show (14 : Int32) = nI 14 from rfl, nI_add]; congr 1; omega) rfl rfl, hBd, lr_99_1 h, lg_99 h, e993, ld_101 h hg3, e101, lp_99 h, ly_cI, i10, lp_64 h, lr_64_10 h, lg_99 h, show ly_u (ly_u B 99 2 (nI V)) 64 12 0 99 3 = nI g by rw [ly_uE, if_neg (by omega), ly_uE, if_neg (by omega)]; exact e993]
    · have hC : ∀ i j, i ≠ 100 → ¬ PK i j → ¬ (i = 99 ∧ (j = 2 ∨ j = 3)) → ¬ (i = 64 ∧ j = 12) → ly_u (ly_u B 99 2 (nI V)) 64 12 0 i j = I i j := fun i j n1 n2 n3 n4 => by rw [ly_uE, if_neg n4, ly_uE, if_neg (by omega)]; exact hB i j n1 n2 (by omega)
      have hCB : ∀ i j, ¬ (i = 99 ∧ j = 2) → ¬ (i = 64 ∧ j = 12) → ly_u (ly_u B 99 2 (nI V)) 64 12 0 i j = B i j := fun i j n1 n2 => by rw [ly_uE, if_neg n2, ly_uE, if_neg n1]
      have hC2 : ly_u (ly_u B 99 2 (nI V)) 64 12 0 99 2 = nI V := by rw [ly_uE, if_neg (by omega), ly_uE, if_pos ⟨rfl, rfl⟩]
      have hC12 : ly_u (ly_u B 99 2 (nI V)) 64 12 0 64 12 = 0 := by rw [ly_uE, if_pos ⟨rfl, rfl⟩]
      generalize ly_u (ly_u B 99 2 (nI V)) 64 12 0 = C at hC hCB hC2 hC12
      have z36 : ly_u C 108 0 0 108 36 = nI (g + 1) := by rw [u0 (by omega), hC 108 36 (by omega) (by unfold PK; omega) (by omega) (by omega)]; exact b6
      obtain ⟨E, p1, p2, p3, p4, p5⟩ := pa_B (w := w) (K := K2) (I := ly_u (ly_u C 108 0 0) 108 36 (nI g)) (g := g) h hg3
      have kpt : ∀ j, ly_u (ly_u C 108 0 0) 108 36 (nI g) (555 + g) j = I (555 + g) j := fun j => by rw [ly_uE, if_neg (by omega), u0 (by omega), hC _ _ (by omega) (by unfold PK; omega) (by omega) (by omega)]
      have eE : ∀ i j, ¬ PB i j → ¬ (i = 108 ∧ (j = 0 ∨ j = 36)) → E i j = C i j := fun i j n1 n2 => by rw [p2 i j n1, ly_uE, if_neg (by omega), u0 (by omega)]
      have e36 : E 108 36 = nI g := by rw [p2 108 36 (by unfold PB; omega), ly_uE, if_pos ⟨rfl, rfl⟩]
      have hFE : ∀ i j, ¬ (i = 108 ∧ j = 35) → ly_u E 108 35 0 i j = E i j := fun i j n => by rw [ly_uE, if_neg n]
      have hF : ∀ i j, i ≠ 100 → ¬ PK i j → ¬ (i = 99 ∧ (j = 2 ∨ j = 3)) → ¬ (i = 64 ∧ j = 12) → ¬ PB i j → ¬ (i = 108 ∧ (j = 0 ∨ j = 36)) → ¬ (i = 108 ∧ j = 35) → ly_u E 108 35 0 i j = I i j := fun i j n1 n2 n3 n4 n5 n6 n7 => by
        rw [hFE i j n7, eE i j n5 n6]; exact hC i j n1 n2 n3 n4
      have f100 : ∀ j, ly_u E 108 35 0 100 j = B 100 j := fun j => by rw [hFE 100 j (by omega), eE 100 j (by unfold PB; omega) (by omega)]; exact hCB 100 j (by omega) (by omega)
      refine ⟨ly_u E 108 35 0, K2, ?_, ?_, ⟨fun j => ?_, n, wd, q, fun k => I (555 + g) (1 + k), a, se, V, g, ?_⟩, rfl⟩
      · unfold X9_restore
        rw [lp_108 h, lg_108 h, z36, if_neg (nI_ne0 (by omega) (by omega)), lg_108 h, z36, show nI (g + 1) - (1 : Int32) = nI g from nI_pred g, lp_108 h, lr_108_32 h, lg_108 h, show ly_u (ly_u C 108 0 0) 108 36 (nI g) 108 36 = nI g by rw [ly_uE, if_pos ⟨rfl, rfl⟩], lr_554 h hg3, lc_108 h, p1, ly_cV, lp_108 h, lg_108 h, show ly_u E 108 35 0 108 36 = nI g by rw [hFE 108 36 (by omega)]; exact e36]
      · rw [hFE 108 0 (by omega), p2 108 0 (by unfold PB; omega), ly_uE, if_neg (by omega)]
        exact z0'
      · exact hF 0 j (by omega) (by unfold PK; omega) (by omega) (by omega) (by unfold PB; omega) (by omega) (by omega)
      · refine ⟨pg_C_c hPC ?_, pg_M_c hPM ?_, dk_C_c g2 ?_, ?_, w1, jt_c hT ?_, js_c hS ?_, ?_, ?_, jk_c hk ?_, jl_c hL ?_⟩
        · intro i j e; unfold dPC at e; exact hF i j (by omega) (by unfold PK; omega) (by omega) (by omega) (by unfold PB; omega) (by omega) (by omega)
        · intro i j e; unfold dPM at e; exact hF i j (by omega) (by unfold PK; omega) (by omega) (by omega) (by unfold PB; omega) (by omega) (by omega)
        · intro i j e; unfold dDC at e; rw [hFE i j (by omega), eE i j (by unfold PB; omega) (by omega), hCB i j (by omega) (by omega), c2 i j (by omega)]
        · intro k hk; rw [hFE 535 k (by omega), p4 k hk, kpt]
        · intro i j e; unfold dT at e; exact hF i j (by omega) (by unfold PK; omega) (by omega) (by omega) (by unfold PB; omega) (by omega) (by omega)
        · intro i j e; unfold dS at e; exact hF i j (by omega) (by unfold PK; omega) (by omega) (by omega) (by unfold PB; omega) (by omega) (by omega)
        · have rowk : ∀ v, v < 16 → ∀ k, k < 14 → ly_u E 108 35 0 (538 + v) k = I (555 + g) (15 + v * 14 + k) := fun v hv k hk => by rw [hFE _ _ (by omega), p5 v hv k hk, kpt]
          have kept : ∀ u, u < 3 → ∀ j, ly_u E 108 35 0 (555 + u) j = I (555 + u) j := fun u hu j => hF _ _ (by omega) (by unfold PK; omega) (by omega) (by omega) (by unfold PB; omega) (by omega) (by omega)
          have hhi : ∀ j, 224 ≤ j → ly_u E 108 35 0 100 j = I 100 j := fun j hj => by rw [f100, cout j hj]
          refine ⟨w2, by omega, ?_, ?_, ?_, ?_, fun v hv => ?_, fun v hv => ?_, fun u hu => ?_, fun u hu => ?_⟩
          · rw [hFE 99 2 (by omega), eE 99 2 (by unfold PB; omega) (by omega)]; exact hC2
          · rw [hFE 108 34 (by omega), p3, kpt]; exact w3
          · rw [hFE 99 3 (by omega), eE 99 3 (by unfold PB; omega) (by omega), hCB 99 3 (by omega) (by omega)]; exact e993
          · rw [hFE 108 36 (by omega)]; exact e36
          · obtain ⟨d1, d2, d3, d4, d5, d6⟩ := r3 v hv
            have fb : ∀ j, j < 14 → ly_u E 108 35 0 100 (v * 14 + j) = I 100 (224 + 238 * g + 14 + v * 14 + j) := fun j hj => by rw [f100, cin _ (by omega)]; congr 1; omega
            refine ⟨fun l hl => ?_, fun k hk => ?_, ?_, ?_, ?_, ?_⟩
            · rw [fb l (by omega), rowk v hv l (by omega)]; exact d1 l hl
            · rw [show v * 14 + 6 + k = v * 14 + (6 + k) by omega, fb (6 + k) (by omega), rowk v hv (6 + k) (by omega), show 224 + 238 * g + 14 + v * 14 + (6 + k) = 224 + 238 * g + 14 + v * 14 + 6 + k by omega]; exact d2 k hk
            · rw [fb 10 (by omega), rowk v hv 11 (by omega)]; exact d3
            · rw [fb 11 (by omega), rowk v hv 10 (by omega)]; exact d4
            · rw [fb 12 (by omega), rowk v hv 12 (by omega)]; exact d5
            · rw [fb 13 (by omega), rowk v hv 13 (by omega)]; exact d6
          · exact dk_W_eq (w4 v hv) (fun k hk => rowk v (by omega) k hk)
          · refine ⟨dk_R_eq (b9 u hu).1 (fun k _ => kept u hu _) (fun k _ => hhi _ (by omega)), ?_, fun v hv => dk_R_eq ((b9 u hu).2.2 v hv) (fun k _ => kept u hu _) (fun k _ => hhi _ (by omega))⟩
            rw [hF 101 u (by omega) (by unfold PK; omega) (by omega) (by omega) (by unfold PB; omega) (by omega) (by omega), kept u hu]; exact (b9 u hu).2.1
          · obtain ⟨d1, V2, d2, d3, d4⟩ := b10 u (by omega)
            exact ⟨dk_W_eq d1 (fun k _ => kept u (by omega) _), V2, d2, by rw [kept u (by omega)]; exact d3, fun v hv => dk_W_eq (d4 v hv) (fun k _ => kept u (by omega) _)⟩
        · refine ⟨?_, ?_, ?_⟩
          · rw [hFE 64 12 (by omega), eE 64 12 (by unfold PB; omega) (by omega), hC12, ly_uE, if_pos ⟨rfl, rfl⟩]
          · rw [hF 64 13 (by omega) (by unfold PK; omega) (by omega) (by omega) (by unfold PB; omega) (by omega) (by omega), hF 110 0 (by omega) (by unfold PK; omega) (by omega) (by omega) (by unfold PB; omega) (by omega) (by omega)]; exact hc.2.1
          · rw [hF 64 14 (by omega) (by unfold PK; omega) (by omega) (by omega) (by unfold PB; omega) (by omega) (by omega), hF 110 1 (by omega) (by unfold PK; omega) (by omega) (by omega) (by unfold PB; omega) (by omega) (by omega)]; exact hc.2.2
        · intro i j e; unfold dK at e; exact hF i j (by omega) (by unfold PK; omega) (by omega) (by omega) (by unfold PB; omega) (by omega) (by omega)
        · intro i j e; unfold dL at e; exact hF i j (by omega) (by unfold PK; omega) (by omega) (by omega) (by unfold PB; omega) (by omega) (by omega)
end RST
