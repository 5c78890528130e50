/-! images: kept, taken back -/
section IMH
variable {c w : Nat} {S : Nat → pmS} {I I1 I2 A : Nat → Nat → Int32} {K K1 : Nat → Nat → Int64} {n : Nat} {wd : Nat → Nat} {q : Nat → Nat → Nat} {r : Nat → Int32} {a : Nat} {se : Nat → Nat} {W G d p g sp : Nat}
def PB (i j : Nat) : Prop := (i = 108 ∧ (j = 37 ∨ j = 34)) ∨ i = 535 ∨ (538 ≤ i ∧ i < 554)
theorem pa_B (h : ly c S) (hg : g < 3) : ∃ I1, X9_putsAll 108 (555 + g) 1 (c, w, S, I, K) = pm_oV (c, w, S, I1, K) ∧ only PB I I1 ∧ I1 108 34 = I (555 + g) 0 ∧ (∀ k, k < 14 → I1 535 k = I (555 + g) (1 + k)) ∧ ∀ v, v < 16 → ∀ k, k < 14 → I1 (538 + v) k = I (555 + g) (15 + v * 14 + k) := by
  unfold X9_putsAll
  have e0 : ly_u I 108 37 0 108 37 = nI 0 := by rw [ly_uE, if_pos ⟨rfl, rfl⟩]; rfl
  have ek : ly_u I 108 37 0 (555 + g) 0 = I (555 + g) 0 := by rw [ly_uE, if_neg (by omega)]
  rw [lp_108 h, lg_108 h, lc_108 h, pt_B h hg (by omega) e0, ly_cI, lp_108 h, ek]
  have f0 : only PB I (ly_u (ly_u (ly_u I 108 37 0) 108 37 (nI (0 + 1))) 108 34 (I (555 + g) 0)) := only_u (only_u (only_u only_r (by unfold PB; omega)) (by unfold PB; omega)) (by unfold PB; omega)
  have f1 : ly_u (ly_u (ly_u I 108 37 0) 108 37 (nI (0 + 1))) 108 34 (I (555 + g) 0) 108 37 = nI 1 := by rw [ly_uE, if_neg (by omega), ly_uE, if_pos ⟨rfl, rfl⟩]
  have f2 : ly_u (ly_u (ly_u I 108 37 0) 108 37 (nI (0 + 1))) 108 34 (I (555 + g) 0) 108 34 = I (555 + g) 0 := by rw [ly_uE, if_pos ⟨rfl, rfl⟩]
  generalize ly_u (ly_u (ly_u I 108 37 0) 108 37 (nI (0 + 1))) 108 34 (I (555 + g) 0) = B at f0 f1 f2 ⊢
  have kp : ∀ {E : Nat → Nat → Int32}, only PB I E → ∀ j, E (555 + g) j = I (555 + g) j := fun o j => o _ _ (by unfold PB; omega)
  refine ly_loop (fun k (A : Nat → Nat → Int32) => ((nI k, (c, w, S, A, K)) : Int32 × pmM)) 14 (fun k A => only PB I A ∧ A 108 37 = nI (1 + k) ∧ A 108 34 = I (555 + g) 0 ∧ ∀ j, j < k → A 535 j = I (555 + g) (1 + j)) (fun R => ∃ I1, R = pm_oV (c, w, S, I1, K) ∧ only PB I I1 ∧ I1 108 34 = I (555 + g) 0 ∧ (∀ k, k < 14 → I1 535 k = I (555 + g) (1 + k)) ∧ ∀ v, v < 16 → ∀ k, k < 14 → I1 (538 + v) k = I (555 + g) (15 + v * 14 + k)) ?_ ?_ pm_N 0 B ⟨f0, f1, f2, fun j hj => by omega⟩ (by omega) (by rw [pm_NE]; omega)
  · intro again k A hk hQ hn
    obtain ⟨q1, q2, q3, q4⟩ := hQ
    unfold X9_putsAll_L21
    simp only
    rw [if_neg (show ¬ (14 : Int32) ≤ nI k from nI_ge (b := 14) hk (by omega)), lr_108_29 h, lr_108_29 h, ld_535 h hk, lc_108 h, pt_B h hg (by omega) q2, ly_cI, ls_535 h hk, ly_bI, nI_1, kp q1]
    refine hn _ ⟨only_u (only_u q1 (by unfold PB; omega)) (by unfold PB; omega), ?_, ?_, fun j hj => ?_⟩
    · rw [ly_uE, if_neg (by omega), ly_uE, if_pos ⟨rfl, rfl⟩]
      rfl
    · rw [ly_uE, if_neg (by omega), ly_uE, if_neg (by omega)]
      exact q3
    · by_cases e : j = k
      · subst e
        rw [ly_uE, if_pos ⟨rfl, rfl⟩]
      · rw [ly_uE, if_neg (by omega), ly_uE, if_neg (by omega)]
        exact q4 j (by omega)
  · intro again A hQ
    obtain ⟨q1, q2, q3, q4⟩ := hQ
    unfold X9_putsAll_L21
    simp only
    rw [if_pos (show (14 : Int32) ≤ nI 14 by decide)]
    refine ly_loop (fun v (B : Nat → Nat → Int32) => ((nI v, (c, w, S, B, K)) : Int32 × pmM)) 16 (fun v B => only PB I B ∧ B 108 37 = nI (15 + v * 14) ∧ B 108 34 = I (555 + g) 0 ∧ (∀ j, j < 14 → B 535 j = I (555 + g) (1 + j)) ∧ ∀ u, u < v → ∀ k, k < 14 → B (538 + u) k = I (555 + g) (15 + u * 14 + k)) (fun R => ∃ I1, R = pm_oV (c, w, S, I1, K) ∧ only PB I I1 ∧ I1 108 34 = I (555 + g) 0 ∧ (∀ k, k < 14 → I1 535 k = I (555 + g) (1 + k)) ∧ ∀ v, v < 16 → ∀ k, k < 14 → I1 (538 + v) k = I (555 + g) (15 + v * 14 + k)) ?_ ?_ pm_N 0 A ⟨q1, q2, q3, q4, fun u hu => by omega⟩ (by omega) (by rw [pm_NE]; omega)
    · intro again2 v B hv hQ hn
      obtain ⟨p1, p2, p3, p4, p5⟩ := hQ
      unfold X9_putsAll_L53
      simp only
      rw [if_neg (show ¬ (16 : Int32) ≤ nI v from nI_ge (b := 16) hv (by omega))]
      refine ly_loop (fun k (E : Nat → Nat → Int32) => ((nI k, (c, w, S, E, K)) : Int32 × pmM)) 14 (fun k E => only PB I E ∧ E 108 37 = nI (15 + v * 14 + k) ∧ E 108 34 = I (555 + g) 0 ∧ (∀ j, j < 14 → E 535 j = I (555 + g) (1 + j)) ∧ (∀ u, u < v → ∀ k, k < 14 → E (538 + u) k = I (555 + g) (15 + u * 14 + k)) ∧ ∀ j, j < k → E (538 + v) j = I (555 + g) (15 + v * 14 + j)) (fun R => ∃ I1, R = pm_oV (c, w, S, I1, K) ∧ only PB I I1 ∧ I1 108 34 = I (555 + g) 0 ∧ (∀ k, k < 14 → I1 535 k = I (555 + g) (1 + k)) ∧ ∀ v, v < 16 → ∀ k, k < 14 → I1 (538 + v) k = I (555 + g) (15 + v * 14 + k)) ?_ ?_ pm_N 0 B ⟨p1, p2, p3, p4, p5, fun j hj => by omega⟩ (by omega) (by rw [pm_NE]; omega)
      · intro again3 k E hk hQ hn3
        obtain ⟨o1, o2, o3, o4, o5, o6⟩ := hQ
        unfold X9_putsAll_L62
        simp only
        rw [if_neg (show ¬ (14 : Int32) ≤ nI k from nI_ge (b := 14) hk (by omega)), lr_108_31 h, lr_537 h hv, lr_108_31 h, lr_537 h hv, ld_538 h hv hk, lc_108 h, pt_B h hg (by omega) o2, ly_cI, ls_538 h hv hk, ly_bI, nI_1, kp o1]
        refine hn3 _ ⟨only_u (only_u o1 (by unfold PB; omega)) (by unfold PB; omega), ?_, ?_, fun j hj => ?_, fun u hu j hj => ?_, fun j hj => ?_⟩
        · rw [ly_uE, if_neg (by omega), ly_uE, if_pos ⟨rfl, rfl⟩]
          rfl
        · rw [ly_uE, if_neg (by omega), ly_uE, if_neg (by omega)]
          exact o3
        · rw [ly_uE, if_neg (by omega), ly_uE, if_neg (by omega)]
          exact o4 j hj
        · rw [ly_uE, if_neg (by omega), ly_uE, if_neg (by omega)]
          exact o5 u hu j hj
        · by_cases e : j = k
          · subst e
            rw [ly_uE, if_pos ⟨rfl, rfl⟩]
          · rw [ly_uE, if_neg (by omega), ly_uE, if_neg (by omega)]
            exact o6 j (by omega)
      · intro again3 E hQ
        obtain ⟨o1, o2, o3, o4, o5, o6⟩ := hQ
        unfold X9_putsAll_L62
        simp only
        rw [if_pos (show (14 : Int32) ≤ nI 14 by decide), ly_bI, nI_1]
        refine hn E ⟨o1, ?_, o3, o4, fun u hu j hj => ?_⟩
        · rw [o2]; congr 1; omega
        · rcases Nat.lt_or_ge u v with e | e
          · exact o5 u e j hj
          · have : u = v := by omega
            subst this
            exact o6 j hj
    · intro again2 B hQ
      obtain ⟨p1, p2, p3, p4, p5⟩ := hQ
      unfold X9_putsAll_L53
      simp only
      rw [if_pos (show (16 : Int32) ≤ nI 16 by decide)]
      exact ⟨B, rfl, p1, p3, p4, p5⟩
theorem lcp1 {sp dp m : Nat} {f : pmM → pmR} (h : ly c S) (h1 : sp + m ≤ 938) (h2 : dp + m ≤ 938) {x y z : Int32} (hx : x = nI sp) (hy : y = nI dp) (hz : z = nI m) : pm_cp 100 x 100 y z (c, w, S, I, K) f = f (c, w, S, ly_c I 100 sp 100 dp m, K) := lcp 938 938 h rfl rfl rfl rfl (by omega) (by omega) h1 h2 hx hy hz
theorem ca_image (h : ly c S) (hJ : JJ I n wd q r a se W G) : ag isI (I 0) c w S (fun _ => 0) (X8_image 64 (c, w, S, I, K)) (X9_image 108) := by
  obtain ⟨hPC, hPM, hDC, hDM, hr, hT, hS, hH, hc, hk, hL⟩ := id hJ
  obtain ⟨b1, b2, b3, b4, b5, b6, b7, b8, b9, b10⟩ := id hH
  by_cases hG : G = 3
  · subst hG
    refine ag_ro (v := .int (-1)) (I1 := I) (K1 := K) h hJ ⟨_, rfl⟩ ?_ same_r (fun hJ1 K2 => ⟨ly_u I 108 0 0, K2, ?_, z0', s0, rfl⟩)
    · unfold X8_image X8_image_j25 X5_keepImage
      rw [lr_64_10 h, lr_64_8 h, lc_99 h, lg_99 h, b5, if_neg (show ¬ nI 3 < 3 by decide), ly_cI, i00]
    · unfold X9_image
      rw [lp_108 h, lg_108 h, u0 (by omega), b6, if_pos (show nI 3 = 3 from rfl)]
  · have hG3 : G < 3 := by omega
    obtain ⟨A, g1, g2, g3⟩ := wt_C (w := w) (K := K) (p := 224 + 238 * G) h (by omega) hDC
    have eA : ∀ i j, ¬ (i = 100 ∧ 224 + 238 * G ≤ j ∧ j < 238 + 238 * G) → A i j = I i j := fun i j hn => g3 i j (by simp only; omega)
    have ep : ∀ m : pmM, X5_placeOf (nI G) m = pm_oI (nI (224 + 238 * G)) m := fun m => by
      unfold X5_placeOf
      rw [show (224 : Int32) + nI G * 238 = nI (224 + 238 * G) from by rw [show (224 : Int32) = nI 224 from rfl, show (238 : Int32) = nI 238 from rfl, pk_mul, nI_add, Nat.mul_comm]]
    have a2 : A 99 2 = nI W := by rw [eA 99 2 (by omega)]; exact b3
    have a3 : A 99 3 = nI G := by rw [eA 99 3 (by omega)]; exact b5
    have c2 : ∀ i j, i ≠ 100 → ly_c A 100 0 100 (238 + 238 * G) 224 i j = A i j := fun i j n1 => by rw [ly_cE, if_neg (by omega)]
    have cin : ∀ j, j < 224 → ly_c A 100 0 100 (238 + 238 * G) 224 100 (238 + 238 * G + j) = I 100 j := fun j hj => by
      rw [ly_cE, if_pos ⟨rfl, by omega, by omega⟩, show 0 + (238 + 238 * G + j - (238 + 238 * G)) = j by omega, eA 100 j (by omega)]
    have cout : ∀ j, ¬ (238 + 238 * G ≤ j ∧ j < 238 + 238 * G + 224) → ly_c A 100 0 100 (238 + 238 * G) 224 100 j = A 100 j := fun j hn => by rw [ly_cE, if_neg (by omega)]
    generalize hBd : ly_c A 100 0 100 (238 + 238 * G) 224 = B at c2 cin cout
    have hBall : ∀ i j, i ≠ 100 → B i j = I i j := fun i j n1 => by rw [c2 i j n1, eA i j (by omega)]
    have hB100 : ∀ j, ¬ (224 + 238 * G ≤ j ∧ j < 462 + 238 * G) → B 100 j = I 100 j := fun j hn => by rw [cout j (by omega), eA 100 j (by omega)]
    refine ⟨c, w, S, ly_u (ly_u B 101 G (nI W)) 99 3 (nI (G + 1)), K, ⟨by omega, by omega, by omega, h, rfl, fun j => by rw [ly_uE, if_neg (by omega), ly_uE, if_neg (by omega)]; exact hBall 0 j (by omega)⟩, Or.inl ⟨.int (nI (G + 1)), ⟨_, rfl⟩, ?_, fun K2 => ?_⟩⟩
    · unfold X8_image X8_image_j25 X5_keepImage
      rw [lr_64_10 h, lr_64_8 h, lc_99 h, lg_99 h, b5, if_pos (show nI G < 3 from nI_lt (b := 3) hG3 (by omega)), lg_99 h, b5, ep, ly_cI, lr_99_0 h, lc_93 h, g1, ly_cV, lr_99_0 h, lr_99_0 h, lcp1 (sp := 0) (dp := 238 + 238 * G) (m := 224) (x := 0) (y := nI (224 + 238 * G) + 14) (z := 224) h (by omega) (by omega) rfl (by rw [show (14 : Int32) = nI 14 from rfl, nI_add]; congr 1; omega) rfl, hBd, lr_99_1 h, lg_99 h, hBall 99 3 (by omega), b5, lg_99 h, hBall 99 2 (by omega), b3, ls_101 h hG3, lg_99 h, show ly_u B 101 G (nI W) 99 3 = nI G by rw [ly_uE, if_neg (by omega), hBall 99 3 (by omega)]; exact b5, lp_99 h, nI_1, ly_cI, i10, lr_64_10 h, lg_99 h, show ly_u (ly_u B 101 G (nI W)) 99 3 (nI (G + 1)) 99 3 = nI (G + 1) by rw [ly_uE, if_pos ⟨rfl, rfl⟩]]
    · have hC : ∀ i j, i ≠ 100 → ¬ (i = 101 ∧ j = G) → ¬ (i = 99 ∧ j = 3) → ly_u (ly_u B 101 G (nI W)) 99 3 (nI (G + 1)) i j = I i j := fun i j n1 n2 n3 => by rw [ly_uE, if_neg n3, ly_uE, if_neg n2]; exact hBall i j n1
      have hC100 : ∀ j, ly_u (ly_u B 101 G (nI W)) 99 3 (nI (G + 1)) 100 j = B 100 j := fun j => by rw [ly_uE, if_neg (by omega), ly_uE, if_neg (by omega)]
      have hC101 : ly_u (ly_u B 101 G (nI W)) 99 3 (nI (G + 1)) 101 G = nI W := by rw [ly_uE, if_neg (by omega), ly_uE, if_pos ⟨rfl, rfl⟩]
      have hC99 : ly_u (ly_u B 101 G (nI W)) 99 3 (nI (G + 1)) 99 3 = nI (G + 1) := by rw [ly_uE, if_pos ⟨rfl, rfl⟩]
      generalize ly_u (ly_u B 101 G (nI W)) 99 3 (nI (G + 1)) = C at hC hC100 hC101 hC99
      obtain ⟨E, p1, p2, p3, p4, p5⟩ := pa_F (w := w) (K := K2) (I := ly_u C 108 0 0) (g := G) h hG3
      have eE : ∀ i j, ¬ (i = 108 ∧ (j = 0 ∨ j = 37)) → i ≠ 555 + G → E i j = C i j := fun i j n1 n2 => by rw [p2 i j (by omega) n2, u0 (by omega)]
      have e36 : E 108 36 = nI G := by rw [eE 108 36 (by omega) (by omega), hC 108 36 (by omega) (by omega) (by omega)]; exact b6
      have z36 : ly_u C 108 0 0 108 36 = nI G := by rw [u0 (by omega), hC 108 36 (by omega) (by omega) (by omega)]; exact b6
      have kk : ∀ k, k < 14 → E (555 + G) (1 + k) = r k := fun k hk => by rw [p4 k hk, u0 (by omega), hC 535 k (by omega) (by omega) (by omega)]; exact hDM k hk
      have k0 : E (555 + G) 0 = nI W := by rw [p3, u0 (by omega), hC 108 34 (by omega) (by omega) (by omega)]; exact b4
      have kv : ∀ v, v < 16 → ∀ k, k < 14 → E (555 + G) (15 + v * 14 + k) = I (538 + v) k := fun v hv k hk => by rw [p5 v hv k hk, u0 (by omega), hC (538 + v) k (by omega) (by omega) (by omega)]
      have hE100 : ∀ j, E 100 j = B 100 j := fun j => by rw [eE 100 j (by omega) (by omega)]; exact hC100 j
      have hF : ∀ i j, i ≠ 100 → ¬ (i = 101 ∧ j = G) → ¬ (i = 99 ∧ j = 3) → ¬ (i = 108 ∧ (j = 0 ∨ j = 37)) → i ≠ 555 + G → ¬ (i = 108 ∧ j = 36) → ly_u E 108 36 (nI (G + 1)) i j = I i j := fun i j n1 n2 n3 n4 n5 n6 => by
        rw [ly_uE, if_neg n6, eE i j n4 n5]; exact hC i j n1 n2 n3
      have hFE : ∀ i j, ¬ (i = 108 ∧ j = 36) → ly_u E 108 36 (nI (G + 1)) i j = E i j := fun i j n => by rw [ly_uE, if_neg n]
      refine ⟨ly_u E 108 36 (nI (G + 1)), K2, ?_, ?_, ⟨fun j => ?_, n, wd, q, r, a, se, W, G + 1, ?_⟩, rfl⟩
      · unfold X9_image
        rw [lp_108 h, lg_108 h, z36, if_neg (show ¬ nI G = 3 from fun e => by have := (nI_eq (b := 3) (by omega) (by omega)).mp e; omega), lr_108_32 h, lg_108 h, z36, lr_554 h hG3, lc_108 h, p1, ly_cV, lg_108 h, e36, lp_108 h, nI_1, lg_108 h, show ly_u E 108 36 (nI (G + 1)) 108 36 = nI (G + 1) by rw [ly_uE, if_pos ⟨rfl, rfl⟩]]
      · rw [ly_uE, if_neg (by omega), p2 108 0 (by omega) (by omega)]
        exact z0'
      · exact hF 0 j (by omega) (by omega) (by omega) (by omega) (by omega) (by omega)
      · refine ⟨pg_C_c hPC ?_, pg_M_c hPM ?_, dk_C_c hDC ?_, dk_M_c hDM ?_, hr, jt_c hT ?_, js_c hS ?_, ?_, jc_c hc ?_, jk_c hk ?_, jl_c hL ?_⟩
        · intro i j e; unfold dPC at e; exact hF i j (by omega) (by omega) (by omega) (by omega) (by omega) (by omega)
        · intro i j e; unfold dPM at e; exact hF i j (by omega) (by omega) (by omega) (by omega) (by omega) (by omega)
        · intro i j e; unfold dDC at e; exact hF i j (by omega) (by omega) (by omega) (by omega) (by omega) (by omega)
        · intro i j e; unfold dDM at e; exact hF i j (by omega) (by omega) (by omega) (by omega) (by omega) (by omega)
        · intro i j e; unfold dT at e; exact hF i j (by omega) (by omega) (by omega) (by omega) (by omega) (by omega)
        · intro i j e; unfold dS at e; exact hF i j (by omega) (by omega) (by omega) (by omega) (by omega) (by omega)
        · have f100 : ∀ j, ly_u E 108 36 (nI (G + 1)) 100 j = B 100 j := fun j => by rw [hFE 100 j (by omega)]; exact hE100 j
          refine ⟨b1, by omega, ?_, ?_, ?_, ?_, fun v hv => ?_, fun v hv => ?_, fun g hg => ?_, fun g hg => ?_⟩
          · rw [hF 99 2 (by omega) (by omega) (by omega) (by omega) (by omega) (by omega)]; exact b3
          · rw [hF 108 34 (by omega) (by omega) (by omega) (by omega) (by omega) (by omega)]; exact b4
          · rw [hFE 99 3 (by omega), eE 99 3 (by omega) (by omega)]; exact hC99
          · rw [ly_uE, if_pos ⟨rfl, rfl⟩]
          · exact dk_R_eq (b7 v hv) (fun k _ => hF _ _ (by omega) (by omega) (by omega) (by omega) (by omega) (by omega)) (fun k _ => by rw [f100, hB100 _ (by omega)])
          · exact dk_W_eq (b8 v hv) (fun k _ => hF _ _ (by omega) (by omega) (by omega) (by omega) (by omega) (by omega))
          · by_cases eg : g = G
            · subst eg
              refine ⟨?_, ?_, fun v hv => ?_⟩
              · exact dk_R_eq g2 (fun k hk => by rw [hFE _ _ (by omega)]; exact kk k hk) (fun k _ => by rw [f100, cout _ (by omega)])
              · rw [hFE 101 g (by omega), eE 101 g (by omega) (by omega), hC101, hFE _ _ (by omega), k0]
              · obtain ⟨d1, d2, d3, d4, d5, d6⟩ := b7 v hv
                have fb : ∀ j, j < 14 → ly_u E 108 36 (nI (g + 1)) 100 (224 + 238 * g + 14 + v * 14 + j) = I 100 (v * 14 + j) := fun j hj => by rw [f100, show 224 + 238 * g + 14 + v * 14 + j = 238 + 238 * g + (v * 14 + j) by omega, cin _ (by omega)]
                have fk : ∀ k, k < 14 → ly_u E 108 36 (nI (g + 1)) (555 + g) (15 + v * 14 + k) = I (538 + v) k := fun k hk => by rw [hFE _ _ (by omega)]; exact kv v hv k hk
                refine ⟨fun l hl => ?_, fun k hk => ?_, ?_, ?_, ?_, ?_⟩
                · rw [fb l (by omega)]; exact (d1 l hl).trans (fk l (by omega)).symm
                · have := fb (6 + k) (by omega)
                  rw [show 224 + 238 * g + 14 + v * 14 + 6 + k = 224 + 238 * g + 14 + v * 14 + (6 + k) by omega, this, show v * 14 + (6 + k) = v * 14 + 6 + k by omega]; exact (d2 k hk).trans (fk (6 + k) (by omega)).symm
                · rw [fb 10 (by omega)]; exact d3.trans (fk 11 (by omega)).symm
                · rw [fb 11 (by omega)]; exact d4.trans (fk 10 (by omega)).symm
                · rw [fb 12 (by omega)]; exact d5.trans (fk 12 (by omega)).symm
                · rw [fb 13 (by omega)]; exact d6.trans (fk 13 (by omega)).symm
            · have hn : ∀ j, j < 238 → ly_u E 108 36 (nI (G + 1)) 100 (224 + 238 * g + j) = I 100 (224 + 238 * g + j) := fun j hj => by rw [f100, hB100 _ (by omega)]
              refine ⟨dk_R_eq (b9 g hg).1 (fun k _ => hF _ _ (by omega) (by omega) (by omega) (by omega) (by omega) (by omega)) (fun k _ => hn k (by omega)), ?_, fun v hv => ?_⟩
              · rw [hF 101 g (by omega) (by omega) (by omega) (by omega) (by omega) (by omega), hF (555 + g) 0 (by omega) (by omega) (by omega) (by omega) (by omega) (by omega)]; exact (b9 g hg).2.1
              · refine dk_R_eq ((b9 g hg).2.2 v hv) (fun k _ => hF _ _ (by omega) (by omega) (by omega) (by omega) (by omega) (by omega)) (fun k _ => ?_)
                have := hn (14 + v * 14 + k) (by omega)
                rw [show 224 + 238 * g + 14 + v * 14 + k = 224 + 238 * g + (14 + v * 14 + k) by omega]
                exact this
          · by_cases eg : g = G
            · subst eg
              refine ⟨dk_W_eq hr (fun k hk => by rw [hFE _ _ (by omega)]; exact kk k hk), W, b1, by rw [hFE _ _ (by omega)]; exact k0, fun v hv => dk_W_eq (b8 v hv) (fun k hk => by rw [hFE _ _ (by omega)]; exact kv v (by omega) k hk)⟩
            · obtain ⟨d1, V, d2, d3, d4⟩ := b10 g (by omega)
              exact ⟨dk_W_eq d1 (fun k _ => hF _ _ (by omega) (by omega) (by omega) (by omega) (by omega) (by omega)), V, d2, by rw [hF _ _ (by omega) (by omega) (by omega) (by omega) (by omega) (by omega)]; exact d3, fun v hv => dk_W_eq (d4 v hv) (fun k _ => hF _ _ (by omega) (by omega) (by omega) (by omega) (by omega) (by omega))⟩
        · intro i j e; unfold dCC at e; exact hF i j (by omega) (by omega) (by omega) (by omega) (by omega) (by omega)
        · intro i j e; unfold dK at e; exact hF i j (by omega) (by omega) (by omega) (by omega) (by omega) (by omega)
        · intro i j e; unfold dL at e; exact hF i j (by omega) (by omega) (by omega) (by omega) (by omega) (by omega)
end IMH
