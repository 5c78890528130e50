/-! bytes on the tape -/
section FED
variable {c w : Nat} {S : Nat → pmS} {I I1 I2 A : Nat → Nat → Int32} {K K1 : Nat → Nat → Int64} {n : Nat} {wd : Nat → Nat} {q : Nat → Nat → Nat} {r : Nat → Int32} {a : Nat} {se : Nat → Nat} {W G F : Nat}
def fbn (x : Int32) (j : Nat) : Nat := x.toBitVec.toNat / 2 ^ (24 - 8 * j) % 256
theorem fd_M0 (x : Int32) (s : Int32) (k : Nat) (hs : (s.toBitVec.smod 32).toNat = k) (hk : k = 0 ∨ k = 8 ∨ k = 16 ∨ k = 24) : ((x >>> s) &&& 255) = nI (x.toBitVec.toNat / 2 ^ k % 256) := by
  rw [pk_and (x >>> s) 8 (by decide)]
  congr 1
  have h1 := pk_shr x s k hs
  rw [Int.shiftRight_eq_div_pow] at h1
  have e1 := tI_c x
  have e2 := tI_c (x >>> s)
  have b1 : x.toBitVec.toNat < 2 ^ 32 := x.toBitVec.isLt
  have b2 : (x >>> s).toBitVec.toNat < 2 ^ 32 := (x >>> s).toBitVec.isLt
  generalize (x >>> s).toBitVec.toNat = Y at *
  generalize (x >>> s).toInt = YI at *
  generalize x.toBitVec.toNat = X at *
  generalize x.toInt = XI at *
  rcases hk with rfl | rfl | rfl | rfl
  all_goals
    simp only [Nat.reducePow] at *
    split at e1 <;> split at e2 <;> omega
theorem fd_C (x : Int32) : ∀ j, j < 4 → ((x.toUInt32 >>> ((nI (24 - 8 * j)).toUInt32 &&& Int32.toUInt32 31)).toInt32 &&& 255) = nI (fbn x j) := by
  intro j hj
  have hh : ∀ j, j < 4 → (((nI (24 - 8 * j)).toUInt32 &&& Int32.toUInt32 31).toBitVec % 32).toNat = 24 - 8 * j := by decide
  rw [pk_and _ 8 (by decide), pk_ushr x _ (24 - 8 * j) (hh j hj)]
  rfl
theorem fd_M (x : Int32) (j : Nat) (hj : j < 4) : ((x >>> (nI (24 - 8 * j) &&& 31)) &&& 255) = nI (fbn x j) := by
  have hh : ∀ j, j < 4 → ((nI (24 - 8 * j) &&& 31).toBitVec.smod 32).toNat = 24 - 8 * j := by decide
  exact fd_M0 x _ _ (hh j hj) (by omega)
def shv (i : Nat) : Int32 := if i < 4 then nI (24 - 8 * i) else -8
theorem shv_s : ∀ i, i < 4 → nI (24 - 8 * i) + (-8) = shv (i + 1) := by decide
theorem pu_C {x : Int32} (h : ly c S) (hF : I 65 1 = nI F) (hF4 : F + 4 ≤ 600) : ∃ I1, X7_put 65 x (c, w, S, I, K) = pm_oV (c, w, S, I1, K) ∧ I1 65 1 = nI (F + 4) ∧ (∀ j, j < 4 → I1 66 (F + j) = nI (fbn x j)) ∧ only (fun i k => (i = 65 ∧ k = 1) ∨ (i = 66 ∧ F ≤ k ∧ k < F + 4)) I I1 := by
  unfold X7_put
  refine ly_loop (fun i (A : Nat → Nat → Int32) => ((shv i, (c, w, S, A, K)) : Int32 × pmM)) 4 (fun i A => A 65 1 = nI (F + i) ∧ (∀ j, j < i → A 66 (F + j) = nI (fbn x j)) ∧ only (fun i k => (i = 65 ∧ k = 1) ∨ (i = 66 ∧ F ≤ k ∧ k < F + 4)) I A) (fun R => ∃ I1, R = pm_oV (c, w, S, I1, K) ∧ I1 65 1 = nI (F + 4) ∧ (∀ j, j < 4 → I1 66 (F + j) = nI (fbn x j)) ∧ only (fun i k => (i = 65 ∧ k = 1) ∨ (i = 66 ∧ F ≤ k ∧ k < F + 4)) I I1) ?_ ?_ pm_N 0 I ⟨hF, fun j hj => by omega, only_r⟩ (by omega) (by rw [pm_NE]; omega)
  · intro again i A hi hQ hn
    obtain ⟨q1, q2, q3⟩ := hQ
    have e : shv i = nI (24 - 8 * i) := if_pos hi
    have eu : ly_u A 66 (F + i) (nI (fbn x i)) 65 1 = nI (F + i) := by rw [ly_uE, if_neg (by omega)]; exact q1
    unfold X7_put_L3
    simp only
    rw [e, if_neg (nI_pos (by omega)), lg_65 h, q1, if_neg (show ¬ (600 : Int32) ≤ nI (F + i) from nI_ge (b := 600) (by omega) (by omega)), lr_65_0 h, lg_65 h, q1, fd_C x i hi, ls_66 h (by omega), lg_65 h, eu, lp_65 h, nI_1, ly_bI, shv_s i hi]
    refine hn _ ⟨?_, fun j hj => ?_, only_u (only_u q3 (by omega)) (by omega)⟩
    · rw [ly_uE, if_pos ⟨rfl, rfl⟩]
      rfl
    · rw [ly_uE, if_neg (by omega)]
      by_cases ej : j = i
      · subst ej
        rw [ly_uE, if_pos ⟨rfl, rfl⟩]
      · rw [ly_uE, if_neg (by omega)]
        exact q2 j (by omega)
  · intro again A hQ
    unfold X7_put_L3 X7_put_j49
    simp only
    rw [if_pos (show shv 4 < 0 by decide)]
    exact ⟨A, rfl, hQ⟩
/-- the k-th of five -/
def av5 (a b c d e : Int32) (u : Nat) : Int32 := if u = 0 then a else if u = 1 then b else if u = 2 then c else if u = 3 then d else e
theorem ca_feed (x1 x2 x3 x4 x5 : Int32) (h : ly c S) (hJ : JJ I n wd q r a se W G) : ag isI (I 0) c w S (fun _ => 0) (X8_feed 64 x1 x2 x3 x4 x5 (c, w, S, I, K)) (X9_feed 108 x1 x2 x3 x4 x5) := by
  obtain ⟨hPC, hPM, hDC, hDM, hr, hT, hS, hH, hc, hk, hL⟩ := id hJ
  obtain ⟨⟨F, hF6, hF1, hF2⟩, hB, hfa⟩ := hT
  by_cases hF : F + 20 ≤ 600
  · obtain ⟨A1, g1, t1, u1, o1⟩ := pu_C (w := w) (K := K) (x := x1) h hF1 (by omega)
    obtain ⟨A2, g2, t2, u2, o2⟩ := pu_C (w := w) (K := K) (x := x2) h t1 (by omega)
    obtain ⟨A3, g3, t3, u3, o3⟩ := pu_C (w := w) (K := K) (x := x3) h t2 (by omega)
    obtain ⟨A4, g4, t4, u4, o4⟩ := pu_C (w := w) (K := K) (x := x4) h t3 (by omega)
    obtain ⟨A5, g5, t5, u5, o5⟩ := pu_C (w := w) (K := K) (x := x5) h t4 (by omega)
    have hA : ∀ i j, ¬ ((i = 65 ∧ j = 1) ∨ (i = 66 ∧ F ≤ j ∧ j < F + 20)) → A5 i j = I i j := fun i j hn => by
      rw [o5 i j (by omega), o4 i j (by omega), o3 i j (by omega), o2 i j (by omega), o1 i j (by omega)]
    have hv : ∀ k, k < 20 → A5 66 (F + k) = nI (fbn (av5 x1 x2 x3 x4 x5 (k / 4)) (k % 4)) := fun k hk => by
      have hu : k / 4 = 0 ∨ k / 4 = 1 ∨ k / 4 = 2 ∨ k / 4 = 3 ∨ k / 4 = 4 := by omega
      rcases hu with e | e | e | e | e
      · rw [e, o5 _ _ (by omega), o4 _ _ (by omega), o3 _ _ (by omega), o2 _ _ (by omega)]
        have := u1 (k % 4) (by omega)
        rw [show F + k % 4 = F + k by omega] at this
        exact this
      · rw [e, o5 _ _ (by omega), o4 _ _ (by omega), o3 _ _ (by omega)]
        have := u2 (k % 4) (by omega)
        rw [show F + 4 + k % 4 = F + k by omega] at this
        exact this
      · rw [e, o5 _ _ (by omega), o4 _ _ (by omega)]
        have := u3 (k % 4) (by omega)
        rw [show F + 4 + 4 + k % 4 = F + k by omega] at this
        exact this
      · rw [e, o5 _ _ (by omega)]
        have := u4 (k % 4) (by omega)
        rw [show F + 4 + 4 + 4 + k % 4 = F + k by omega] at this
        exact this
      · rw [e]
        have := u5 (k % 4) (by omega)
        rw [show F + 4 + 4 + 4 + 4 + k % 4 = F + k by omega] at this
        exact this
    have t20 : A5 65 1 = nI (F + 20) := t5
    refine ⟨c, w, S, A5, K, ⟨by omega, by omega, by omega, h, rfl, fun j => hA 0 j (by omega)⟩, Or.inl ⟨.int (nI (F + 20)), ⟨_, rfl⟩, ?_, fun K2 => ?_⟩⟩
    · unfold X8_feed
      rw [lr_64_0 h, lg_65 h, hF1, show nI F + (20 : Int32) = nI (F + 20) from nI_add F 20, if_pos (show nI (F + 20) ≤ 600 from nI_le (b := 600) hF (by omega)), lr_64_0 h, lc_65 h, g1, ly_cV, lr_64_0 h, lc_65 h, g2, ly_cV, lr_64_0 h, lc_65 h, g3, ly_cV, lr_64_0 h, lc_65 h, g4, ly_cV, lr_64_0 h, lc_65 h, g5, ly_cV, lr_64_0 h, lg_65 h, t20]
    · have m1 : ly_u A5 108 0 0 108 1 = nI F := by rw [u0 (by omega), hA 108 1 (by omega)]; exact hF2
      have key : ∃ E, X9_feed 108 x1 x2 x3 x4 x5 (c, w, S, A5, K2) = pm_oI (nI (F + 20)) (c, w, S, E, K2) ∧ E 108 1 = nI (F + 20) ∧ (∀ j, j < 20 → E 109 (F + j) = nI (fbn (av5 x1 x2 x3 x4 x5 (j / 4)) (j % 4))) ∧ only (fun i k => (i = 108 ∧ k = 1) ∨ (i = 109 ∧ F ≤ k ∧ k < F + 20)) (ly_u A5 108 0 0) E := by
        unfold X9_feed
        rw [lp_108 h, lg_108 h, m1, show nI F + (20 : Int32) = nI (F + 20) from nI_add F 20, if_pos (show nI (F + 20) ≤ 600 from nI_le (b := 600) hF (by omega))]
        refine ly_loop (fun i (A : Nat → Nat → Int32) => ((nI i, (c, w, S, A, K2)) : Int32 × pmM)) 20 (fun i A => A 108 1 = nI (F + i) ∧ (∀ j, j < i → A 109 (F + j) = nI (fbn (av5 x1 x2 x3 x4 x5 (j / 4)) (j % 4))) ∧ only (fun i k => (i = 108 ∧ k = 1) ∨ (i = 109 ∧ F ≤ k ∧ k < F + 20)) (ly_u A5 108 0 0) A) (fun R => ∃ E, R = pm_oI (nI (F + 20)) (c, w, S, E, K2) ∧ E 108 1 = nI (F + 20) ∧ (∀ j, j < 20 → E 109 (F + j) = nI (fbn (av5 x1 x2 x3 x4 x5 (j / 4)) (j % 4))) ∧ only (fun i k => (i = 108 ∧ k = 1) ∨ (i = 109 ∧ F ≤ k ∧ k < F + 20)) (ly_u A5 108 0 0) E) ?_ ?_ pm_N 0 (ly_u A5 108 0 0) ⟨m1, fun j hj => by omega, only_r⟩ (by omega) (by rw [pm_NE]; omega)
        · intro again i A hi hQ hn
          obtain ⟨q1, q2, q3⟩ := hQ
          have hj : ∀ y, X9_feed_j76 again 108 x1 x2 x3 x4 x5 (nI i) y (c, w, S, A, K2) = again (nI (i + 1), (c, w, S, ly_u (ly_u A 109 (F + i) (nI (fbn y (i % 4)))) 108 1 (nI (F + (i + 1))), K2)) := fun y => by
            have es : ((24 : Int32) - ((8 : Int32) * (nI i - nI i / 4 * 4))) = nI (24 - 8 * (i % 4)) := by
              rw [show nI i - nI i / (4 : Int32) * 4 = nI (i % 4) from pk_rem (d := 4) (by omega) (by omega) (by omega), show (8 : Int32) * nI (i % 4) = nI (8 * (i % 4)) from pk_mul 8 _]
              exact pk_sub (a := 24) (by omega)
            unfold X9_feed_j76
            rw [lr_108_9 h, lg_108 h, q1, if_neg (show ¬ (4 : Int32) = 0 by decide), es, fd_M y (i % 4) (by omega), ls_109 h (by omega), lg_108 h, show ly_u A 109 (F + i) (nI (fbn y (i % 4))) 108 1 = nI (F + i) by rw [ly_uE, if_neg (by omega)]; exact q1, lp_108 h, nI_1, ly_bI, nI_1]
            rfl
          have hsel : X9_feed_L23 108 x1 x2 x3 x4 x5 again (nI i, (c, w, S, A, K2)) = X9_feed_j76 again 108 x1 x2 x3 x4 x5 (nI i) (av5 x1 x2 x3 x4 x5 (i / 4)) (c, w, S, A, K2) := by
            unfold X9_feed_L23
            simp only
            rw [if_neg (show ¬ (20 : Int32) ≤ nI i from nI_ge (b := 20) hi (by omega))]
            by_cases b1 : i < 4
            · rw [if_neg (show ¬ (4 : Int32) ≤ nI i from nI_ge (b := 4) b1 (by omega)), show i / 4 = 0 by omega]; rfl
            · rw [if_pos (show (4 : Int32) ≤ nI i from nI_le (a := 4) (by omega) (by omega))]
              by_cases b2 : i < 8
              · rw [if_neg (show ¬ (8 : Int32) ≤ nI i from nI_ge (b := 8) b2 (by omega)), show i / 4 = 1 by omega]; rfl
              · rw [if_pos (show (8 : Int32) ≤ nI i from nI_le (a := 8) (by omega) (by omega))]
                by_cases b3 : i < 12
                · rw [if_neg (show ¬ (12 : Int32) ≤ nI i from nI_ge (b := 12) b3 (by omega)), show i / 4 = 2 by omega]; rfl
                · rw [if_pos (show (12 : Int32) ≤ nI i from nI_le (a := 12) (by omega) (by omega))]
                  by_cases b4 : i < 16
                  · rw [if_neg (show ¬ (16 : Int32) ≤ nI i from nI_ge (b := 16) b4 (by omega)), show i / 4 = 3 by omega]; rfl
                  · rw [if_pos (show (16 : Int32) ≤ nI i from nI_le (a := 16) (by omega) (by omega)), show i / 4 = 4 by omega]; rfl
          rw [hsel, hj]
          refine hn _ ⟨by rw [ly_uE, if_pos ⟨rfl, rfl⟩], fun j hj2 => ?_, only_u (only_u q3 (by omega)) (by omega)⟩
          rw [ly_uE, if_neg (by omega)]
          by_cases ej : j = i
          · subst ej
            rw [ly_uE, if_pos ⟨rfl, rfl⟩]
          · rw [ly_uE, if_neg (by omega)]
            exact q2 j (by omega)
        · intro again A hQ
          obtain ⟨q1, q2, q3⟩ := hQ
          unfold X9_feed_L23
          simp only
          rw [if_pos (show (20 : Int32) ≤ nI 20 by decide), lg_108 h, q1]
          exact ⟨A, rfl, q1, q2, q3⟩
      obtain ⟨E, k1, k2, k3, k4⟩ := key
      have hE : ∀ i j, ¬ ((i = 65 ∧ j = 1) ∨ (i = 66 ∧ F ≤ j ∧ j < F + 20)) → ¬ ((i = 108 ∧ (j = 0 ∨ j = 1)) ∨ (i = 109 ∧ F ≤ j ∧ j < F + 20)) → E i j = I i j := fun i j n1 n2 => by
        rw [k4 i j (by omega), u0 (by omega)]; exact hA i j n1
      have hEA : ∀ i j, ¬ ((i = 108 ∧ (j = 0 ∨ j = 1)) ∨ (i = 109 ∧ F ≤ j ∧ j < F + 20)) → E i j = A5 i j := fun i j n2 => by rw [k4 i j (by omega), u0 (by omega)]
      refine ⟨E, K2, k1, ?_, ⟨fun j => hE 0 j (by omega) (by omega), n, wd, q, r, a, se, W, G, ?_⟩, rfl⟩
      · rw [k4 108 0 (by omega)]; exact z0'
      · refine ⟨pg_C_c hPC ?_, pg_M_c hPM ?_, dk_C_c hDC ?_, dk_M_c hDM ?_, hr, ?_, js_c hS ?_, jh_c hH ?_, jc_c hc ?_, jk_c hk ?_, jl_c hL ?_⟩
        · intro i j e; unfold dPC at e; exact hE i j (by omega) (by omega)
        · intro i j e; unfold dPM at e; exact hE i j (by omega) (by omega)
        · intro i j e; unfold dDC at e; exact hE i j (by omega) (by omega)
        · intro i j e; unfold dDM at e; exact hE i j (by omega) (by omega)
        · refine ⟨⟨F + 20, hF, by rw [hEA 65 1 (by omega)]; exact t20, k2⟩, fun k hk => ?_, ?_⟩
          · by_cases hin : F ≤ k ∧ k < F + 20
            · have e1 := hv (k - F) (by omega)
              have e2 := k3 (k - F) (by omega)
              rw [show F + (k - F) = k by omega] at e1 e2
              rw [hEA 66 k (by omega), e1, e2]
              exact ⟨rfl, _, by unfold fbn; omega, rfl⟩
            · rw [hE 66 k (by omega) (by omega), hE 109 k (by omega) (by omega)]
              exact hB k hk
          · rw [hE 65 7 (by omega) (by omega), hE 108 3 (by omega) (by omega)]; exact hfa
        · intro i j e; unfold dS at e; exact hE i j (by omega) (by omega)
        · intro i j e; unfold dH at e; exact hE i j (by omega) (by omega)
        · intro i j e; unfold dCC at e; exact hE i j (by omega) (by omega)
        · intro i j e; unfold dK at e; exact hE i j (by omega) (by omega)
        · intro i j e; unfold dL at e; exact hE i j (by omega) (by omega)
  · refine ag_ro (v := .int (-1)) (I1 := I) (K1 := K) h hJ ⟨_, rfl⟩ ?_ same_r (fun hJ1 K2 => ⟨ly_u I 108 0 0, K2, ?_, z0', s0, rfl⟩)
    · unfold X8_feed
      rw [lr_64_0 h, lg_65 h, hF1, show nI F + (20 : Int32) = nI (F + 20) from nI_add F 20, if_neg (show ¬ nI (F + 20) ≤ 600 from nI_ge (a := 600) (by omega) (by omega))]
    · unfold X9_feed
      rw [lp_108 h, lg_108 h, u0 (by omega), hF2, show nI F + (20 : Int32) = nI (F + 20) from nI_add F 20, if_neg (show ¬ nI (F + 20) ≤ 600 from nI_ge (a := 600) (by omega) (by omega))]
end FED
