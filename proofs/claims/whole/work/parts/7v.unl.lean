/-! unlike: the model, both agree -/
section UNM
variable {c w : Nat} {S : Nat → pmS} {I I1 I2 J A D : Nat → Nat → Int32} {K K1 K2 : Nat → Nat → Int64} {n : Nat} {wd : Nat → Nat} {q : Nat → Nat → Nat} {r : Nat → Int32} {a : Nat} {se : Nat → Nat} {W G d : Nat} {s : Nat → Nat} {R : Nat → Nat → Int64} {N b : Nat} {Y : Nat → Nat}
theorem ur_0 {Y : Nat → Nat} {v : Nat} : ∀ p, ur Y p 0 v = 0
  | 0 => rfl
  | p + 1 => by
    show ust (Y p) (ur Y p) 0 v = 0
    unfold ust
    rw [if_neg (by omega)]
    exact ur_0 p
theorem fv_z (h : ∀ v, R 0 v = 0) : fv R 0 = 1 := by
  unfold fv
  rw [if_pos rfl, sm_c (g := fun _ => 0) (fun j _ => h j), show sm (fun _ => (0 : Int64)) 16 = 0 from by decide, Int64.add_zero]
/-- what is written for one word at one length -/
theorem ua_M {p m : Nat} {a78 a86 : Int32 × pmM → pmR} (h : ly c S) (hm : m < 12) (hR0 : ∀ v, R 0 v = 0) (hK : ∀ v, v < 16 → K (567 + m) v = R m v) : X9_unlike_j102 a78 a86 108 (nI b) (nI N) (nI p) (nI (m + 1)) (if m = 0 then 1 else 0) (c, w, S, D, K) = X9_unlike_j143 a78 a86 108 (nI b) (nI N) (nI p) (nI (m + 1)) (fv R m) (c, w, S, D, K) := by
  unfold X9_unlike_j102
  by_cases e : m = 0
  · subst e
    rw [fv_z hR0]
    show pm_lp (99999 + 1) _ _ = _
    rw [ly_S]
    unfold X9_unlike_L107
    simp only
    rw [if_neg (show ¬ (16 : Int32) ≤ 0 from by decide), if_pos (show nI (0 + 1) ≤ 1 from by decide)]
    rfl
  · have := ly_loop (body := X9_unlike_L107 a78 a86 108 (nI b) (nI N) (nI p) (nI (m + 1))) (fun i (_ : Unit) => (((if m = 0 then 1 else 0) + sm (R m) i, nI i, (c, w, S, D, K)) : Int64 × Int32 × pmM)) 16 (fun _ _ => True) (fun Z => Z = X9_unlike_j143 a78 a86 108 (nI b) (nI N) (nI p) (nI (m + 1)) (fv R m) (c, w, S, D, K)) ?_ ?_ pm_N 0 () trivial (by omega) (by rw [pm_NE]; omega)
    · rw [show (if m = 0 then (1 : Int64) else 0) + sm (R m) 0 = (if m = 0 then 1 else 0) from Int64.add_zero _] at this
      exact this
    · intro again i _ hi _ hn
      have hn1 := hn () trivial
      rw [sm_s, ← Int64.add_assoc] at hn1
      unfold X9_unlike_L107
      simp only
      rw [if_neg (show ¬ (16 : Int32) ≤ nI i from nI_ge (b := 16) hi (by omega)), if_neg (show ¬ nI (m + 1) ≤ 1 from (show ¬ nI (m + 1) ≤ nI 1 from nI_ge (by omega) (by omega))), lr_108_48 h, show nI (m + 1) - 1 = nI m from nI_pred m, lr_566 h (by omega), ld_567 h (by omega) hi, hK i hi, ly_bL, ly_bI, nI_1]
      exact hn1
    · intro again _ _
      unfold X9_unlike_L107
      simp only
      rw [if_pos (show (16 : Int32) ≤ nI 16 from by decide)]
      rfl
theorem ui_M {p : Nat} {Rp : pmR → Prop} {a78 : Int32 × pmM → pmR} (h : ly c S) (hb : b ≤ 12) (hp : p < 48) (hY : D 558 p = nI (Y p) ∧ Y p < 16) (hR0 : ∀ v, R 0 v = 0) (hK : (∀ m v, m ≤ b → v < 16 → K (567 + m) v = R m v) ∧ K 594 0 = K2 594 0) (hR : ∀ K', ((∀ m v, m ≤ b → v < 16 → K' (567 + m) v = ust (Y p) R m v) ∧ K' 594 0 = K2 594 0) → Rp (a78 (nI (p + 1), (c, w, S, D, K')))) : Rp (pm_lp pm_N (X9_unlike_L86 a78 108 (nI b) (nI N) (nI p)) (nI b, (c, w, S, D, K))) := by
  refine ly_loop (fun t (K' : Nat → Nat → Int64) => ((nI (b - t), (c, w, S, D, K')) : Int32 × pmM)) b (fun t K' => (∀ m v, m ≤ b → v < 16 → K' (567 + m) v = if m ≤ b - t then R m v else ust (Y p) R m v) ∧ K' 594 0 = K2 594 0) Rp ?_ ?_ pm_N 0 K ⟨fun m v hm hv => by rw [hK.1 m v hm hv, if_pos (by omega)], hK.2⟩ (by omega) (by rw [pm_NE]; omega)
  · intro again t K' ht hQ hn
    obtain ⟨hQ1, hQ2⟩ := hQ
    obtain ⟨u, hu⟩ : ∃ u, b - t = u + 1 := ⟨b - t - 1, by omega⟩
    have hu2 : b - (t + 1) = u := by omega
    rw [hu2] at hn
    rw [hu] at hQ1
    have hj := ua_M (w := w) (D := D) (b := b) (N := N) (p := p) (m := u) (a78 := a78) (a86 := again) (K := K') h (by omega) hR0 (fun v hv => by rw [hQ1 u v (by omega) hv, if_pos (by omega)])
    have ej : X9_unlike_L86 a78 108 (nI b) (nI N) (nI p) again (nI (b - t), (c, w, S, D, K')) = X9_unlike_j143 a78 again 108 (nI b) (nI N) (nI p) (nI (u + 1)) (fv R u) (c, w, S, D, K') := by
      rw [← hj]
      unfold X9_unlike_L86
      simp only
      rw [hu, if_neg (show ¬ nI (u + 1) ≤ 0 from (show ¬ nI (u + 1) ≤ nI 0 from nI_ge (by omega) (by omega)))]
      by_cases e : u = 0
      · subst e; rw [if_pos (show nI (0 + 1) = 1 from rfl), if_pos rfl]
      · rw [if_neg (show ¬ nI (u + 1) = 1 from fun e2 => e (by have := (nI_eq (b := 1) (by omega) (by omega)).mp e2; omega)), if_neg e]
    rw [ej]
    unfold X9_unlike_j143
    rw [lr_108_48 h, lr_566 h (by omega), lr_108_40 h, ld_558 h hp, hY.1, ls_567 h (by omega) hY.2, nI_dn, ly_bI]
    refine hn _ ⟨fun m v hm hv => ?_, by rw [ly_vE, if_neg (by omega)]; exact hQ2⟩
    rw [ly_vE]
    by_cases ek : m = u + 1 ∧ v = Y p
    · obtain ⟨rfl, rfl⟩ := ek
      rw [if_pos ⟨rfl, rfl⟩, if_neg (by omega)]
      unfold ust; rw [if_pos ⟨rfl, by omega⟩]; rfl
    · rw [if_neg (by omega), hQ1 m v hm hv]
      by_cases e : m ≤ u
      · rw [if_pos (by omega), if_pos e]
      · by_cases e2 : m = u + 1
        · rw [if_pos (by omega), if_neg e]
          unfold ust; rw [if_neg (fun e3 => ek ⟨e2, e3.1⟩)]
        · rw [if_neg (by omega), if_neg e]
  · intro again K' hQ
    unfold X9_unlike_L86
    simp only
    rw [Nat.sub_self] at hQ ⊢
    rw [if_pos (show nI 0 ≤ 0 from by decide), ly_bI, nI_1]
    refine hR K' ⟨fun m v hm hv => ?_, hQ.2⟩
    rw [hQ.1 m v hm hv]
    by_cases e : m ≤ 0
    · rw [if_pos e]; unfold ust; rw [if_neg (by omega)]
    · rw [if_neg e]
theorem ue_M (h : ly c S) (hb : b ≤ 12) (hK : ∀ v, v < 16 → K (567 + b) v = R b v) : X9_unlike_j180 108 (nI b) (if b = 0 then 1 else 0) (c, w, S, D, K) = pm_oL (fv R b) (c, w, S, D, K) := by
  unfold X9_unlike_j180
  have := ly_loop (body := X9_unlike_L184 108 (nI b)) (fun i (_ : Unit) => (((if b = 0 then 1 else 0) + sm (R b) i, nI i, (c, w, S, D, K)) : Int64 × Int32 × pmM)) 16 (fun _ _ => True) (fun Z => Z = pm_oL (fv R b) (c, w, S, D, K)) ?_ ?_ pm_N 0 () trivial (by omega) (by rw [pm_NE]; omega)
  · rw [show (if b = 0 then (1 : Int64) else 0) + sm (R b) 0 = (if b = 0 then 1 else 0) from Int64.add_zero _] at this
    exact this
  · intro again i _ hi _ hn
    have hn1 := hn () trivial
    rw [sm_s, ← Int64.add_assoc] at hn1
    unfold X9_unlike_L184
    simp only
    rw [if_neg (show ¬ (16 : Int32) ≤ nI i from nI_ge (b := 16) hi (by omega)), lr_108_48 h, lr_566 h (by omega), ld_567 h (by omega) hi, hK i hi, ly_bL, ly_bI, nI_1]
    exact hn1
  · intro again _ _
    unfold X9_unlike_L184
    simp only
    rw [if_pos (show (16 : Int32) ≤ nI 16 from by decide)]
    rfl
theorem up_M (h : ly c S) (hb : b ≤ 12) (hN : N ≤ 48) (hY : ∀ p, p < N → D 558 p = nI (Y p) ∧ Y p < 16) (hK : (∀ m v, m ≤ b → v < 16 → K (567 + m) v = 0) ∧ K 594 0 = K2 594 0) : ∃ K', pm_lp pm_N (X9_unlike_L78 108 (nI b) (nI N)) (0, (c, w, S, D, K)) = pm_oL (fv (ur Y N) b) (c, w, S, D, K') ∧ K' 594 0 = K2 594 0 := by
  refine ly_loop (fun p (K' : Nat → Nat → Int64) => ((nI p, (c, w, S, D, K')) : Int32 × pmM)) N (fun p K' => (∀ m v, m ≤ b → v < 16 → K' (567 + m) v = ur Y p m v) ∧ K' 594 0 = K2 594 0) (fun Z => ∃ K', Z = pm_oL (fv (ur Y N) b) (c, w, S, D, K') ∧ K' 594 0 = K2 594 0) ?_ ?_ pm_N 0 K hK (by omega) (by rw [pm_NE]; omega)
  · intro again p K' hp hQ hn
    unfold X9_unlike_L78
    simp only
    rw [if_neg (nI_ge hp (by omega))]
    exact ui_M (K2 := K2) (Rp := fun Z => ∃ K', Z = pm_oL (fv (ur Y N) b) (c, w, S, D, K') ∧ K' 594 0 = K2 594 0) h hb (by omega) (hY p hp) (fun v => ur_0 p) hQ (fun K3 hK3 => hn K3 hK3)
  · intro again K' hQ
    have he := ue_M (w := w) (D := D) (K := K') (R := ur Y N) h hb (fun v hv => hQ.1 b v (Nat.le_refl _) hv)
    unfold X9_unlike_L78
    simp only
    rw [if_pos (nI_le (Nat.le_refl _) (by omega))]
    by_cases e : b = 0
    · subst e
      rw [n00]
      exact ⟨K', he, hQ.2⟩
    · rw [if_neg (show ¬ nI b = 0 from fun e2 => e ((nI_eq (b := 0) (by omega) (by omega)).mp e2))]
      rw [if_neg e] at he
      exact ⟨K', he, hQ.2⟩
theorem uz_M {x : Int32} {Z : pmR → Prop} (h : ly c S) (hR : ∀ K', (∀ m v, m ≤ 12 → v < 16 → K' (567 + m) v = 0) ∧ K' 594 0 = K 594 0 → Z (pm_lp pm_N (X9_unlike_L78 108 (nI b) x) (0, (c, w, S, D, K')))) : Z (pm_lp pm_N (X9_unlike_L38 108 (nI b) x) (0, (c, w, S, D, K))) := by
  refine ly_loop (fun i (K' : Nat → Nat → Int64) => ((nI i, (c, w, S, D, K')) : Int32 × pmM)) 13 (fun i K' => (∀ m v, m < i → v < 16 → K' (567 + m) v = 0) ∧ K' 594 0 = K 594 0) Z ?_ ?_ pm_N 0 K ⟨fun m v hm => by omega, rfl⟩ (by omega) (by rw [pm_NE]; omega)
  · intro again i K' hi hQ hn
    unfold X9_unlike_L38
    simp only
    rw [if_neg (show ¬ (12 : Int32) < nI i from Int32.not_lt.mpr (nI_le (b := 12) (by omega) (by omega)))]
    refine ly_loop (fun j (K' : Nat → Nat → Int64) => ((nI j, (c, w, S, D, K')) : Int32 × pmM)) 16 (fun j K' => ((∀ m v, m < i → v < 16 → K' (567 + m) v = 0) ∧ ∀ v, v < j → K' (567 + i) v = 0) ∧ K' 594 0 = K 594 0) Z ?_ ?_ pm_N 0 K' ⟨⟨hQ.1, fun v hv => by omega⟩, hQ.2⟩ (by omega) (by rw [pm_NE]; omega)
    · intro again2 j K4 hj hQ4 hn4
      unfold X9_unlike_L47
      simp only
      rw [if_neg (show ¬ (16 : Int32) ≤ nI j from nI_ge (b := 16) hj (by omega)), lr_108_48 h, lr_566 h (by omega), ls_567 h (by omega) hj, ly_bI, nI_1]
      refine hn4 _ ⟨⟨fun m v hm hv => ?_, fun v hv => ?_⟩, by rw [ly_vE, if_neg (by omega)]; exact hQ4.2⟩
      · rw [ly_vE, if_neg (by omega)]; exact hQ4.1.1 m v hm hv
      · rw [ly_vE]
        by_cases e : v = j
        · rw [if_pos ⟨rfl, e⟩]
        · rw [if_neg (fun e2 => e e2.2)]; exact hQ4.1.2 v (by omega)
    · intro again2 K4 hQ4
      unfold X9_unlike_L47
      simp only
      rw [if_pos (show (16 : Int32) ≤ nI 16 from by decide), ly_bI, nI_1]
      refine hn _ ⟨fun m v hm hv => ?_, hQ4.2⟩
      rcases Nat.lt_or_ge m i with e | e
      · exact hQ4.1.1 m v e hv
      · have : m = i := by omega
        subst this; exact hQ4.1.2 v hv
  · intro again K' hQ
    unfold X9_unlike_L38
    simp only
    rw [if_pos (show (12 : Int32) < nI 13 from by decide)]
    exact hR K' ⟨fun m v hm hv => hQ.1 m v (by omega) hv, hQ.2⟩
theorem ca_unlike (y : Int32) (h : ly c S) (hJ : JJ I n wd q r a se W G) : ag isL (I 0) c w S (fun k => k) (X8_unlike 64 y (c, w, S, I, K)) (X9_unlike 108 y) := by
  obtain ⟨hPC, hPM, hDC, hDM, hr, hT, hS, hH, hc, hk, hL⟩ := id hJ
  have hW := hPC.1
  have hn6 := hW.1
  have hsm := sum_48 hW (Nat.le_refl n)
  by_cases hy : 0 ≤ y ∧ y ≤ 12
  case neg =>
    have e15 : X8_unlike_j15 64 y 64 (c, w, S, I, K) = rX c w S I K 1 := by
      unfold X8_unlike_j15 X8_unlike_j16
      rw [lc_64 h, mu_cV h]
    refine ag_no (K := K) (k := 1) (b := .long 0) h hJ (by omega) ⟨_, rfl⟩ ?_ (fun c1 w1 S1 I1 K2 h1 hI => ?_)
    · unfold X8_unlike
      by_cases h1 : y < 0
      · rw [if_pos h1, e15]
      · rw [if_neg h1, if_pos (Int32.not_le.mp (fun e => hy ⟨Int32.not_lt.mp h1, e⟩)), e15]
    · unfold X9_unlike X9_unlike_j21
      rw [lp_108 h1, rm_in, ly_cI, decide_eq_false hy, ib0, lc_108 h1, bad_11 h1, ly_cI, i10]
  obtain ⟨b, hb, rfl⟩ := nI_of2 (n := 12) rfl (nI_lt0 hy.1) hy.2
  obtain ⟨K4, t1⟩ := un_C (w := w) (K := K) h hPC hb
  refine ag_ro (v := .long (fv (ur (flw wd q n) (rd_sum wd n)) b)) (I1 := I) (K1 := K4) h hJ ⟨_, rfl⟩ ?_ same_r (fun hJ1 K2 => ?_)
  · unfold X8_unlike X8_unlike_j16
    rw [if_neg (Int32.not_lt.mpr hy.1), if_neg (Int32.not_lt.mpr hy.2), lc_64 h, mu_cV1, lr_64_11 h, lc_102 h, t1, ly_cL]
  · obtain ⟨-, hPM1, -, hDM1, -, -, -, -, -, -, -⟩ := JJ_same hJ (s0 (I := I))
    obtain ⟨D, d1, d2, d3⟩ := lz_M (w := w) (K := K2) h hPM1 hDM1 hr
    have key : ∃ K', pm_lp pm_N (X9_unlike_L38 108 (nI b) (nI (rd_sum wd n))) (0, (c, w, S, D, K2)) = pm_oL (fv (ur (flw wd q n) (rd_sum wd n)) b) (c, w, S, D, K') ∧ K' 594 0 = K2 594 0 := by
      refine uz_M (Z := fun Z => ∃ K', Z = pm_oL (fv (ur (flw wd q n) (rd_sum wd n)) b) (c, w, S, D, K') ∧ K' 594 0 = K2 594 0) h (fun K' hK' => ?_)
      exact up_M h hb (by omega) (fun p hp => by
        obtain ⟨l, i, hl, hi, rfl⟩ := fl_ex hp
        have := hW.2.2.2 l i hl hi
        rw [flw_e hl hi]; exact ⟨(d3 l hl i hi).1, this⟩) ⟨fun m v hm hv => hK'.1 m v (by omega) hv, hK'.2⟩
    obtain ⟨K5, k1, k2⟩ := key
    refine ⟨D, K5, ?_, by rw [d2 108 0 (by unfold PZ; omega)]; exact z0', fun i j hn => ((PZ_same d2) i j hn).trans (s0 i j hn), k2⟩
    unfold X9_unlike X9_unlike_j21
    rw [lp_108 h, rm_in, ly_cI, decide_eq_true hy, ib1, lc_108 h, bad_z h, ly_cI, i00, lc_108 h, d1, ly_cI, k1]
end UNM
