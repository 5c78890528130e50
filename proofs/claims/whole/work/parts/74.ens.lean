/-! ends -/
section ENS
variable {c w : Nat} {S : Nat → pmS} {I I1 I2 J : Nat → Nat → Int32} {K K1 : Nat → Nat → Int64} {n : Nat} {wd : Nat → Nat} {q : Nat → Nat → Nat} {r : Nat → Int32} {a : Nat} {se : Nat → Nat} {W G d : Nat} {lw : (Nat → Int32) → Int32} {Q : Nat} {D : Int32 → Nat} {X : Int32 → Int32}
/-- deeds until it is over -/
def enk (n : Nat) (wd : Nat → Nat) (q : Nat → Nat → Nat) : Nat → Nat → (Nat → Int32) → Int32
  | 0, _, _ => -1
  | f + 1, i, r => if (dd n wd q r).1 then enk n wd q f (i + 1) (dd n wd q r).2 else nI i
theorem enk_0 {i : Nat} : enk n wd q 0 i r = -1 := rfl
theorem enk_s {f i : Nat} : enk n wd q (f + 1) i r = if (dd n wd q r).1 then enk n wd q f (i + 1) (dd n wd q r).2 else nI i := rfl
theorem ca_ends (h : ly c S) (hJ : JJ I n wd q r a se W G) : ag isI (I 0) c w S (fun _ => 0) (X8_ends 64 (c, w, S, I, K)) (X9_ends 108) := by
  obtain ⟨hPC, hPM, hDC, hDM, hr, -⟩ := id hJ
  have hn6 := hPC.1.1
  obtain ⟨A, g1, g2, g3⟩ := to_C (w := w) (K := K) h hDC
  have hEA := eC_o dk_96 (eCJ hJ) g3
  have key : ∃ B, X8_ends 64 (c, w, S, I, K) = pm_oI (enk n wd q 1000 0 r) (c, w, S, B, K) ∧ only (PD 96) A B := by
    unfold X8_ends
    rw [lr_64_9 h, lr_64_8 h, lc_96 h, g1, ly_cV]
    refine ly_loop (fun i (x : (Nat → Nat → Int32) × (Nat → Int32)) => ((nI i, (c, w, S, x.1, K)) : Int32 × pmM)) 1000 (fun i x => dk_C x.1 96 x.2 ∧ dk_W n wd x.2 ∧ only (PD 96) A x.1 ∧ enk n wd q (1000 - i) i x.2 = enk n wd q 1000 0 r) (fun R => ∃ B, R = pm_oI (enk n wd q 1000 0 r) (c, w, S, B, K) ∧ only (PD 96) A B) ?_ ?_ pm_N 0 (A, r) ⟨g2, hr, only_r, rfl⟩ (by omega) (by rw [pm_NE]; omega)
    · intro again i x hi hQ hn
      obtain ⟨B, r1⟩ := x
      obtain ⟨q1, q2, q3, q4⟩ := hQ
      simp only at q1 q2 q3 q4
      have hEB := eC_o dk_96 hEA q3
      obtain ⟨B2, k1, k2, k3⟩ := dd_C (w := w) (K := K) h hEB.1 dk_96 q1 q2
      rw [show 1000 - i = (1000 - (i + 1)) + 1 by omega] at q4
      rw [enk_s (f := 1000 - (i + 1))] at q4
      unfold X8_ends_L13
      simp only
      rw [if_neg (show ¬ (999 : Int32) < nI i from nI_nlt (a := 999) (by omega) (by omega)), lr_64_9 h, lc_96 h, k1, ly_cI]
      cases hb : (dd n wd q r1).1
      · rw [hb] at q4
        simp only [Bool.false_eq_true, if_false] at q4
        rw [ib0]
        exact ⟨B2, by rw [q4], only_t q3 (dfr_o k3)⟩
      · rw [hb] at q4
        simp only [if_true] at q4
        rw [ib1, ly_bI, nI_1]
        exact hn (B2, (dd n wd q r1).2) ⟨k2, dd_W hEB.1.1 q2, only_t q3 (dfr_o k3), q4⟩
    · intro again x hQ
      obtain ⟨B, r1⟩ := x
      obtain ⟨q1, q2, q3, q4⟩ := hQ
      simp only at q1 q2 q3 q4
      rw [Nat.sub_self] at q4
      rw [enk_0] at q4
      unfold X8_ends_L13
      simp only
      rw [if_pos (show (999 : Int32) < nI 1000 by decide)]
      exact ⟨B, by rw [← q4], q3⟩
  obtain ⟨B, e1, e2⟩ := key
  have hsB : same I B := PD_s (only_t g3 e2)
  refine ag_ro (v := .int (enk n wd q 1000 0 r)) (I1 := B) (K1 := K) h hJ ⟨_, rfl⟩ e1 hsB (fun hJ1 K2 => ?_)
  obtain ⟨hPM2, hDM2⟩ := jm hJ1
  have hE2 := eMz (eMJ hJ1)
  obtain ⟨A2, p1, p2, p3⟩ := to_M (w := w) (K := K2) h hDM2
  have hE3 := eM_o rwa_536 hE2 p3
  have key : ∃ I2, X9_ends 108 (c, w, S, B, K2) = pm_oI (enk n wd q 1000 0 r) (c, w, S, I2, K2) ∧ only (PR 536) A2 I2 := by
    unfold X9_ends
    rw [lp_108 h, lr_108_29 h, lr_108_30 h, p1, ly_cV]
    refine ly_wh (fun (x : Nat × (Nat → Nat → Int32) × (Nat → Int32)) => 2 * (1000 - x.1) + (if rd_s x.2.2 11 < n then 1 else 0)) (fun x => ((nI x.1, (c, w, S, x.2.1, K2)) : Int32 × pmM)) (fun x R => x.1 ≤ 1000 → dk_M x.2.1 536 x.2.2 → dk_W n wd x.2.2 → only (PR 536) A2 x.2.1 → enk n wd q (1000 - x.1) x.1 x.2.2 = enk n wd q 1000 0 r → ∃ I2, R = pm_oI (enk n wd q 1000 0 r) (c, w, S, I2, K2) ∧ only (PR 536) A2 I2) ?_ pm_N (0, A2, r) (by rw [pm_NE]; simp only; split <;> omega) (by simp only; omega) p2 hr only_r rfl
    intro again x hA q0 q1 q2 q3 q4
    obtain ⟨i, B3, r1⟩ := x
    simp only at hA q0 q1 q2 q3 q4
    have hEB := eM_o rwa_536 hE3 q3
    have eat := dk_at q2
    unfold X9_ends_L18 X9_ends_j61 X9_ends_j73 X9_ends_j56
    simp only
    rw [lr_108_30 h, ld_i (i := 11) 11 rfl, ld_536 h (by omega), q1 11 (by omega), eat.1, lg_108 h, hEB.1.2.1]
    by_cases hov : rd_s r1 11 < n
    · rw [if_neg (nI_ge hov (by omega))]
      by_cases hi : i = 1000
      · subst hi
        rw [Nat.sub_self] at q4
        rw [enk_0] at q4
        rw [if_pos (show (999 : Int32) < nI 1000 by decide), if_neg (show ¬ nI 1000 ≤ 999 by decide)]
        exact ⟨B3, by rw [← q4], q3⟩
      · obtain ⟨B4, k1, k2, k3⟩ := dd_M (w := w) (K := K2) h hEB.1 rwa_536 q1 q2
        rw [show 1000 - i = (1000 - (i + 1)) + 1 by omega] at q4
        rw [enk_s (f := 1000 - (i + 1))] at q4
        rw [if_neg (show ¬ (999 : Int32) < nI i from nI_nlt (a := 999) (by omega) (by omega)), lr_108_30 h, lc_108 h, k1, ly_cI]
        cases hb : (dd n wd q r1).1
        · have hdf := dd_f (wd := wd) (q := q) (r := r1) hn6 hb
          have hdW := dd_W hEB.1.1 q2
          rw [hb] at q4
          simp only [Bool.false_eq_true, if_false] at q4
          rw [ib0, ly_bI, Int32.add_zero]
          refine hA (i, B4, (dd n wd q r1).2) ?_ q0 k2 hdW (only_t q3 (but_o k3)) ?_
          · simp only
            rw [if_neg hdf, if_pos hov]
            omega
          · simp only
            rw [show 1000 - i = (1000 - (i + 1)) + 1 by omega]
            rw [enk_s (f := 1000 - (i + 1))]
            rw [dd_ov hdW hdf]
            exact q4
        · rw [hb] at q4
          simp only [if_true] at q4
          rw [ib1, ly_bI, nI_1]
          refine hA (i + 1, B4, (dd n wd q r1).2) ?_ (by simp only; omega) k2 (dd_W hEB.1.1 q2) (only_t q3 (but_o k3)) q4
          simp only
          rw [if_pos hov]
          split <;> omega
    · rw [if_pos (nI_le (by omega) (by omega))]
      by_cases hi : i = 1000
      · subst hi
        rw [Nat.sub_self] at q4
        rw [enk_0] at q4
        rw [if_neg (show ¬ nI 1000 ≤ 999 by decide)]
        exact ⟨B3, by rw [← q4], q3⟩
      · rw [show 1000 - i = (1000 - (i + 1)) + 1 by omega] at q4
        rw [enk_s (f := 1000 - (i + 1))] at q4
        rw [dd_ov q2 hov] at q4
        simp only [Bool.false_eq_true, if_false] at q4
        rw [if_pos (show nI i ≤ 999 from nI_le (b := 999) (by omega) (by omega))]
        exact ⟨B3, by rw [q4], q3⟩
  obtain ⟨I2, f1, f2⟩ := key
  refine ⟨I2, K2, f1, ?_, same_t s0 (PR_s (only_t p3 f2)), rfl⟩
  rw [f2 108 0 (by unfold PR; omega), p3 108 0 (by unfold PR; omega)]
  exact z0'
end ENS
