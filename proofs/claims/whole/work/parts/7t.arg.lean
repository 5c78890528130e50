/-! argument: both agree -/
section ARH
variable {c w : Nat} {S : Nat → pmS} {I I1 I2 J A D : Nat → Nat → Int32} {K K1 K2 : Nat → Nat → Int64} {n : Nat} {wd : Nat → Nat} {q : Nat → Nat → Nat} {r : Nat → Int32} {a : Nat} {se : Nat → Nat} {W G d : Nat} {s : Nat → Nat} {B T : Nat}
theorem vo_L {b l k : Nat} (h : ly c S) (hl : l < 6) (hk8 : k ≤ 8) (hw : D 113 l = nI k) (hv : ∀ k, k < 9 → D 580 k = nI (rv k)) (hb : b < 2 ^ k) (hb2 : b < 256) : X9_valueOf 108 (nI b) (nI l) (c, w, S, D, K) = pm_oI (nI (vL k b)) (c, w, S, D, K) := by
  rw [vo_M h hl hk8 hw hv hb2, ← vst_e k (by omega) b hb]
  rfl
theorem fw_M (h : ly c S) (hP : pg_M D n wd q) (hC : dk_M D 535 r) (hr : dk_W n wd r) (hv : ∀ k, k < 9 → D 580 k = nI (rv k)) (hB : B < 256) (hT : T < 16) : pm_lp pm_N (X9_argument_L106 108 (nI B) (nI T)) (0, (c, w, S, D, K)) = pm_oI ((sr (aF2 wd (rd_s r) B T) n).getD (-1)) (c, w, S, D, K) := by
  have hW := hP.1
  have hn6 := hW.1
  refine ly_loop (fun l (_ : Unit) => ((nI l, (c, w, S, D, K)) : Int32 × pmM)) n (fun l _ => sr (aF2 wd (rd_s r) B T) l = none) (fun R => R = pm_oI ((sr (aF2 wd (rd_s r) B T) n).getD (-1)) (c, w, S, D, K)) ?_ ?_ pm_N 0 () rfl (by omega) (by rw [pm_NE]; omega)
  · intro again l _ hl hQ hnx
    have hw := hW.2.1 l hl
    have hsl := (hr.1 l (by omega)).2
    have hp := pg_pow hW l
    have hv16 := vL_16 (wd l) (by omega) _ hsl
    have hwl := hP.2.2.1 l (by omega)
    have e5 : D 535 l = nI (rd_s r l) := dm_s hC hr (by omega)
    unfold X9_argument_L106
    simp only
    rw [lg_108 h, hP.2.1, if_neg (nI_ge hl (by omega))]
    refine ly_loop (fun x (_ : Unit) => ((nI x, (c, w, S, D, K)) : Int32 × pmM)) (2 * wd l) (fun x _ => sr (aF1 wd (rd_s r) B T l) x = none) (fun R => R = pm_oI ((sr (aF2 wd (rd_s r) B T) n).getD (-1)) (c, w, S, D, K)) ?_ ?_ pm_N 0 () rfl (by omega) (by rw [pm_NE]; omega)
    · intro again2 x _ hx hQ2 hn2
      obtain ⟨d1, d2⟩ := kd x (by omega)
      obtain ⟨i, e, hxe, hi, he⟩ : ∃ i e, x = 2 * i + e ∧ i < wd l ∧ e < 2 := ⟨x / 2, x % 2, by omega, by omega, by omega⟩
      have hx2 : x / 2 = i := by omega
      have hx3 : x % 2 = e := by omega
      obtain ⟨b1, b2, b3, b4⟩ := kq i (by omega) e he
      obtain ⟨c1, c2⟩ := kb (wd l) (by omega) _ hsl i hi e he
      have noh : ahit wd (rd_s r) B T l x = false → X9_argument_j249 again again2 108 (nI B) (nI T) (nI l) (nI x) (c, w, S, D, K) = pm_oI ((sr (aF2 wd (rd_s r) B T) n).getD (-1)) (c, w, S, D, K) := fun hh => by
        unfold X9_argument_j249
        rw [ly_bI, nI_1]
        have hf : aF1 wd (rd_s r) B T l x = none := by unfold aF1; rw [hh]; rfl
        exact hn2 () (sr_no hQ2 hf)
      unfold X9_argument_L118
      simp only
      rw [lr_108_16 h, ld_113 h (by omega), hwl, k2 _ (by omega), if_neg (nI_ge hx (by omega)), rm_has hB (by omega), ly_cI]
      cases hb : B.testBit l
      · rw [ib0]
        unfold X9_argument_j255
        rw [ly_bI, nI_1]
        refine hnx () (sr_no hQ (sr_all (fun x => ?_) _))
        unfold aF1 ahit
        rw [hb]; simp
      · rw [ib1, if_neg (show ¬ (2 : Int32) = 0 from by decide), ly_bI, if_neg (show ¬ (2 : Int32) = 0 from by decide), ly_bI, d1, d2, hx2, hx3]
        unfold X9_span2
        rw [b2, ly_cI, lr_108_16 h, ld_113 h (by omega), hwl]
        by_cases h1 : i + e < wd l
        · rw [if_neg (nI_ge h1 (by omega)), lr_108_29 h, show (0 : Int32) + nI l = nI l from Int32.zero_add _, ld_535 h (by omega), e5, nI_and]
          by_cases h2 : rd_s r l &&& bsp i (i + e) = 0
          · obtain ⟨f1, f2, f3⟩ := c2 h1 h2
            have hv2 := vL_16 (wd l) (by omega) _ f2
            have htv : T ^^^ vL (wd l) (rd_s r l) < 16 := Nat.xor_lt_two_pow (n := 4) hT hv16
            have htw : (T ^^^ vL (wd l) (rd_s r l)) ^^^ vL (wd l) (rd_s r l ||| bsp i (i + e)) < 16 := Nat.xor_lt_two_pow (n := 4) htv hv2
            rw [h2, n00, lr_108_29 h, ld_535 h (by omega), e5, lc_108 h, vo_L h (by omega) (by omega) hwl hv hsl (by omega), ly_cI, lr_108_29 h, ld_535 h (by omega), e5, f3, lc_108 h, vo_L h (by omega) (by omega) hwl hv f2 (by omega), ly_cI, nI_xor, nI_xor]
            by_cases hh : vL (wd l) (rd_s r l ||| bsp i (i + e)) = T ^^^ vL (wd l) (rd_s r l)
            · have hit : ahit wd (rd_s r) B T l x = true := by
                unfold ahit
                rw [hx2, hx3, hb, decide_eq_true h1, decide_eq_true h2, decide_eq_true hh]; rfl
              have hf : aF1 wd (rd_s r) B T l x = some (anm l x) := by unfold aF1; rw [hit]; rfl
              have g1 : aF2 wd (rd_s r) B T l = some (anm l x) := sr_yes hQ2 hf _ (by omega)
              rw [xz.mpr hh, n00, sr_yes hQ g1 n (by omega)]
              unfold anm
              rw [hx2, hx3]
              rfl
            · rw [if_neg (show ¬ nI ((T ^^^ vL (wd l) (rd_s r l)) ^^^ vL (wd l) (rd_s r l ||| bsp i (i + e))) = 0 from fun e2 => hh (xz.mp ((nI_eq (b := 0) (by omega) (by omega)).mp e2)))]
              refine noh ?_
              unfold ahit
              rw [hx2, hx3, decide_eq_false hh, Bool.and_false]
          · have hle : rd_s r l &&& bsp i (i + e) ≤ bsp i (i + e) := Nat.and_le_right
            rw [if_neg (show ¬ nI (rd_s r l &&& bsp i (i + e)) = 0 from fun e2 => h2 ((nI_eq (b := 0) (by omega) (by omega)).mp e2))]
            refine noh ?_
            unfold ahit
            rw [hx2, hx3, decide_eq_false h2]; simp
        · rw [if_pos (nI_le (by omega) (by omega))]
          refine noh ?_
          unfold ahit
          rw [hx2, hx3, decide_eq_false h1]; simp
    · intro again2 _ hQ2
      unfold X9_argument_L118
      simp only
      rw [lr_108_16 h, ld_113 h (by omega), hwl, k2 _ (by omega), if_pos (nI_le (Nat.le_refl _) (by omega))]
      unfold X9_argument_j255
      rw [ly_bI, nI_1]
      exact hnx () (sr_no hQ hQ2)
  · intro again _ hQ
    unfold X9_argument_L106
    simp only
    rw [lg_108 h, hP.2.1, if_pos (nI_le (Nat.le_refl _) (by omega)), hQ]
    rfl
def agr (n : Nat) (wd s : Nat → Nat) (B : Nat) (z : Int32) : Int32 := if z = 0 then nI (axr (fun l => vL (wd l) (s l)) B n) else (sr (aF2 wd s B (axr (fun l => vL (wd l) (s l)) B n)) n).getD (-1)
theorem ar_C {z : Int32} (h : ly c S) (hP : pg_C I n wd q) (hC : dk_C I 93 r) (hr : dk_W n wd r) (hk : jk I) (hB : B < 256) : pm_lp pm_N (X8_argument_L28 64 (nI B) z) (0, 0, (c, w, S, I, K)) = pm_oI (agr n wd (rd_s r) B z) (c, w, S, I, K) := by
  have hW := hP.1
  have hn6 := hW.1
  have h16 : axr (fun l => vL (wd l) (rd_s r l)) B n < 16 := axr_16 (n := n) (fun l hl => vL_16 (wd l) (by have := hW.2.1 l hl; omega) _ (hr.1 l (by omega)).2) n (Nat.le_refl _)
  refine ly_loop (fun l (_ : Unit) => ((nI (axr (fun l => vL (wd l) (rd_s r l)) B l), nI l, (c, w, S, I, K)) : Int32 × Int32 × pmM)) n (fun _ _ => True) (fun R => R = pm_oI (agr n wd (rd_s r) B z) (c, w, S, I, K)) ?_ ?_ pm_N 0 () trivial (by omega) (by rw [pm_NE]; omega)
  · intro again l _ hl _ hn
    have hn1 := hn () trivial
    rw [show axr (fun l => vL (wd l) (rd_s r l)) B (l + 1) = (if B.testBit l then axr (fun l => vL (wd l) (rd_s r l)) B l ^^^ vL (wd l) (rd_s r l) else axr (fun l => vL (wd l) (rd_s r l)) B l) from rfl] at hn1
    have hw := hW.2.1 l hl
    have hp := pg_pow hW l
    unfold X8_argument_L28
    simp only
    rw [lr_64_1 h, lg_67 h, hP.2.1, if_neg (nI_ge hl (by omega)), show ((nI B >>> (nI l &&& 31)) &&& 1) = nI (if B.testBit l then 1 else 0) from rd_bit B hB l (by omega)]
    cases hb : B.testBit l
    · rw [hb] at hn1
      rw [if_neg (show ¬ nI (if false = true then 1 else 0) = 1 from by decide)]
      unfold X8_argument_j65
      rw [ly_bI, nI_1]
      exact hn1
    · rw [hb] at hn1
      rw [if_pos (show nI (if true = true then 1 else 0) = 1 from rfl), lr_64_8 h, lc_93 h, rd_leftBits h hP (Or.inl rfl) hC hr hl, ly_cI, vo_C h hk (by omega), ly_cI, nI_xor, ly_bI]
      unfold X8_argument_j65
      rw [ly_bI, nI_1]
      exact hn1
  · intro again _ _
    unfold X8_argument_L28 X8_argument_j85 agr
    simp only
    rw [lr_64_1 h, lg_67 h, hP.2.1, if_pos (nI_le (Nat.le_refl _) (by omega))]
    by_cases hz : z = 0
    · rw [if_pos hz, if_pos hz]
    · rw [if_neg hz, if_neg hz, lc_64 h, fw_C h hP hC hr hk hB h16, ly_cI]
theorem ar_M {z : Int32} (h : ly c S) (hP : pg_M D n wd q) (hC : dk_M D 535 r) (hr : dk_W n wd r) (hv : ∀ k, k < 9 → D 580 k = nI (rv k)) (hB : B < 256) : pm_lp pm_N (X9_argument_L51 108 (nI B) z) (0, 0, (c, w, S, D, K)) = pm_oI (agr n wd (rd_s r) B z) (c, w, S, D, K) := by
  have hW := hP.1
  have hn6 := hW.1
  have h16 : axr (fun l => vL (wd l) (rd_s r l)) B n < 16 := axr_16 (n := n) (fun l hl => vL_16 (wd l) (by have := hW.2.1 l hl; omega) _ (hr.1 l (by omega)).2) n (Nat.le_refl _)
  refine ly_loop (fun l (_ : Unit) => ((nI (axr (fun l => vL (wd l) (rd_s r l)) B l), nI l, (c, w, S, D, K)) : Int32 × Int32 × pmM)) n (fun _ _ => True) (fun R => R = pm_oI (agr n wd (rd_s r) B z) (c, w, S, D, K)) ?_ ?_ pm_N 0 () trivial (by omega) (by rw [pm_NE]; omega)
  · intro again l _ hl _ hn
    have hn1 := hn () trivial
    rw [show axr (fun l => vL (wd l) (rd_s r l)) B (l + 1) = (if B.testBit l then axr (fun l => vL (wd l) (rd_s r l)) B l ^^^ vL (wd l) (rd_s r l) else axr (fun l => vL (wd l) (rd_s r l)) B l) from rfl] at hn1
    have hw := hW.2.1 l hl
    have hp := pg_pow hW l
    have hsl := (hr.1 l (by omega)).2
    have e5 : D 535 l = nI (rd_s r l) := dm_s hC hr (by omega)
    unfold X9_argument_L51
    simp only
    rw [lg_108 h, hP.2.1, if_neg (nI_ge hl (by omega)), rm_has hB (by omega), ly_cI]
    cases hb : B.testBit l
    · rw [hb] at hn1
      rw [ib0]
      unfold X9_argument_j89
      rw [show nI (axr (fun l => vL (wd l) (rd_s r l)) B l) ^^^ 0 = nI (axr (fun l => vL (wd l) (rd_s r l)) B l) from Int32.xor_zero, ly_bI, ly_bI, nI_1]
      exact hn1
    · rw [hb] at hn1
      rw [ib1, lr_108_29 h, show (0 : Int32) + nI l = nI l from Int32.zero_add _, ld_535 h (by omega), e5, lc_108 h, vo_L h (by omega) (by omega) (hP.2.2.1 l (by omega)) hv hsl (by omega), ly_cI]
      unfold X9_argument_j89
      rw [nI_xor, ly_bI, ly_bI, nI_1]
      exact hn1
  · intro again _ _
    unfold X9_argument_L51 agr
    simp only
    rw [lg_108 h, hP.2.1, if_pos (nI_le (Nat.le_refl _) (by omega))]
    by_cases hz : z = 0
    · rw [if_pos hz, if_pos hz]
    · rw [if_neg hz, if_neg hz, fw_M h hP hC hr hv hB h16]
theorem ca_argument (y z : Int32) (h : ly c S) (hJ : JJ I n wd q r a se W G) : ag isI (I 0) c w S (fun k => k) (X8_argument 64 y z (c, w, S, I, K)) (X9_argument 108 y z) := by
  obtain ⟨hPC, hPM, hDC, hDM, hr, hT, hS, hH, hc, hk, hL⟩ := id hJ
  have hW := hPC.1
  have hn6 := hW.1
  obtain ⟨-, p64⟩ := sh_1 n hn6
  have hpos : 0 < 2 ^ n := Nat.pow_pos (by omega)
  have epred : nI (2 ^ n) - 1 = nI (2 ^ n - 1) := by
    obtain ⟨u, hu⟩ : ∃ u, 2 ^ n = u + 1 := ⟨2 ^ n - 1, by omega⟩
    rw [hu]; exact nI_pred u
  have mal : ∀ c1 w1 S1 I1 K2, ly c1 S1 → (∀ i j, i < 595 → i ≠ 64 → I1 i j = I i j) → X9_allLines 108 (c1, w1, S1, ly_u I1 108 0 0, K2) = pm_oI (nI (2 ^ n - 1)) (c1, w1, S1, ly_u I1 108 0 0, K2) := fun c1 w1 S1 I1 K2 h1 hI => by
    rw [al_ok h1 (by rw [u0 (by omega), hI 108 13 (by omega) (by omega)]; exact hPM.2.1) hn6, epred]
  rcases pk_ix y (n := 2 ^ n) (by omega) with hy | hy | ⟨B, hB, rfl⟩
  case inl =>
    refine ag_no (K := K) (k := 1) (b := .int 0) h hJ (by omega) ⟨_, rfl⟩ ?_ (fun c1 w1 S1 I1 K2 h1 hI => ?_)
    · unfold X8_argument
      rw [lc_64 h, mb_no h hPC (Or.inl hy), rx_cV]
    · unfold X9_argument X9_argument_j27 X9_argument_j32
      rw [lp_108 h1, lc_108 h1, mal _ _ _ _ _ h1 hI, ly_cI, rm_in, ly_cI, decide_eq_false (fun e => absurd hy (Int32.not_lt.mpr e.1)), ib0, lc_108 h1, bad_11 h1, ly_cI, i10]
  case inr.inl =>
    refine ag_no (K := K) (k := 1) (b := .int 0) h hJ (by omega) ⟨_, rfl⟩ ?_ (fun c1 w1 S1 I1 K2 h1 hI => ?_)
    · unfold X8_argument
      rw [lc_64 h, mb_no h hPC (Or.inr hy), rx_cV]
    · unfold X9_argument X9_argument_j27 X9_argument_j32
      have hne : ¬ (0 ≤ y ∧ y ≤ nI (2 ^ n - 1)) := fun e => absurd (Int32.le_trans hy e.2) (nI_ge (by omega) (by omega))
      rw [lp_108 h1, lc_108 h1, mal _ _ _ _ _ h1 hI, ly_cI, rm_in, ly_cI, decide_eq_false hne, ib0, lc_108 h1, bad_11 h1, ly_cI, i10]
  have hin : 0 ≤ nI B ∧ nI B ≤ nI (2 ^ n - 1) := ⟨Int32.not_lt.mp (nI_pos (by omega)), nI_le (by omega) (by omega)⟩
  by_cases hz : 0 ≤ z ∧ z ≤ 1
  case neg =>
    refine ag_no (K := K) (k := 1) (b := .int 0) h hJ (by omega) ⟨_, rfl⟩ ?_ (fun c1 w1 S1 I1 K2 h1 hI => ?_)
    · unfold X8_argument X8_argument_j20
      rw [lc_64 h, mb_ok h hPC hB, ly_cV, if_neg (fun e => hz (by rw [e]; decide)), if_neg (fun e => hz (by rw [e]; decide)), lc_64 h, mu_cV h]
    · unfold X9_argument X9_argument_j27 X9_argument_j32
      rw [lp_108 h1, lc_108 h1, mal _ _ _ _ _ h1 hI, ly_cI, rm_in, ly_cI, decide_eq_true hin, ib1, rm_in, ly_cI, decide_eq_false hz, ib0, lc_108 h1, bad_11 h1, ly_cI, i10]
  have hz01 : z = 0 ∨ z = 1 := by
    obtain ⟨k, hk, rfl⟩ := nI_of2 (n := 1) rfl (nI_lt0 hz.1) hz.2
    rcases (show k = 0 ∨ k = 1 by omega) with rfl | rfl
    · exact Or.inl rfl
    · exact Or.inr rfl
  refine ag_ro (v := .int (agr n wd (rd_s r) B z)) (I1 := I) (K1 := K) h hJ ⟨_, rfl⟩ ?_ same_r (fun hJ1 K2 => ?_)
  · have e : X8_argument 64 (nI B) z (c, w, S, I, K) = X8_argument_j20 64 (nI B) z 1 64 (c, w, S, I, K) := by
      unfold X8_argument X8_argument_j15
      rw [lc_64 h, mb_ok h hPC hB, ly_cV]
      rcases hz01 with rfl | rfl
      · rw [if_pos rfl]
      · rw [if_neg (by decide), if_pos rfl]
    rw [e]
    unfold X8_argument_j20
    rw [lc_64 h, mu_cV1, ar_C h hPC hDC hr hk (by omega)]
  · obtain ⟨D, d1, d2, d3⟩ := lq_M (w := w) (K := K2) (A := ly_u I 108 0 0) h
    have hsD : same I D := fun i j hn => (d2 i j (by unfold sc at hn; unfold PV; omega)).trans (s0 i j hn)
    obtain ⟨-, hPM1, -, hDM1, -, -, -, -, -, -, -⟩ := JJ_same hJ hsD
    refine ⟨D, K2, ?_, by rw [d2 108 0 (by unfold PV; omega)]; exact z0', hsD, rfl⟩
    unfold X9_argument X9_argument_j32
    rw [lp_108 h, lc_108 h, mal _ _ _ _ _ h (fun i j _ _ => rfl), ly_cI, rm_in, ly_cI, decide_eq_true hin, ib1, rm_in, ly_cI, decide_eq_true hz, ib1, lc_108 h, bad_z h, ly_cI, i00, lc_108 h, d1, ly_cV, ar_M h hPM1 hDM1 hr d3 (by omega)]
end ARH
