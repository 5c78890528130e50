/-! small answers: apart, mends, share -/
section SIR
variable {c w : Nat} {S : Nat → pmS} {I I1 I2 J : Nat → Nat → Int32} {K K1 : Nat → Nat → Int64} {n : Nat} {wd : Nat → Nat} {q : Nat → Nat → Nat} {r : Nat → Int32} {a : Nat} {se : Nat → Nat} {W G d : Nat}
theorem nI_xor (a b : Nat) : nI a ^^^ nI b = nI (a ^^^ b) := by
  apply Int32.toBitVec_inj.mp
  simp [nI, BitVec.ofNat_xor]
/-- what is struck otherwise than in the latest image -/
def otw (I : Nat → Nat → Int32) (r : Nat → Int32) (G l : Nat) : Nat := rd_s r l ^^^ rd_s (fun k => I (554 + G) (1 + k)) l
theorem ot_f (hP : pg_W n wd q) (hH : jh I n wd W G) (hr : dk_W n wd r) (hG : 0 < G) {l : Nat} (hl : l < n) : I 100 (224 + 238 * (G - 1) + l) = nI (rd_s (fun k => I (554 + G) (1 + k)) l) ∧ I (554 + G) (1 + l) = nI (rd_s (fun k => I (554 + G) (1 + k)) l) ∧ otw I r G l < 256 := by
  have hn6 := hP.1
  obtain ⟨-, hG3, -, -, -, -, -, -, h9, h10⟩ := hH
  have a1 := (h9 (G - 1) (by omega)).1.1 l (by omega)
  have a2 := (h10 (G - 1) (by omega)).1
  rw [show 555 + (G - 1) = 554 + G by omega] at a1 a2
  have a3 := a2.1 l (by omega)
  refine ⟨a1.trans a3.1, a3.1, ?_⟩
  have b1 := Nat.xor_lt_two_pow (hr.1 l (by omega)).2 a3.2
  exact Nat.lt_of_lt_of_le b1 (pg_pow hP l)
theorem rd_image (h : ly c S) (hP : pg_W n wd q) (hH : jh I n wd W G) (hr : dk_W n wd r) (hG : 0 < G) {l : Nat} (hl : l < n) : X5_struckInImage 99 (nI l) (c, w, S, I, K) = pm_oI (nI (rd_s (fun k => I (554 + G) (1 + k)) l)) (c, w, S, I, K) := by
  have hn6 := hP.1
  have hG3 := hH.2.1
  have e3 := hH.2.2.2.2.1
  obtain ⟨o1, -⟩ := ot_f hP hH hr hG hl
  unfold X5_struckInImage X5_struckInImage_j27 X5_placeOf
  rw [lg_99 h, e3, if_neg (nI_nle hG (by omega)), lr_99_0 h, lg_99 h, e3, show nI G - (1 : Int32) = nI (G - 1) from pk_sub (b := 1) (by omega), ly_cI, show (224 : Int32) + nI (G - 1) * 238 + nI l = nI (224 + 238 * (G - 1) + l) from by rw [show (224 : Int32) = nI 224 from rfl, show (238 : Int32) = nI 238 from rfl, pk_mul, nI_add, nI_add, Nat.mul_comm], ld_100 h (by omega), o1]
theorem rm_other (h : ly c S) (hPM : pg_M I n wd q) (hDM : dk_M I 535 r) (hH : jh I n wd W G) (hr : dk_W n wd r) (hG : 0 < G) {l : Nat} (hl : l < n) : X9_otherwise 108 (nI l) (c, w, S, I, K) = pm_oI (nI (otw I r G l)) (c, w, S, I, K) := by
  have hP := hPM.1
  have hn6 := hP.1
  have hG3 := hH.2.1
  have e36 := hH.2.2.2.2.2.1
  obtain ⟨-, o2, -⟩ := ot_f hP hH hr hG hl
  have e2 := dm_s hDM hr (show l < 6 by omega)
  unfold X9_otherwise
  rw [lr_108_29 h, show (0 : Int32) + nI l = nI l from Int32.zero_add _, ld_535 h (by omega), e2, lr_108_32 h, lg_108 h, e36, show nI G - (1 : Int32) = nI (G - 1) from pk_sub (b := 1) (by omega), lr_554 h (by omega), show (1 : Int32) + nI l = nI (1 + l) from nI_add 1 l, ld_555 h (by omega) (by omega), show 555 + (G - 1) = 554 + G by omega, o2, nI_xor]
  rfl
theorem rd_pc8 : ∀ b, b < 256 → rd_pc b ≤ 8 := by decide +kernel
theorem jhz (hH : jh I n wd W G) : jh (ly_u I 108 0 0) n wd W G := jh_same hH s0
theorem otwz {l : Nat} : otw (ly_u I 108 0 0) r G l = otw I r G l ∨ G = 0 ∨ True := Or.inr (Or.inr trivial)
theorem ca_apart (h : ly c S) (hJ : JJ I n wd q r a se W G) : ag isI (I 0) c w S (fun _ => 0) (X8_apart 64 (c, w, S, I, K)) (X9_apart 108) := by
  obtain ⟨hPC, hPM, hDC, hDM, hr, -, -, hH, -⟩ := id hJ
  have hn6 := hPC.1.1
  have hG3 := hH.2.1
  by_cases hG : G = 0
  · subst hG
    refine ag_ro (v := .int (-1)) (I1 := I) (K1 := K) h hJ ⟨_, rfl⟩ ?_ same_r (fun hJ1 K2 => ⟨ly_u I 108 0 0, K2, ?_, z0', s0, rfl⟩)
    · unfold X8_apart
      rw [lr_64_10 h, lg_99 h, hH.2.2.2.2.1, n00]
    · have e36 : ly_u I 108 0 0 108 36 = nI 0 := by rw [u0 (by omega)]; exact hH.2.2.2.2.2.1
      have e13 := (jm hJ).1.2.1
      unfold X9_apart X9_apart_j17
      rw [lp_108 h, lg_108 h, e36, n00]
      generalize ly_u I 108 0 0 = J at e36 e13 ⊢
      show pm_lp (99999 + 1) _ _ = _
      rw [ly_S]
      unfold X9_apart_L20 X9_apart_j52
      simp only
      rw [lg_108 h, e13]
      split
      · rfl
      · rw [lg_108 h, e36, if_pos (show nI 0 ≤ 0 by decide)]
  · have hG0 : 0 < G := by omega
    refine ag_ro (v := .int (nI (rd_sum (fun l => rd_pc (otw I r G l)) n))) (I1 := I) (K1 := K) h hJ ⟨_, rfl⟩ ?_ same_r (fun hJ1 K2 => ⟨ly_u I 108 0 0, K2, ?_, z0', s0, rfl⟩)
    · unfold X8_apart
      rw [lr_64_10 h, lg_99 h, hH.2.2.2.2.1, if_neg (nI_ne0 hG0 (by omega))]
      refine ly_loop (fun i (z : Nat) => ((nI z, nI i, (c, w, S, I, K)) : Int32 × Int32 × pmM)) n (fun i z => z = rd_sum (fun l => rd_pc (otw I r G l)) i) (fun R => R = pm_oI (nI (rd_sum (fun l => rd_pc (otw I r G l)) n)) (c, w, S, I, K)) ?_ ?_ pm_N 0 0 rfl (by omega) (by rw [pm_NE]; omega)
      · intro again i z hi hQ hk
        subst hQ
        have := hk _ rfl
        simp only [rd_sum] at this
        have e2 := dk_s hDC hr (show i < 6 by omega)
        obtain ⟨-, -, o3⟩ := ot_f hPC.1 hH hr hG0 hi
        unfold X8_apart_L16
        simp only
        rw [lr_64_1 h, lg_67 h, hPC.2.1, if_neg (nI_ge hi (by omega)), lr_64_8 h, lr_93_2 h, ld_94 h (by omega), e2, lr_64_10 h, lc_99 h, rd_image h hPC.1 hH hr hG0 hi, ly_cI, nI_xor, rd_bc (show rd_s r i ^^^ rd_s (fun k => I (554 + G) (1 + k)) i < 256 from o3), ly_cI, ly_bI, ly_bI, nI_add, nI_1]
        exact this
      · intro again z hQ
        subst hQ
        unfold X8_apart_L16
        simp only
        rw [lr_64_1 h, lg_67 h, hPC.2.1, if_pos (nI_le (Nat.le_refl _) (by omega))]
    · obtain ⟨hPM2, hDM2⟩ := jm hJ
      have hH2 := jhz hH
      have eo : ∀ l, otw (ly_u I 108 0 0) r G l = otw I r G l := fun l => by
        unfold otw
        congr 2
        funext k
        exact u0 (by omega)
      have e36 := hH2.2.2.2.2.2.1
      unfold X9_apart X9_apart_j17
      rw [lp_108 h, lg_108 h, e36, if_neg (nI_ne0 hG0 (by omega))]
      simp only [← eo]
      generalize ly_u I 108 0 0 = J at hPM2 hDM2 hH2 e36 ⊢
      refine ly_loop (fun i (z : Nat) => ((nI z, nI i, (c, w, S, J, K2)) : Int32 × Int32 × pmM)) n (fun i z => z = rd_sum (fun l => rd_pc (otw J r G l)) i) (fun R => R = pm_oI (nI (rd_sum (fun l => rd_pc (otw J r G l)) n)) (c, w, S, J, K2)) ?_ ?_ pm_N 0 0 rfl (by omega) (by rw [pm_NE]; omega)
      · intro again i z hi hQ hk
        subst hQ
        have := hk _ rfl
        simp only [rd_sum] at this
        obtain ⟨-, -, o3⟩ := ot_f hPM2.1 hH2 hr hG0 hi
        unfold X9_apart_L20
        simp only
        rw [lg_108 h, hPM2.2.1, if_neg (nI_ge hi (by omega)), lg_108 h, e36, if_neg (nI_nle hG0 (by omega)), lc_108 h, rm_other h hPM2 hDM2 hH2 hr hG0 hi, ly_cI, rm_ones o3, ly_cI, ly_bI, ly_bI, nI_add, nI_1]
        exact this
      · intro again z hQ
        subst hQ
        unfold X9_apart_L20 X9_apart_j52
        simp only
        rw [lg_108 h, hPM2.2.1, if_pos (nI_le (Nat.le_refl _) (by omega))]
/-- where runs of bits begin -/
def mdb (X : Nat) : Nat := (nI X &&& ((nI X <<< ((1 : Int32) &&& 31)) ^^^ (-1))).toNatClampNeg
theorem mdb_f : ∀ X, X < 256 → (nI X &&& ((nI X <<< ((1 : Int32) &&& 31)) ^^^ (-1))) = nI (mdb X) ∧ mdb X < 256 := by decide +kernel
theorem ca_mends (h : ly c S) (hJ : JJ I n wd q r a se W G) : ag isI (I 0) c w S (fun _ => 0) (X8_mends 64 (c, w, S, I, K)) (X9_mends 108) := by
  obtain ⟨hPC, hPM, hDC, hDM, hr, -, -, hH, -⟩ := id hJ
  have hn6 := hPC.1.1
  have hG3 := hH.2.1
  by_cases hG : G = 0
  · subst hG
    refine ag_ro (v := .int (-1)) (I1 := I) (K1 := K) h hJ ⟨_, rfl⟩ ?_ same_r (fun hJ1 K2 => ⟨ly_u I 108 0 0, K2, ?_, z0', s0, rfl⟩)
    · unfold X8_mends
      rw [lr_64_10 h, lg_99 h, hH.2.2.2.2.1, n00]
    · have e36 : ly_u I 108 0 0 108 36 = nI 0 := by rw [u0 (by omega)]; exact hH.2.2.2.2.2.1
      have e13 := (jm hJ).1.2.1
      unfold X9_mends X9_mends_j17
      rw [lp_108 h, lg_108 h, e36, n00]
      generalize ly_u I 108 0 0 = J at e36 e13 ⊢
      show pm_lp (99999 + 1) _ _ = _
      rw [ly_S]
      unfold X9_mends_L20 X9_mends_j60
      simp only
      rw [lg_108 h, e13]
      split
      · rfl
      · rw [lg_108 h, e36, if_pos (show nI 0 ≤ 0 by decide)]
  · have hG0 : 0 < G := by omega
    refine ag_ro (v := .int (nI (rd_sum (fun l => rd_pc (mdb (otw I r G l))) n))) (I1 := I) (K1 := K) h hJ ⟨_, rfl⟩ ?_ same_r (fun hJ1 K2 => ⟨ly_u I 108 0 0, K2, ?_, z0', s0, rfl⟩)
    · unfold X8_mends
      rw [lr_64_10 h, lg_99 h, hH.2.2.2.2.1, if_neg (nI_ne0 hG0 (by omega))]
      refine ly_loop (fun i (z : Nat) => ((nI z, nI i, (c, w, S, I, K)) : Int32 × Int32 × pmM)) n (fun i z => z = rd_sum (fun l => rd_pc (mdb (otw I r G l))) i) (fun R => R = pm_oI (nI (rd_sum (fun l => rd_pc (mdb (otw I r G l))) n)) (c, w, S, I, K)) ?_ ?_ pm_N 0 0 rfl (by omega) (by rw [pm_NE]; omega)
      · intro again i z hi hQ hk
        subst hQ
        have := hk _ rfl
        simp only [rd_sum] at this
        have e2 := dk_s hDC hr (show i < 6 by omega)
        obtain ⟨-, -, o3⟩ := ot_f hPC.1 hH hr hG0 hi
        obtain ⟨m1, m2⟩ := mdb_f _ o3
        unfold X8_mends_L16
        simp only
        rw [lr_64_1 h, lg_67 h, hPC.2.1, if_neg (nI_ge hi (by omega)), lr_64_8 h, lr_93_2 h, ld_94 h (by omega), e2, lr_64_10 h, lc_99 h, rd_image h hPC.1 hH hr hG0 hi, ly_cI, ly_bI, nI_xor]
        show pm_cI (J6_bitCount_0f7a4 (nI (otw I r G i) &&& ((nI (otw I r G i) <<< ((1 : Int32) &&& 31)) ^^^ (-1))) _) _ = _
        rw [m1, rd_bc m2, ly_cI, ly_bI, ly_bI, nI_add, nI_1]
        exact this
      · intro again z hQ
        subst hQ
        unfold X8_mends_L16
        simp only
        rw [lr_64_1 h, lg_67 h, hPC.2.1, if_pos (nI_le (Nat.le_refl _) (by omega))]
    · obtain ⟨hPM2, hDM2⟩ := jm hJ
      have hH2 := jhz hH
      have eo : ∀ l, otw (ly_u I 108 0 0) r G l = otw I r G l := fun l => by
        unfold otw
        congr 2
        funext k
        exact u0 (by omega)
      have e36 := hH2.2.2.2.2.2.1
      unfold X9_mends X9_mends_j17
      rw [lp_108 h, lg_108 h, e36, if_neg (nI_ne0 hG0 (by omega))]
      simp only [← eo]
      generalize ly_u I 108 0 0 = J at hPM2 hDM2 hH2 e36 ⊢
      refine ly_loop (fun i (z : Nat) => ((nI z, nI i, (c, w, S, J, K2)) : Int32 × Int32 × pmM)) n (fun i z => z = rd_sum (fun l => rd_pc (mdb (otw J r G l))) i) (fun R => R = pm_oI (nI (rd_sum (fun l => rd_pc (mdb (otw J r G l))) n)) (c, w, S, J, K2)) ?_ ?_ pm_N 0 0 rfl (by omega) (by rw [pm_NE]; omega)
      · intro again i z hi hQ hk
        subst hQ
        have := hk _ rfl
        simp only [rd_sum] at this
        obtain ⟨-, -, o3⟩ := ot_f hPM2.1 hH2 hr hG0 hi
        obtain ⟨m1, m2⟩ := mdb_f _ o3
        unfold X9_mends_L20
        simp only
        rw [lg_108 h, hPM2.2.1, if_neg (nI_ge hi (by omega)), lg_108 h, e36, if_neg (nI_nle hG0 (by omega)), lc_108 h, rm_other h hPM2 hDM2 hH2 hr hG0 hi, ly_cI, m1, rm_ones m2, ly_cI, ly_bI, ly_bI, nI_add, nI_1]
        exact this
      · intro again z hQ
        subst hQ
        unfold X9_mends_L20 X9_mends_j60
        simp only
        rw [lg_108 h, hPM2.2.1, if_pos (nI_le (Nat.le_refl _) (by omega))]
end SIR
