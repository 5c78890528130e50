/-! small answers -/
section SIM
variable {c w : Nat} {S : Nat → pmS} {I I1 I2 J : Nat → Nat → Int32} {K K1 : Nat → Nat → Int64} {n : Nat} {wd : Nat → Nat} {q : Nat → Nat → Nat} {r : Nat → Int32} {a : Nat} {se : Nat → Nat} {W G d : Nat}
theorem bad_11 (h : ly c S) : X9_bad 108 1 1 1 (c, w, S, ly_u I 108 0 0, K) = pm_oI 1 (c, w, S, bI I 1 1, K) := bad_n (k := 1) (e := 1) h (by omega) (by omega)
theorem bad_10 (h : ly c S) : X9_bad 108 1 1 0 (c, w, S, ly_u I 108 0 0, K) = pm_oI 1 (c, w, S, bI I 1 0, K) := bad_n (k := 0) (e := 1) h (by omega) (by omega)
theorem bad_21 (h : ly c S) : X9_bad 108 1 2 1 (c, w, S, ly_u I 108 0 0, K) = pm_oI 1 (c, w, S, bI I 2 1, K) := bad_n (k := 1) (e := 2) h (by omega) (by omega)
theorem bad_z {e k : Int32} (h : ly c S) : X9_bad 108 0 e k (c, w, S, ly_u I 108 0 0, K) = pm_oI 0 (c, w, S, ly_u I 108 0 0, K) := bad_0 h z0
theorem sc0 : sc 108 0 := by unfold sc; omega
theorem s0 : same I (ly_u I 108 0 0) := same_u same_r sc0
theorem z0' : ly_u I 108 0 0 108 0 = nI 0 := z0
theorem u0 {i j : Nat} (h : ¬ (i = 108 ∧ j = 0)) : ly_u I 108 0 0 i j = I i j := by rw [ly_uE, if_neg h]
theorem nI_lt0 {x : Int32} (h : 0 ≤ x) : ¬ x < 0 := Int32.not_lt.mpr h
theorem ca_fault (h : ly c S) (hJ : JJ I n wd q r a se W G) : ag isI (I 0) c w S (fun _ => 0) (X8_fault 64 (c, w, S, I, K)) (X9_fault 108) := by
  refine ag_ro (v := .int (I 65 7)) (I1 := I) (K1 := K) h hJ ⟨_, rfl⟩ ?_ same_r (fun hJ1 K2 => ⟨ly_u I 108 0 0, K2, ?_, z0', s0, rfl⟩)
  · unfold X8_fault
    rw [lr_64_0 h, lg_65 h]
  · unfold X9_fault
    rw [lp_108 h, lg_108 h, u0 (by omega), ← hJ.2.2.2.2.2.1.2.2]
theorem ca_cell (y : Int32) (h : ly c S) (hJ : JJ I n wd q r a se W G) : ag isI (I 0) c w S (fun k => k) (X8_cell 64 y (c, w, S, I, K)) (X9_cell 108 y) := by
  by_cases hy : 0 ≤ y ∧ y ≤ 3
  · obtain ⟨k, hk, rfl⟩ := nI_of2 (n := 3) rfl (nI_lt0 hy.1) hy.2
    refine ag_ro (v := .int (r (6 + k))) (I1 := I) (K1 := K) h hJ ⟨_, rfl⟩ ?_ same_r (fun hJ1 K2 => ⟨ly_u I 108 0 0, K2, ?_, z0', s0, rfl⟩)
    · unfold X8_cell X8_cell_j15
      rw [if_neg (nI_pos (by omega)), if_neg (show ¬ (4 : Int32) ≤ nI k from nI_ge (b := 4) (by omega) (by omega)), lc_64 h, mu_cV1, lr_64_8 h, lr_93_3 h, ld_95 h (by omega), hJ.2.2.1.2.1 k (by omega)]
    · unfold X9_cell X9_cell_j20
      rw [lp_108 h, rm_in, ly_cI, decide_eq_true hy, if_neg (by decide), lc_108 h, bad_z h, ly_cI, if_pos (by first | decide | rfl), lr_108_29 h, show (6 : Int32) + nI k = nI (6 + k) from nI_add 6 k, ld_535 h (by omega), u0 (by omega), hJ.2.2.2.1 (6 + k) (by omega)]
  · refine ag_no (K := K) (k := 1) (b := .int 0) h hJ (by omega) ⟨_, rfl⟩ ?_ (fun c1 w1 S1 I1 K2 h1 hI => ?_)
    · have e : X8_cell_j14 64 y 64 (c, w, S, I, K) = rX c w S I K 1 := by
        unfold X8_cell_j14 X8_cell_j15
        rw [lc_64 h, mu_cV h]
      unfold X8_cell
      by_cases h1 : y < 0
      · rw [if_pos h1, e]
      · rw [if_neg h1, if_pos, e]
        have h2 := Int32.not_lt.mp h1
        have h3 : ¬ y ≤ 3 := fun e9 => hy ⟨h2, e9⟩
        rw [Int32.le_iff_toInt_le] at h3 ⊢
        have e3 : (3 : Int32).toInt = 3 := by decide
        have e4 : (4 : Int32).toInt = 4 := by decide
        omega
    · unfold X9_cell X9_cell_j20
      rw [lp_108 h1, rm_in, ly_cI, decide_eq_false hy, if_pos (by first | decide | rfl), lc_108 h1, bad_11 h1, ly_cI, if_neg (by decide)]
theorem ca_status (y : Int32) (h : ly c S) (hJ : JJ I n wd q r a se W G) : ag isI (I 0) c w S (fun _ => 0) (X8_status 64 y (c, w, S, I, K)) (X9_status 108 y) := by
  obtain ⟨g1, g2, g3⟩ := hJ.2.2.2.2.2.2.2.2.1
  by_cases h0 : y = 0
  · subst h0
    refine ag_ro (v := .int (I 64 13)) (I1 := I) (K1 := K) h hJ ⟨_, rfl⟩ ?_ same_r (fun hJ1 K2 => ⟨ly_u I 108 0 0, K2, ?_, z0', s0, rfl⟩)
    · unfold X8_status X8_status_j24
      rw [if_pos (by first | decide | rfl), lg_64 h]
    · unfold X9_status X9_status_j24
      rw [lp_108 h, rm_in, ly_cI, decide_eq_true (by decide), if_neg (by decide), lr_108_10 h, nl_0, ld_110 h (by omega), ← nl_0, u0 (by omega), g2]
  · by_cases h1 : y = 1
    · subst h1
      refine ag_ro (v := .int (I 64 14)) (I1 := I) (K1 := K) h hJ ⟨_, rfl⟩ ?_ same_r (fun hJ1 K2 => ⟨ly_u I 108 0 0, K2, ?_, z0', s0, rfl⟩)
      · unfold X8_status X8_status_j24
        rw [if_neg (by decide), if_pos (by first | decide | rfl), lg_64 h]
      · unfold X9_status X9_status_j24
        rw [lp_108 h, rm_in, ly_cI, decide_eq_true (by decide), if_neg (by decide), lr_108_10 h, nl_1, ld_110 h (by omega), u0 (by omega), g3]
    · refine ag_ro (v := .int (-1)) (I1 := I) (K1 := K) h hJ ⟨_, rfl⟩ ?_ same_r (fun hJ1 K2 => ⟨ly_u I 108 0 0, K2, ?_, z0', s0, rfl⟩)
      · unfold X8_status X8_status_j24
        rw [if_neg h0, if_neg h1]
      · unfold X9_status X9_status_j24
        rw [lp_108 h, rm_in, ly_cI, decide_eq_false, if_pos (by first | decide | rfl)]
        rintro ⟨a1, a2⟩
        obtain ⟨k, hk, rfl⟩ := nI_of2 (n := 1) rfl (nI_lt0 a1) a2
        have : k = 0 ∨ k = 1 := by omega
        rcases this with rfl | rfl
        · exact h0 rfl
        · exact h1 rfl
theorem ca_count (y : Int32) (h : ly c S) (hJ : JJ I n wd q r a se W G) : ag isI (I 0) c w S (fun _ => 0) (X8_count 64 y (c, w, S, I, K)) (X9_count 108 y) := by
  obtain ⟨⟨T, hT, t1, t2⟩, -⟩ := hJ.2.2.2.2.2.1
  obtain ⟨-, -, b1, b2, b3, b4, -⟩ := hJ.2.2.2.2.2.2.2.1
  by_cases h0 : y = 0
  · subst h0
    refine ag_ro (v := .int (nI G)) (I1 := I) (K1 := K) h hJ ⟨_, rfl⟩ ?_ same_r (fun hJ1 K2 => ⟨ly_u I 108 0 0, K2, ?_, z0', s0, rfl⟩)
    · unfold X8_count
      rw [if_pos (by first | decide | rfl), lr_64_10 h, lg_99 h, b3]
    · unfold X9_count X9_count_j41
      rw [lp_108 h, if_pos (by first | decide | rfl), lg_108 h, u0 (by omega), b4]
  · by_cases h1 : y = 1
    · subst h1
      refine ag_ro (v := .int (nI T)) (I1 := I) (K1 := K) h hJ ⟨_, rfl⟩ ?_ same_r (fun hJ1 K2 => ⟨ly_u I 108 0 0, K2, ?_, z0', s0, rfl⟩)
      · unfold X8_count
        rw [if_neg (by decide), if_pos (by first | decide | rfl), lr_64_0 h, lg_65 h, t1]
      · unfold X9_count X9_count_j41
        rw [lp_108 h, if_neg (by decide), if_pos (by first | decide | rfl), lg_108 h, u0 (by omega), t2]
    · by_cases h2 : y = 2
      · subst h2
        refine ag_ro (v := .int (nI W)) (I1 := I) (K1 := K) h hJ ⟨_, rfl⟩ ?_ same_r (fun hJ1 K2 => ⟨ly_u I 108 0 0, K2, ?_, z0', s0, rfl⟩)
        · unfold X8_count
          rw [if_neg (by decide), if_neg (by decide), if_pos (by first | decide | rfl), lr_64_10 h, lg_99 h, b1]
        · unfold X9_count X9_count_j41
          rw [lp_108 h, if_neg (by decide), if_neg (by decide), if_pos (by first | decide | rfl), lg_108 h, u0 (by omega), b2]
      · refine ag_ro (v := .int (-1)) (I1 := I) (K1 := K) h hJ ⟨_, rfl⟩ ?_ same_r (fun hJ1 K2 => ⟨ly_u I 108 0 0, K2, ?_, z0', s0, rfl⟩)
        · unfold X8_count
          rw [if_neg h0, if_neg h1, if_neg h2]
        · unfold X9_count X9_count_j41
          rw [lp_108 h, if_neg h0, if_neg h1, if_neg h2]
end SIM
