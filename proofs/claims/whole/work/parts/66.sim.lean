/-! small answers: share -/
section SIS
variable {c w : Nat} {S : Nat → pmS} {I I1 I2 J : Nat → Nat → Int32} {K K1 : Nat → Nat → Int64} {n : Nat} {wd : Nat → Nat} {q : Nat → Nat → Nat} {r : Nat → Int32} {a : Nat} {se : Nat → Nat} {W G d : Nat}
theorem sh_1 : ∀ n, n ≤ 6 → ((1 : Int32) <<< (nI n &&& 31)) = nI (2 ^ n) ∧ 2 ^ n ≤ 64 := by decide +kernel
theorem mb_ok {B : Nat} (h : ly c S) (hP : pg_C I n wd q) (hB : B < 2 ^ n) : X8_mustBeBits 64 (nI B) (c, w, S, I, K) = pm_oV (c, w, S, I, K) := by
  have hn6 := hP.1.1
  obtain ⟨e1, e2⟩ := sh_1 n hn6
  unfold X8_mustBeBits X8_mustBeBits_j23
  rw [if_neg (nI_pos (by omega)), lr_64_1 h, lg_67 h, hP.2.1, e1, if_neg (nI_ge hB (by omega)), lc_64 h, mu_cV1]
theorem mb_no {y : Int32} (h : ly c S) (hP : pg_C I n wd q) (hy : y < 0 ∨ nI (2 ^ n) ≤ y) : X8_mustBeBits 64 y (c, w, S, I, K) = rX c w S I K 1 := by
  have hn6 := hP.1.1
  obtain ⟨e1, e2⟩ := sh_1 n hn6
  have e : X8_mustBeBits_j22 64 (c, w, S, I, K) = rX c w S I K 1 := by
    unfold X8_mustBeBits_j22 X8_mustBeBits_j23
    rw [lc_64 h, mu_cV h]
  unfold X8_mustBeBits
  by_cases h1 : y < 0
  · rw [if_pos h1, e]
  · rw [if_neg h1, lr_64_1 h, lg_67 h, hP.2.1, e1, if_pos (hy.resolve_left h1), e]
theorem al_ok (h : ly c S) (hn : I 108 13 = nI n) (hn6 : n ≤ 6) : X9_allLines 108 (c, w, S, I, K) = pm_oI (nI (2 ^ n) - 1) (c, w, S, I, K) := by
  unfold X9_allLines
  rw [lg_108 h, hn, (sh_1 n hn6).1]
/-- what is given by a bound -/
def gvb (f : Nat → Nat) (B b : Nat) : Nat → Nat
  | 0 => 0
  | l + 1 => if B.testBit l then gvb f B b l + min b (f l) else gvb f B b l
theorem gvb_le {f : Nat → Nat} {B b : Nat} : ∀ {l : Nat}, gvb f B b l ≤ l * b
  | 0 => by simp [gvb]
  | l + 1 => by
    have := gvb_le (f := f) (B := B) (b := b) (l := l)
    simp only [gvb, Nat.succ_mul]
    split <;> omega
theorem gvb_m {f : Nat → Nat} {B b b2 : Nat} (h : b ≤ b2) : ∀ {l : Nat}, gvb f B b l ≤ gvb f B b2 l
  | 0 => by simp [gvb]
  | l + 1 => by
    have := gvb_m (f := f) (B := B) h (l := l)
    simp only [gvb]
    split <;> omega
theorem gvb_0 {f : Nat → Nat} {B : Nat} : ∀ {l : Nat}, gvb f B 0 l = 0
  | 0 => rfl
  | l + 1 => by
    simp only [gvb]
    rw [gvb_0]
    split <;> simp
theorem rd_given {B b : Nat} (h : ly c S) (hP : pg_C I n wd q) (hC : dk_C I 93 r) (hr : dk_W n wd r) (hB : B < 256) (hb : b ≤ 8) : X8_givenBy 64 (nI B) (nI b) (c, w, S, I, K) = pm_oI (nI (gvb (rd_lf wd (rd_s r)) B b n)) (c, w, S, I, K) := by
  have hn6 := hP.1.1
  unfold X8_givenBy
  refine ly_loop (fun i (z : Nat) => ((nI z, nI i, (c, w, S, I, K)) : Int32 × Int32 × pmM)) n (fun i z => z = gvb (rd_lf wd (rd_s r)) B b i) (fun R => R = pm_oI (nI (gvb (rd_lf wd (rd_s r)) B b n)) (c, w, S, I, K)) ?_ ?_ pm_N 0 0 rfl (by omega) (by rw [pm_NE]; omega)
  · intro again i z hi hQ hk
    subst hQ
    have := hk _ rfl
    simp only [gvb] at this
    have hbit := rd_bit B hB i (by omega)
    have h8 := rd_lf8 hP.1 (s := rd_s r) i
    unfold X8_givenBy_L5 X8_givenBy_j43
    simp only
    rw [lr_64_1 h, lg_67 h, hP.2.1, if_neg (nI_ge hi (by omega)), show ((nI B >>> (nI i &&& 31)) &&& 1) = nI (if B.testBit i then 1 else 0) from hbit]
    cases hbb : B.testBit i
    · rw [hbb] at this
      simp only [Bool.false_eq_true, if_false] at this ⊢
      rw [if_neg (show ¬ nI 0 = 1 by decide), ly_bI, nI_1]
      exact this
    · rw [hbb] at this
      simp only [if_true] at this ⊢
      rw [if_pos (show nI 1 = 1 from rfl), lr_64_8 h, lc_93 h, rd_leftIn h hP dk_93 hC hr hi, ly_cI]
      rw [show (if nI b < nI (rd_lf wd (rd_s r) i) then nI b else nI (rd_lf wd (rd_s r) i)) = nI (min b (rd_lf wd (rd_s r) i)) from by
        by_cases h9 : b < rd_lf wd (rd_s r) i
        · rw [if_pos (nI_lt h9 (by omega)), Nat.min_eq_left (by omega)]
        · rw [if_neg (nI_nlt (by omega) (by omega)), Nat.min_eq_right (by omega)], ly_bI, ly_bI, nI_add, nI_1]
      exact this
  · intro again z hQ
    subst hQ
    unfold X8_givenBy_L5
    simp only
    rw [lr_64_1 h, lg_67 h, hP.2.1, if_pos (nI_le (Nat.le_refl _) (by omega))]
theorem ls_min {a b : Nat} (ha : a < 2 ^ 31) (hb : b < 2 ^ 31) (m : pmM) : X9_less (nI a) (nI b) m = pm_oI (nI (min a b)) m := by
  rw [rm_less]
  by_cases h9 : b ≤ a
  · rw [if_pos (nI_le h9 ha), Nat.min_eq_right h9]
  · rw [if_neg (nI_ge (by omega) hb), Nat.min_eq_left (by omega)]
theorem rm_given {B b : Nat} (h : ly c S) (hP : pg_M I n wd q) (hC : dk_M I 535 r) (hr : dk_W n wd r) (hB : B < 256) (hb : b ≤ 8) : X9_givenBy 108 (nI B) (nI b) (c, w, S, I, K) = pm_oI (nI (gvb (rd_lf wd (rd_s r)) B b n)) (c, w, S, I, K) := by
  have hn6 := hP.1.1
  unfold X9_givenBy
  refine ly_loop (fun i (z : Nat) => ((nI z, nI i, (c, w, S, I, K)) : Int32 × Int32 × pmM)) n (fun i z => z = gvb (rd_lf wd (rd_s r)) B b i) (fun R => R = pm_oI (nI (gvb (rd_lf wd (rd_s r)) B b n)) (c, w, S, I, K)) ?_ ?_ pm_N 0 0 rfl (by omega) (by rw [pm_NE]; omega)
  · intro again i z hi hQ hk
    subst hQ
    have := hk _ rfl
    simp only [gvb] at this
    have h8 := rd_lf8 hP.1 (s := rd_s r) i
    unfold X9_givenBy_L5 X9_givenBy_j42
    simp only
    rw [lg_108 h, hP.2.1, if_neg (nI_ge hi (by omega)), rm_has hB (by omega), ly_cI]
    cases hbb : B.testBit i
    · rw [hbb] at this
      simp only [Bool.false_eq_true, if_false] at this
      rw [ib0, ly_bI, ly_bI, nI_1, Int32.add_zero]
      exact this
    · rw [hbb] at this
      simp only [if_true] at this
      rw [ib1, lr_108_29 h, lc_108 h, rm_leftIn h hP rwa_535 hC hr (by omega), ly_cI, ls_min (by omega) (by omega), ly_cI, ly_bI, ly_bI, nI_add, nI_1]
      exact this
  · intro again z hQ
    subst hQ
    unfold X9_givenBy_L5
    simp only
    rw [lg_108 h, hP.2.1, if_pos (nI_le (Nat.le_refl _) (by omega))]
/-- the bound -/
def shd (f : Nat → Nat) (N : Nat) : Nat → Nat
  | 0 => 0
  | b + 1 => if f (b + 1) ≤ N then b + 1 else shd f N b
theorem shd_e {f : Nat → Nat} {N b : Nat} (hm : ∀ i j, i ≤ j → f i ≤ f j) (hb : b = 0 ∨ f b ≤ N) (hn : N < f (b + 1)) : ∀ k, b ≤ k → shd f N k = b := by
  intro k
  induction k with
  | zero => intro h; simp only [shd]; omega
  | succ k ih =>
    intro h
    simp only [shd]
    rcases Nat.lt_or_ge k b with h1 | h1
    · have : b = k + 1 := by omega
      subst this
      rw [if_pos (hb.resolve_left (by omega))]
    · have := hm (b + 1) (k + 1) (by omega)
      rw [if_neg (by omega)]
      exact ih h1
theorem shd_t {f : Nat → Nat} {N b : Nat} (hb : b = 0 ∨ f b ≤ N) : shd f N b = b := by
  cases b with
  | zero => rfl
  | succ b => simp only [shd]; rw [if_pos (hb.resolve_left (by omega))]
theorem shd_le {f : Nat → Nat} {N : Nat} : ∀ b, shd f N b ≤ b
  | 0 => Nat.le_refl _
  | b + 1 => by
    have := shd_le (f := f) (N := N) b
    simp only [shd]
    split <;> omega
theorem ca_share (x y z : Int32) (h : ly c S) (hJ : JJ I n wd q r a se W G) : ag isI (I 0) c w S (fun k => 1 + k) (X8_share 64 x y z (c, w, S, I, K)) (X9_share 108 x y z) := by
  obtain ⟨hPC, hPM, hDC, hDM, hr, -⟩ := id hJ
  have hn6 := hPC.1.1
  obtain ⟨-, p64⟩ := sh_1 n hn6
  rcases pk_ix x (n := n) (by omega) with hx | hx | ⟨l, hl, rfl⟩
  case inr.inr =>
    rcases pk_ix y (n := 2 ^ n) (by omega) with hy | hy | ⟨B, hB, rfl⟩
    case inr.inr =>
      by_cases hz : 0 ≤ z ∧ z ≤ 200
      · obtain ⟨N, hN, rfl⟩ := nI_of2 (n := 200) rfl (nI_lt0 hz.1) hz.2
        have hl8 := rd_lf8 hPC.1 (s := rd_s r) l
        have hgb : ∀ b, b ≤ 8 → gvb (rd_lf wd (rd_s r)) B b n ≤ 48 := fun b hb => by
          have h1 := gvb_le (f := rd_lf wd (rd_s r)) (B := B) (b := b) (l := n)
          have h2 : n * b ≤ 6 * 8 := Nat.mul_le_mul hn6 hb
          omega
        refine ag_ro (v := .int (if B.testBit l then nI (min (shd (fun b => gvb (rd_lf wd (rd_s r)) B b n) N 8) (rd_lf wd (rd_s r) l)) else nI 0)) (I1 := I) (K1 := K) h hJ ⟨_, rfl⟩ ?_ same_r (fun hJ1 K2 => ⟨ly_u I 108 0 0, K2, ?_, z0', s0, rfl⟩)
        · have hbit := rd_bit B (by omega) l (by omega)
          unfold X8_share X8_share_j27
          rw [lc_64 h, ml_ok h hPC hl, ly_cV, lc_64 h, mb_ok h hPC hB, ly_cV, if_neg (nI_pos (by omega)), if_neg (Int32.not_lt.mpr hz.2), lc_64 h, mu_cV1, show ((nI B >>> (nI l &&& 31)) &&& 1) = nI (if B.testBit l then 1 else 0) from hbit]
          cases hbb : B.testBit l
          · simp only [Bool.false_eq_true, if_false]
            rw [n00]
            rfl
          · simp only [if_true]
            rw [if_neg (show ¬ nI 1 = 0 by decide)]
            have hj : ∀ b, b ≤ 8 → X8_share_j66 64 (nI l) (nI b) (c, w, S, I, K) = pm_oI (nI (min b (rd_lf wd (rd_s r) l))) (c, w, S, I, K) := fun b hb => by
              unfold X8_share_j66
              rw [lr_64_8 h, lc_93 h, rd_leftIn h hPC dk_93 hDC hr hl, ly_cI]
              by_cases h9 : b < rd_lf wd (rd_s r) l
              · rw [if_pos (nI_lt h9 (by omega)), Nat.min_eq_left (by omega)]
              · rw [if_neg (nI_nlt (by omega) (by omega)), Nat.min_eq_right (by omega)]
            refine ly_wh (fun b => b) (fun b => ((nI b, (c, w, S, I, K)) : Int32 × pmM)) (fun b R => b ≤ 8 → R = pm_oI (nI (min (shd (fun b => gvb (rd_lf wd (rd_s r)) B b n) N b) (rd_lf wd (rd_s r) l))) (c, w, S, I, K)) ?_ pm_N 8 (by rw [pm_NE]; omega) (by omega)
            intro again b hA hb
            unfold X8_share_L44
            simp only
            cases b with
            | zero =>
              rw [if_pos (show nI 0 ≤ 0 by decide), hj 0 (by omega)]
              rfl
            | succ b =>
              have := hgb (b + 1) hb
              rw [if_neg (nI_nle (by omega) (by omega)), lc_64 h, rd_given h hPC hDC hr (by omega) hb, ly_cI]
              by_cases h9 : gvb (rd_lf wd (rd_s r)) B (b + 1) n ≤ N
              · rw [if_pos (nI_le h9 (by omega)), hj _ hb]
                simp only [shd]
                rw [if_pos h9]
              · rw [if_neg (nI_ge (by omega) (by omega)), ly_bI, pk_m1]
                simp only [shd]
                rw [if_neg h9]
                exact hA b (by omega) (by omega)
        · obtain ⟨hPM2, hDM2⟩ := jm hJ
          have e13 := hPM2.2.1
          unfold X9_share X9_share_j19 X9_share_j56
          rw [lp_108 h, lc_108 h, il_ok h e13 hn6 hl, ly_cI, i10, lc_108 h, bad_z h, ly_cI, i00, lc_108 h, al_ok h e13 hn6, ly_cI, rm_in, ly_cI, decide_eq_true ((in_n (by omega)).mpr (in_l hB (by omega))), ib1, rm_in, ly_cI, decide_eq_true hz, ib1, lc_108 h, bad_z h, ly_cI, i00]
          generalize ly_u I 108 0 0 = J at hPM2 hDM2 e13 ⊢
          have hj : ∀ b, b ≤ 8 → X9_share_j95 108 (nI l) (nI B) (nI b) (c, w, S, J, K2) = pm_oI (if B.testBit l then nI (min b (rd_lf wd (rd_s r) l)) else nI 0) (c, w, S, J, K2) := fun b hb => by
            unfold X9_share_j95 X9_share_j121
            rw [rm_has (by omega) (by omega), ly_cI]
            cases hbb : B.testBit l
            · rw [ib0]
              rfl
            · rw [ib1, lr_108_29 h, lc_108 h, rm_leftIn h hPM2 rwa_535 hDM2 hr (by omega), ly_cI, ls_min (by omega) (by omega), ly_cI]
              rfl
          refine ly_wh (fun b => 8 - b) (fun b => ((nI b, (c, w, S, J, K2)) : Int32 × pmM)) (fun b R => b ≤ 8 → (b = 0 ∨ gvb (rd_lf wd (rd_s r)) B b n ≤ N) → R = pm_oI (if B.testBit l then nI (min (shd (fun b => gvb (rd_lf wd (rd_s r)) B b n) N 8) (rd_lf wd (rd_s r) l)) else nI 0) (c, w, S, J, K2)) ?_ pm_N 0 (by rw [pm_NE]; omega) (by omega) (Or.inl rfl)
          intro again b hA hb hg
          unfold X9_share_L69
          simp only
          by_cases h8 : b = 8
          · subst h8
            rw [if_pos (show (8 : Int32) ≤ nI 8 by decide), hj 8 (by omega), shd_t hg]
          · have := hgb (b + 1) (by omega)
            rw [if_neg (show ¬ (8 : Int32) ≤ nI b from nI_ge (b := 8) (by omega) (by omega)), lc_108 h, nI_1, rm_given h hPM2 hDM2 hr (by omega) (by omega), ly_cI]
            by_cases h9 : N < gvb (rd_lf wd (rd_s r)) B (b + 1) n
            · rw [if_pos (nI_lt h9 (by omega)), hj b hb, shd_e (fun i j hij => gvb_m hij) hg h9 8 hb]
            · rw [if_neg (nI_nlt (by omega) (by omega)), ly_bI]
              exact hA (b + 1) (by omega) (by omega) (Or.inr (by omega))
      · refine ag_no (K := K) (k := 1) (b := .int 0) h hJ (by omega) ⟨_, rfl⟩ ?_ (fun c1 w1 S1 I1 K2 h1 hI => ?_)
        · have e : X8_share_j26 64 (nI l) (nI B) z 64 (c, w, S, I, K) = rX c w S I K 1 := by
            unfold X8_share_j26 X8_share_j27
            rw [lc_64 h, mu_cV h]
          unfold X8_share
          rw [lc_64 h, ml_ok h hPC hl, ly_cV, lc_64 h, mb_ok h hPC hB, ly_cV]
          by_cases h1 : z < 0
          · rw [if_pos h1, e]
          · rw [if_neg h1, if_pos (Int32.not_le.mp (fun e9 => hz ⟨Int32.not_lt.mp h1, e9⟩)), e]
        · have e13 : ly_u I1 108 0 0 108 13 = nI n := by rw [u0 (by omega), hI 108 13 (by omega) (by omega)]; exact hPM.2.1
          unfold X9_share X9_share_j19 X9_share_j51 X9_share_j56 X9_share_j64
          rw [lp_108 h1, lc_108 h1, il_ok h1 e13 hn6 hl, ly_cI, i10, lc_108 h1, bad_z h1, ly_cI, i00, lc_108 h1, al_ok h1 e13 hn6, ly_cI, rm_in, ly_cI, decide_eq_true ((in_n (by omega)).mpr (in_l hB (by omega))), ib1, rm_in, ly_cI, decide_eq_false hz, ib0, lc_108 h1, bad_21 h1, ly_cI, i10]
    all_goals
      have hy' : y < 0 ∨ nI (2 ^ n) ≤ y := by first | exact Or.inl hy | exact Or.inr hy
      refine ag_no (K := K) (k := 1) (b := .int 0) h hJ (by omega) ⟨_, rfl⟩ ?_ (fun c1 w1 S1 I1 K2 h1 hI => ?_)
      · unfold X8_share
        rw [lc_64 h, ml_ok h hPC hl, ly_cV, lc_64 h, mb_no h hPC hy', rx_cV]
      · have e13 : ly_u I1 108 0 0 108 13 = nI n := by rw [u0 (by omega), hI 108 13 (by omega) (by omega)]; exact hPM.2.1
        unfold X9_share X9_share_j19 X9_share_j51 X9_share_j56 X9_share_j64
        rw [lp_108 h1, lc_108 h1, il_ok h1 e13 hn6 hl, ly_cI, i10, lc_108 h1, bad_z h1, ly_cI, i00, lc_108 h1, al_ok h1 e13 hn6, ly_cI, rm_in, ly_cI, decide_eq_false (fun e9 => (in_n (by omega)).mp e9 hy'), ib0, lc_108 h1, bad_21 h1, ly_cI, i10]
  all_goals
    have hx' : x < 0 ∨ nI n ≤ x := by first | exact Or.inl hx | exact Or.inr hx
    refine ag_no (K := K) (k := 0) (b := .int 0) h hJ (by omega) ⟨_, rfl⟩ ?_ (fun c1 w1 S1 I1 K2 h1 hI => ?_)
    · unfold X8_share
      rw [lc_64 h, ml_no h hPC hx', rx_cV]
    · have e13 : ly_u I1 108 0 0 108 13 = nI n := by rw [u0 (by omega), hI 108 13 (by omega) (by omega)]; exact hPM.2.1
      unfold X9_share X9_share_j19 X9_share_j64
      rw [lp_108 h1, lc_108 h1, il_no h1 e13 hn6 hx', ly_cI, i00, lc_108 h1, bad_10 h1, ly_cI, i10]
end SIS
