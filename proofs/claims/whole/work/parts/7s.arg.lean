/-! argument -/
section ARG
variable {c w : Nat} {S : Nat → pmS} {I I1 I2 J A D : Nat → Nat → Int32} {K K1 K2 : Nat → Nat → Int64} {n : Nat} {wd : Nat → Nat} {q : Nat → Nat → Nat} {r : Nat → Int32} {a : Nat} {se : Nat → Nat} {W G d : Nat} {s : Nat → Nat} {B T : Nat}
def vL (k b : Nat) : Nat := (vst (fun i => (2 ^ k - 1 - b).testBit i) 9).1
theorem vL_16 : ∀ k, k < 9 → ∀ b, b < 2 ^ k → vL k b < 16 := by decide +kernel
theorem kq : ∀ i, i < 8 → ∀ e, e < 2 → ((((1 : Int32) <<< (((nI (i + e) - nI i) + 1) &&& 31)) - 1) <<< (nI i &&& 31)) = nI (bsp i (i + e)) ∧ (((1 : Int32) <<< ((nI (i + e) + 1) &&& 31)) - ((1 : Int32) <<< (nI i &&& 31))) = nI (bsp i (i + e)) ∧ 0 < bsp i (i + e) ∧ bsp i (i + e) < 512 := by decide +kernel
theorem kb1 : ∀ k, k < 9 → ∀ b, b < 2 ^ k → ∀ i, i < k → ∀ e, e < 2 → ((2 ^ k - 1 - b) &&& bsp i (i + e) = bsp i (i + e) ↔ (i + e < k ∧ b &&& bsp i (i + e) = 0)) := by decide +kernel
def kt (k b i e : Nat) : Bool := !(decide (i + e < k) && decide (b &&& bsp i (i + e) = 0)) || (decide ((nI (2 ^ k - 1 - b) &&& (nI (bsp i (i + e)) ^^^ (-1))) = nI (2 ^ k - 1 - (b ||| bsp i (i + e)))) && decide (b ||| bsp i (i + e) < 2 ^ k) && decide (nI b ||| nI (bsp i (i + e)) = nI (b ||| bsp i (i + e))))
theorem kt_t : ∀ k, k < 9 → ∀ b, b < 2 ^ k → ∀ i, i < k → ∀ e, e < 2 → kt k b i e = true := by decide +kernel
theorem kb2 (k : Nat) (hk : k < 9) (b : Nat) (hb : b < 2 ^ k) (i : Nat) (hi : i < k) (e : Nat) (he : e < 2) : (¬ (i + e < k ∧ b &&& bsp i (i + e) = 0)) ∨ ((nI (2 ^ k - 1 - b) &&& (nI (bsp i (i + e)) ^^^ (-1))) = nI (2 ^ k - 1 - (b ||| bsp i (i + e))) ∧ b ||| bsp i (i + e) < 2 ^ k ∧ nI b ||| nI (bsp i (i + e)) = nI (b ||| bsp i (i + e))) := by
  have h := kt_t k hk b hb i hi e he
  unfold kt at h
  by_cases h1 : i + e < k ∧ b &&& bsp i (i + e) = 0
  · right
    rw [decide_eq_true h1.1, decide_eq_true h1.2] at h
    simp only [Bool.and_self, Bool.not_true, Bool.false_or, Bool.and_eq_true] at h
    exact ⟨of_decide_eq_true h.1.1, of_decide_eq_true h.1.2, of_decide_eq_true h.2⟩
  · exact Or.inl h1
theorem kb (k : Nat) (hk : k < 9) (b : Nat) (hb : b < 2 ^ k) (i : Nat) (hi : i < k) (e : Nat) (he : e < 2) : ((2 ^ k - 1 - b) &&& bsp i (i + e) = bsp i (i + e) ↔ (i + e < k ∧ b &&& bsp i (i + e) = 0)) ∧ (i + e < k → b &&& bsp i (i + e) = 0 → (nI (2 ^ k - 1 - b) &&& (nI (bsp i (i + e)) ^^^ (-1))) = nI (2 ^ k - 1 - (b ||| bsp i (i + e))) ∧ b ||| bsp i (i + e) < 2 ^ k ∧ nI b ||| nI (bsp i (i + e)) = nI (b ||| bsp i (i + e))) :=
  ⟨kb1 k hk b hb i hi e he, fun h1 h2 => (kb2 k hk b hb i hi e he).resolve_left (fun h => h ⟨h1, h2⟩)⟩
theorem kd : ∀ x, x < 16 → nI x / 2 = nI (x / 2) ∧ nI (x / 2) + (nI x - nI (x / 2) * 2) = nI (x / 2 + x % 2) := by decide +kernel
theorem k2 : ∀ k, k < 9 → (2 : Int32) * nI k = nI (2 * k) := by decide
def axr (f : Nat → Nat) (B : Nat) : Nat → Nat
  | 0 => 0
  | l + 1 => if B.testBit l then axr f B l ^^^ f l else axr f B l
theorem axr_16 {f : Nat → Nat} {B n : Nat} (hf : ∀ l, l < n → f l < 16) : ∀ l, l ≤ n → axr f B l < 16
  | 0, _ => by show 0 < 16; omega
  | l + 1, hl => by
    have h1 := axr_16 (B := B) hf l (by omega)
    show (if B.testBit l then axr f B l ^^^ f l else axr f B l) < 16
    split
    · exact Nat.xor_lt_two_pow (n := 4) h1 (hf l (by omega))
    · exact h1
def sr (F : Nat → Option Int32) : Nat → Option Int32
  | 0 => none
  | x + 1 => match sr F x with
    | some v => some v
    | none => F x
theorem sr_no {F : Nat → Option Int32} {x : Nat} (h : sr F x = none) (hf : F x = none) : sr F (x + 1) = none := by simp [sr, h, hf]
theorem sr_yes {F : Nat → Option Int32} {x : Nat} {v : Int32} (h : sr F x = none) (hf : F x = some v) : ∀ m, x + 1 ≤ m → sr F m = some v
  | 0, e => by omega
  | m + 1, e => by
    rcases Nat.lt_or_ge x m with e2 | e2
    · have := sr_yes h hf m (by omega)
      simp [sr, this]
    · have : m = x := by omega
      subst this
      simp [sr, h, hf]
theorem sr_all {F : Nat → Option Int32} (h : ∀ x, F x = none) : ∀ m, sr F m = none
  | 0 => rfl
  | m + 1 => sr_no (sr_all h m) (h m)
def ahit (wd s : Nat → Nat) (B T l x : Nat) : Bool := B.testBit l && decide (x / 2 + x % 2 < wd l) && decide (s l &&& bsp (x / 2) (x / 2 + x % 2) = 0) && decide (vL (wd l) (s l ||| bsp (x / 2) (x / 2 + x % 2)) = T ^^^ vL (wd l) (s l))
def anm (l x : Nat) : Int32 := (100 * nI l + 10 * nI (x / 2)) + nI (x / 2 + x % 2)
def aF1 (wd s : Nat → Nat) (B T l x : Nat) : Option Int32 := if ahit wd s B T l x then some (anm l x) else none
def aF2 (wd s : Nat → Nat) (B T l : Nat) : Option Int32 := sr (aF1 wd s B T l) (2 * wd l)
theorem xz {x y : Nat} : x ^^^ y = 0 ↔ y = x := by
  constructor
  · intro h
    have : x ^^^ y ^^^ y = 0 ^^^ y := by rw [h]
    rw [Nat.xor_assoc, Nat.xor_self, Nat.xor_zero, Nat.zero_xor] at this
    exact this.symm
  · intro h; rw [h, Nat.xor_self]
theorem fw_C (h : ly c S) (hP : pg_C I n wd q) (hC : dk_C I 93 r) (hr : dk_W n wd r) (hk : jk I) (hB : B < 256) (hT : T < 16) : X8_firstWinning 64 (nI B) (nI T) (c, w, S, I, K) = pm_oI ((sr (aF2 wd (rd_s r) B T) n).getD (-1)) (c, w, S, I, K) := by
  have hW := hP.1
  have hn6 := hW.1
  unfold X8_firstWinning
  refine ly_loop (fun l (_ : Unit) => ((nI l, (c, w, S, I, K)) : Int32 × pmM)) n (fun l _ => sr (aF2 wd (rd_s r) B T) l = none) (fun R => R = pm_oI ((sr (aF2 wd (rd_s r) B T) n).getD (-1)) (c, w, S, I, K)) ?_ ?_ pm_N 0 () rfl (by omega) (by rw [pm_NE]; omega)
  · intro again l _ hl hQ hnx
    have hw := hW.2.1 l hl
    have hsl := (hr.1 l (by omega)).2
    have hp := pg_pow hW l
    have hv16 := vL_16 (wd l) (by omega) _ hsl
    have j34 : ∀ x, x = (if B.testBit l then 2 ^ wd l - 1 - rd_s r l else 0) → X8_firstWinning_j34 again 64 (nI B) (nI T) (nI l) (nI x) (c, w, S, I, K) = pm_oI ((sr (aF2 wd (rd_s r) B T) n).getD (-1)) (c, w, S, I, K) := fun x hx => by
      have hx256 : x < 256 := by rw [hx]; split <;> omega
      unfold X8_firstWinning_j34
      rw [vo_C h hk hx256, ly_cI, nI_xor, ly_bI]
      refine ly_loop (fun i (_ : Unit) => ((nI i, (c, w, S, I, K)) : Int32 × pmM)) (wd l) (fun i _ => sr (aF1 wd (rd_s r) B T l) (2 * i) = none) (fun R => R = pm_oI ((sr (aF2 wd (rd_s r) B T) n).getD (-1)) (c, w, S, I, K)) ?_ ?_ pm_N 0 () rfl (by omega) (by rw [pm_NE]; omega)
      · intro again2 i _ hi hQ2 hn2
        unfold X8_firstWinning_L48
        simp only
        rw [lr_64_1 h, lr_67_0 h, ld_68 h (by omega), hP.2.2.1 l hl, if_neg (nI_ge hi (by omega))]
        refine ly_loop (fun j (_ : Unit) => ((nI j, (c, w, S, I, K)) : Int32 × pmM)) (i + 2) (fun j _ => i ≤ j ∧ sr (aF1 wd (rd_s r) B T l) (2 * i + (j - i)) = none) (fun R => R = pm_oI ((sr (aF2 wd (rd_s r) B T) n).getD (-1)) (c, w, S, I, K)) ?_ ?_ pm_N i () ⟨by omega, by rw [Nat.sub_self]; exact hQ2⟩ (by omega) (by rw [pm_NE]; omega)
        · intro again3 j _ hj hQ3 hn3
          obtain ⟨hij, hQ3⟩ := hQ3
          obtain ⟨e, rfl⟩ : ∃ e, j = i + e := ⟨j - i, by omega⟩
          rw [show i + e - i = e by omega] at hQ3
          rw [show i + e + 1 - i = e + 1 by omega] at hn3
          have hx2 : (2 * i + e) / 2 = i := by omega
          have hx3 : (2 * i + e) % 2 = e := by omega
          obtain ⟨b1, b2, b3, b4⟩ := kq i (by omega) e (by omega)
          obtain ⟨c1, c2⟩ := kb (wd l) (by omega) _ hsl i hi e (by omega)
          have noh : ahit wd (rd_s r) B T l (2 * i + e) = false → X8_firstWinning_j118 again again2 again3 64 (nI B) (nI T) (nI l) (nI x) (nI (T ^^^ (vst (fun i => x.testBit i) 9).1)) (nI i) (nI (i + e)) (c, w, S, I, K) = pm_oI ((sr (aF2 wd (rd_s r) B T) n).getD (-1)) (c, w, S, I, K) := fun hh => by
            unfold X8_firstWinning_j118
            rw [ly_bI, nI_1]
            have hf : aF1 wd (rd_s r) B T l (2 * i + e) = none := by unfold aF1; rw [hh]; rfl
            exact hn3 () ⟨by omega, sr_no hQ3 hf⟩
          unfold X8_firstWinning_L66 X8_bitsOf
          simp only
          rw [show nI i + 1 = nI (i + 1) from nI_1 i, if_neg (Int32.not_lt.mpr (nI_le (by omega) (by omega))), b1, ly_cI, nI_and]
          by_cases hb : B.testBit l = true
          · rw [if_pos hb] at hx
            subst hx
            by_cases hc : (2 ^ wd l - 1 - rd_s r l) &&& bsp i (i + e) = bsp i (i + e)
            · obtain ⟨hc1, hc2⟩ := c1.mp hc
              obtain ⟨d1, d2, d3⟩ := c2 hc1 hc2
              have hv2 := vL_16 (wd l) (by omega) _ d2
              have htv : T ^^^ vL (wd l) (rd_s r l) < 16 := Nat.xor_lt_two_pow (n := 4) hT hv16
              rw [if_pos (by rw [hc]), d1, vo_C h hk (by omega), ly_cI]
              by_cases hh : vL (wd l) (rd_s r l ||| bsp i (i + e)) = T ^^^ vL (wd l) (rd_s r l)
              · have hit : ahit wd (rd_s r) B T l (2 * i + e) = true := by
                  unfold ahit
                  rw [hx2, hx3, hb, decide_eq_true hc1, decide_eq_true hc2, decide_eq_true hh]; rfl
                rw [if_pos (show nI (vst (fun i_1 => (2 ^ wd l - 1 - (rd_s r l ||| bsp i (i + e))).testBit i_1) 9).1 = nI (T ^^^ (vst (fun i => (2 ^ wd l - 1 - rd_s r l).testBit i) 9).1) from by
                  have : nI (vL (wd l) (rd_s r l ||| bsp i (i + e))) = nI (T ^^^ vL (wd l) (rd_s r l)) := by rw [hh]
                  exact this)]
                unfold X8_named
                rw [ly_cI]
                have hf : aF1 wd (rd_s r) B T l (2 * i + e) = some (anm l (2 * i + e)) := by unfold aF1; rw [hit]; rfl
                have f1 : aF2 wd (rd_s r) B T l = some (anm l (2 * i + e)) := sr_yes hQ3 hf _ (by omega)
                rw [sr_yes hQ f1 n (by omega)]
                unfold anm
                rw [hx2, hx3]
                rfl
              · rw [if_neg (show ¬ nI (vst (fun i_1 => (2 ^ wd l - 1 - (rd_s r l ||| bsp i (i + e))).testBit i_1) 9).1 = nI (T ^^^ (vst (fun i => (2 ^ wd l - 1 - rd_s r l).testBit i) 9).1) from fun e2 => hh ((nI_eq (a := vL (wd l) (rd_s r l ||| bsp i (i + e))) (b := T ^^^ vL (wd l) (rd_s r l)) (by omega) (by omega)).mp e2))]
                refine noh ?_
                unfold ahit
                rw [hx2, hx3, decide_eq_false hh, Bool.and_false]
            · have hle : (2 ^ wd l - 1 - rd_s r l) &&& bsp i (i + e) ≤ bsp i (i + e) := Nat.and_le_right
              rw [if_neg (fun e2 => hc ((nI_eq (by omega) (by omega)).mp e2))]
              refine noh ?_
              unfold ahit
              rw [hx2, hx3, hb]
              by_cases h1 : i + e < wd l
              · rw [decide_eq_false (fun e2 => hc (c1.mpr ⟨h1, e2⟩))]; simp
              · rw [decide_eq_false h1]; simp
          · rw [if_neg hb] at hx
            subst hx
            rw [Nat.zero_and, if_neg (fun e2 => by have := (nI_eq (by omega) (by omega)).mp e2; omega)]
            refine noh ?_
            unfold ahit
            rw [Bool.not_eq_true] at hb
            rw [hb]; simp
        · intro again3 _ hQ3
          unfold X8_firstWinning_L66
          simp only
          rw [show nI i + 1 = nI (i + 1) from nI_1 i, if_pos (nI_lt (by omega) (by omega)), ly_bI]
          refine hn2 () ?_
          have := hQ3.2
          rw [show 2 * i + (i + 2 - i) = 2 * (i + 1) by omega] at this
          exact this
      · intro again2 _ hQ2
        unfold X8_firstWinning_L48
        simp only
        rw [lr_64_1 h, lr_67_0 h, ld_68 h (by omega), hP.2.2.1 l hl, if_pos (nI_le (Nat.le_refl _) (by omega)), ly_bI, nI_1]
        exact hnx () (sr_no hQ hQ2)
    unfold X8_firstWinning_L2
    simp only
    rw [lr_64_1 h, lg_67 h, hP.2.1, if_neg (nI_ge hl (by omega)), show ((nI B >>> (nI l &&& 31)) &&& 1) = nI (if B.testBit l then 1 else 0) from rd_bit B hB l (by omega)]
    cases hb : B.testBit l
    · rw [if_neg (show ¬ nI (if false = true then 1 else 0) = 1 from by decide)]
      exact j34 0 (by rw [hb]; rfl)
    · rw [if_pos (show nI (if true = true then 1 else 0) = 1 from rfl), lr_64_8 h, lc_93 h, rd_leftBits h hP (Or.inl rfl) hC hr hl, ly_cI]
      exact j34 _ (by rw [hb]; rfl)
  · intro again _ hQ
    unfold X8_firstWinning_L2
    simp only
    rw [lr_64_1 h, lg_67 h, hP.2.1, if_pos (nI_le (Nat.le_refl _) (by omega)), hQ]
    rfl
end ARG
