/-! forged -/
section FRG
variable {c w : Nat} {S : Nat → pmS} {I I1 I2 J A D : Nat → Nat → Int32} {K K1 : Nat → Nat → Int64} {n : Nat} {wd : Nat → Nat} {q : Nat → Nat → Nat} {r : Nat → Int32} {a : Nat} {se : Nat → Nat} {W G d : Nat} {s : Nat → Nat} {X : Nat → Bool} {Y : Nat → Nat}
theorem sp_C6 (h : ly c S) (hP : pg_C I n wd q) (hC : dk_C I 96 r) (hr : dk_W n wd r) (hS : js I a se) (ha : rd_la n wd (rd_s r) = a) : (OKs n wd q (rd_s r) se → pm_lp pm_N (X0_speaks_L17 96 83) (0, 0, (c, w, S, I, K)) = pm_oI 1 (c, w, S, I, K)) ∧ (¬ OKs n wd q (rd_s r) se → pm_lp pm_N (X0_speaks_L17 96 83) (0, 0, (c, w, S, I, K)) = pm_oI 0 (c, w, S, I, K)) := by
  have hW := hP.1
  have hn6 := hW.1
  obtain ⟨ha12, hs1, hs2, hs3⟩ := hS
  refine ly_loop (fun l (_ : Unit) => ((nI (Ur wd (rd_s r) l 0), nI l, (c, w, S, I, K)) : Int32 × Int32 × pmM)) n (fun l _ => ∀ u, u < l → ∀ i, i < wd u → (rd_s r u).testBit i = false → se (Ur wd (rd_s r) u i) = q u i) (fun R => (OKs n wd q (rd_s r) se → R = pm_oI 1 (c, w, S, I, K)) ∧ (¬ OKs n wd q (rd_s r) se → R = pm_oI 0 (c, w, S, I, K))) ?_ ?_ pm_N 0 () (fun u hu => by omega) (by omega) (by rw [pm_NE]; omega)
  · intro again l _ hl hQ hnx
    have hw := hW.2.1 l hl
    have hE := Ur_e hW hr hl
    have hle : rd_sum (rd_lf wd (rd_s r)) (l + 1) ≤ a := by rw [← ha]; exact rd_sum_mono (by omega)
    have hU0 : Ur wd (rd_s r) (l + 1) 0 = Ur wd (rd_s r) l (wd l) := by rw [hE]; rfl
    unfold X0_speaks_L17
    simp only
    rw [lr_96_0 h, lg_67 h, hP.2.1, if_neg (nI_ge hl (by omega)), lc_96 h, rd_leftBits h hP (Or.inr rfl) hC hr hl, ly_cI]
    refine ly_loop (fun i (_ : Unit) => ((nI (Ur wd (rd_s r) l i), nI i, (c, w, S, I, K)) : Int32 × Int32 × pmM)) (wd l) (fun i _ => ∀ j, j < i → (rd_s r l).testBit j = false → se (Ur wd (rd_s r) l j) = q l j) (fun R => (OKs n wd q (rd_s r) se → R = pm_oI 1 (c, w, S, I, K)) ∧ (¬ OKs n wd q (rd_s r) se → R = pm_oI 0 (c, w, S, I, K))) ?_ ?_ pm_N 0 () (fun u hu => by omega) (by omega) (by rw [pm_NE]; omega)
    · intro again2 i _ hi hQ2 hn2
      have hUi : Ur wd (rd_s r) l i ≤ Ur wd (rd_s r) l (wd l) := Ur_m (by omega)
      unfold X0_speaks_L38
      simp only
      rw [lr_96_0 h, lr_67_0 h, ld_68 h (by omega), hP.2.2.1 l hl, if_neg (nI_ge hi (by omega)), lg_83 h, hs1]
      by_cases hu : a ≤ Ur wd (rd_s r) l i
      · rw [if_pos (nI_le hu (by omega))]
        unfold X0_speaks_j101
        rw [ly_bI, nI_1]
        have := hnx () (fun u hu2 j hj hb => by
          rcases Nat.lt_or_ge u l with e | e
          · exact hQ u e j hj hb
          · have : u = l := by omega
            subst this
            rcases Nat.lt_or_ge j i with e2 | e2
            · exact hQ2 j e2 hb
            · have h1 := Ur_1 (wd := wd) hb
              have h2 : Ur wd (rd_s r) u (j + 1) ≤ Ur wd (rd_s r) u (wd u) := Ur_m (by omega)
              have h3 : Ur wd (rd_s r) u i ≤ Ur wd (rd_s r) u j := Ur_m e2
              omega)
        rw [hU0, show Ur wd (rd_s r) l (wd l) = Ur wd (rd_s r) l i by omega] at this
        exact this
      · rw [if_neg (nI_ge (by omega) (by omega)), show ((nI (2 ^ wd l - 1 - rd_s r l) >>> (nI i &&& 31)) &&& 1) = nI (if (rd_s r l).testBit i then 0 else 1) from lb_bit (wd l) (by omega) _ (hr.1 l (by omega)).2 i hi]
        cases hb : (rd_s r l).testBit i
        · rw [if_pos (show nI (if false = true then 0 else 1) = 1 from rfl), lr_83_0 h, ld_84 h (by omega), (hs3 _ (by omega)).1, lr_96_0 h, lc_67 h, rd_wordAt h hP (by omega) (by omega), ly_cI, show rd_q n wd q l i = q l i from if_pos ⟨hl, hi⟩]
          by_cases hq : se (Ur wd (rd_s r) l i) = q l i
          · rw [hq, if_pos rfl, ly_bI, nI_1]
            unfold X0_speaks_j95
            rw [ly_bI, nI_1, ← Ur_1 hb]
            refine hn2 () (fun j hj hbj => ?_)
            rcases Nat.lt_or_ge j i with e | e
            · exact hQ2 j e hbj
            · have : j = i := by omega
              subst this; exact hq
          · have hq16 := hW.2.2.2 l i hl hi
            have hse := (hs3 (Ur wd (rd_s r) l i) (by omega)).2.2
            rw [if_neg (fun e => hq ((nI_eq (by omega) (by omega)).mp e))]
            exact ⟨fun hO => absurd (hO l hl i hi hb) hq, fun _ => rfl⟩
        · rw [if_neg (show ¬ nI (if true = true then 0 else 1) = 1 from by decide)]
          unfold X0_speaks_j95
          rw [ly_bI, nI_1, ← Ur_0 hb]
          refine hn2 () (fun j hj hbj => ?_)
          rcases Nat.lt_or_ge j i with e | e
          · exact hQ2 j e hbj
          · have : j = i := by omega
            subst this; rw [hb] at hbj; exact absurd hbj (by decide)
    · intro again2 _ hQ2
      unfold X0_speaks_L38
      simp only
      rw [lr_96_0 h, lr_67_0 h, ld_68 h (by omega), hP.2.2.1 l hl, if_pos (nI_le (Nat.le_refl _) (by omega))]
      unfold X0_speaks_j101
      rw [ly_bI, nI_1]
      have := hnx () (fun u hu2 j hj hb => by
          rcases Nat.lt_or_ge u l with e | e
          · exact hQ u e j hj hb
          · have : u = l := by omega
            subst this
            exact hQ2 j hj hb)
      rw [hU0] at this
      exact this
  · intro again _ hQ
    unfold X0_speaks_L17
    simp only
    rw [lr_96_0 h, lg_67 h, hP.2.1, if_pos (nI_le (Nat.le_refl _) (by omega))]
    exact ⟨fun _ => rfl, fun hn => absurd hQ hn⟩
/-- the model's says, over any row -/
theorem sy_F (h : ly c S) (hPM : pg_M I n wd q) (hDM : dk_M I 535 r) (hr : dk_W n wd r) (hS : a ≤ 12 ∧ I 108 33 = nI a ∧ ∀ k, k < a → I 452 k = nI (se k) ∧ se k < 16) (K2 : Nat → Nat → Int64) : ∃ D, only PZ (ly_u I 108 0 0) D ∧ ((OKs n wd q (rd_s r) se ∧ rd_la n wd (rd_s r) = a) → X9_says 108 (c, w, S, I, K2) = pm_oI 1 (c, w, S, D, K2)) ∧ (¬ (OKs n wd q (rd_s r) se ∧ rd_la n wd (rd_s r) = a) → X9_says 108 (c, w, S, I, K2) = pm_oI 0 (c, w, S, D, K2)) := by
  have hW := hPM.1
  have hn6 := hW.1
  have hsm := sum_48 hW (Nat.le_refl n)
  have hPM1 := pg_M_same hPM (s0 (I := I))
  have hDM1 := dk_M_same hDM (s0 (I := I))
  obtain ⟨S1, S3, S4⟩ := hS
  obtain ⟨D, d1, d2, d3⟩ := lz_M (w := w) (K := K2) h hPM1 hDM1 hr
  have hX : ∀ l, l < n → ∀ i, i < wd l → decide (D 559 (rd_sum wd l + i) = nI 1) = (rd_s r l).testBit i := fun l hl i hi => by
    rw [(d3 l hl i hi).2.1]
    cases (rd_s r l).testBit i
    · exact decide_eq_false (by decide)
    · exact decide_eq_true (by decide)
  have hY : ∀ l, l < n → ∀ i, i < wd l → nz (D 558 (rd_sum wd l + i)) = q l i := fun l hl i hi => by
    have := hW.2.2.2 l i hl hi
    rw [(d3 l hl i hi).1]
    exact nI_clamp (by omega)
  have key := sy_M (w := w) (K := K2) (D := D) (X := fun p => decide (D 559 p = nI 1)) (Y := fun p => nz (D 558 p)) (se := se) (a := a) (N := rd_sum wd n) h (by omega) (fun p hp => by
    obtain ⟨l, i, hl, hi, rfl⟩ := fl_ex hp
    rw [hX l hl i hi]; exact (d3 l hl i hi).2.1) (fun p hp => by
    obtain ⟨l, i, hl, hi, rfl⟩ := fl_ex hp
    have := hW.2.2.2 l i hl hi
    rw [hY l hl i hi]; exact ⟨(d3 l hl i hi).1, this⟩) ⟨S1, by rw [d2 108 33 (by unfold PZ; omega), u0 (by omega)]; exact S3, fun k hk => ⟨by rw [d2 452 k (by unfold PZ; omega), u0 (by omega)]; exact (S4 k hk).1, (S4 k hk).2⟩⟩
  rw [OK_F (X := fun p => decide (D 559 p = nI 1)) (Y := fun p => nz (D 558 p)) hW hr hX hY] at key
  have e : X9_says 108 (c, w, S, I, K2) = pm_lp pm_N (X9_says_L14 108 (nI (rd_sum wd n))) (0, 0, (c, w, S, D, K2)) := by
    unfold X9_says
    rw [lp_108 h, lc_108 h, d1, ly_cI]
  refine ⟨D, d2, ?_, ?_⟩
  · intro hO; rw [e]; exact key.1 hO
  · intro hO; rw [e]; exact key.2 hO
noncomputable def spk (n : Nat) (wd : Nat → Nat) (q : Nat → Nat → Nat) (se : Nat → Nat) (a : Nat) (r : Nat → Int32) : Bool := @decide (OKs n wd q (rd_s r) se ∧ rd_la n wd (rd_s r) = a) (Classical.propDecidable _)
theorem spk_1 (h : spk n wd q se a r = true) : OKs n wd q (rd_s r) se ∧ rd_la n wd (rd_s r) = a := @of_decide_eq_true _ (Classical.propDecidable _) h
theorem spk_0 (h : spk n wd q se a r = false) : ¬ (OKs n wd q (rd_s r) se ∧ rd_la n wd (rd_s r) = a) := @of_decide_eq_false _ (Classical.propDecidable _) h
theorem sy_B (h : ly c S) (hPM : pg_M I n wd q) (hDM : dk_M I 535 r) (hr : dk_W n wd r) (hS : a ≤ 12 ∧ I 108 33 = nI a ∧ ∀ k, k < a → I 452 k = nI (se k) ∧ se k < 16) (K2 : Nat → Nat → Int64) : ∃ D, only PZ (ly_u I 108 0 0) D ∧ X9_says 108 (c, w, S, I, K2) = pm_oI (ly_b (spk n wd q se a r)) (c, w, S, D, K2) := by
  obtain ⟨D, d1, d2, d3⟩ := sy_F (w := w) h hPM hDM hr hS K2
  refine ⟨D, d1, ?_⟩
  cases e : spk n wd q se a r
  · exact d3 (spk_0 e)
  · exact d2 (spk_1 e)
theorem sp_B (h : ly c S) (hPC : pg_C I n wd q) (hDC : dk_C I 96 r) (hr : dk_W n wd r) (hS : js I a se) : X0_speaks 96 83 (c, w, S, I, K) = pm_oI (ly_b (spk n wd q se a r)) (c, w, S, I, K) := by
  have hW := hPC.1
  have hn6 := hW.1
  have hla : rd_la n wd (rd_s r) ≤ 48 := Nat.le_trans (rd_sum_bd (B := 8) (fun l hl => rd_lf8 hW l)) (by omega)
  have ha12 := hS.1
  unfold X0_speaks
  rw [lc_96 h, rd_leftInAll h hPC (Or.inr rfl) hDC hr, ly_cI, lg_83 h, hS.2.1]
  cases e : spk n wd q se a r
  · have hO := spk_0 e
    by_cases ha : rd_la n wd (rd_s r) = a
    · rw [if_pos (by rw [ha]), (sp_C6 h hPC hDC hr hS ha).2 (fun e => hO ⟨e, ha⟩)]
      rfl
    · rw [if_neg (fun e => ha ((nI_eq (by omega) (by omega)).mp e))]
      rfl
  · have hO := spk_1 e
    rw [if_pos (by rw [hO.2]), (sp_C6 h hPC hDC hr hS hO.2).1 hO.1]
    rfl
theorem uu_id {b k : Nat} {x v : Int32} (h : A b k = v) : ly_u (ly_u A b k x) b k v = A := by
  funext i j
  rw [ly_uE, ly_uE]
  by_cases e : i = b ∧ j = k
  · rw [if_pos e, e.1, e.2, h]
  · rw [if_neg e, if_neg e]
def rfo (r : Nat → Int32) (l i j : Nat) : Nat → Int32 := rup r l (nI (rd_s r l ^^^ bsp i j))
theorem sb_C {l i j : Nat} (h : ly c S) (hPC : pg_C A n wd q) (hDC : dk_C A 96 r) (hr : dk_W n wd r) (hS : js A a se) (hl : l < n) (hj : j < wd l) (hij : i ≤ j) : X0_speaksBehind 96 83 (nI l) (nI (bsp i j)) (c, w, S, A, K) = pm_oI (ly_b (spk n wd q se a (rfo r l i j))) (c, w, S, A, K) := by
  have hW := hPC.1
  have hn6 := hW.1
  have e97 : A 97 l = nI (rd_s r l) := dk_s hDC hr (by omega)
  have hW2 : dk_W n wd (rfo r l i j) := dk_Ws hW hr (by omega) (xor_b hW hr hl hj hij)
  have hC2 : dk_C (ly_u A 97 l (nI (rd_s r l ^^^ bsp i j))) 96 (rfo r l i j) := (dk_C_u hDC).2.2.2.2.1 (by omega)
  have hP2 : pg_C (ly_u A 97 l (nI (rd_s r l ^^^ bsp i j))) n wd q := pg_C_same hPC (same_u same_r (by unfold sc; omega))
  have hS2 : js (ly_u A 97 l (nI (rd_s r l ^^^ bsp i j))) a se := js_same hS (same_u same_r (by unfold sc; omega))
  unfold X0_speaksBehind
  rw [lr_96_2 h, ld_97 h (by omega), e97, nI_xor, ls_97 h (by omega), lc_96 h, sp_B h hP2 hC2 hW2 hS2, ly_cI, lr_96_2 h, ld_97 h (by omega), ly_uE, if_pos ⟨rfl, rfl⟩, nI_xor, ls_97 h (by omega), Nat.xor_assoc, Nat.xor_self, Nat.xor_zero, uu_id e97, ly_nb]
/-- what is found: how many, which first -/
def fst1 (b : Bool) (y : Int32) (p : Int32 × Int32) : Int32 × Int32 := if b then (p.1 + 1, if p.1 = 0 then y else p.2) else p
def fnm (l i j : Nat) : Int32 := (((100 : Int32) * nI l) + ((10 : Int32) * nI i)) + nI j
def fj (B : Nat → Nat → Nat → Bool) (l i : Nat) (p : Int32 × Int32) : Nat → Int32 × Int32
  | 0 => p
  | t + 1 => fst1 (B l i (i + t)) (fnm l i (i + t)) (fj B l i p t)
def fi (B : Nat → Nat → Nat → Bool) (wd : Nat → Nat) (l : Nat) (p : Int32 × Int32) : Nat → Int32 × Int32
  | 0 => p
  | i + 1 => fj B l i (fi B wd l p i) (wd l - i)
def ff (B : Nat → Nat → Nat → Bool) (wd : Nat → Nat) : Nat → Int32 × Int32
  | 0 => (0, -1)
  | l + 1 => fi B wd l (ff B wd l) (wd l)
def fres (x : Int32) (p : Int32 × Int32) : Int32 := if x = 0 then p.1 else p.2
theorem fg_C {B : Nat → Nat → Nat → Bool} {x : Int32} (h : ly c S) (hP : pg_C A n wd q) (hB : ∀ l i j, l < n → j < wd l → i ≤ j → X0_speaksBehind 96 83 (nI l) (nI (bsp i j)) (c, w, S, A, K) = pm_oI (ly_b (B l i j)) (c, w, S, A, K)) : pm_lp pm_N (X8_forged_L36 64 x) (0, -1, 0, (c, w, S, A, K)) = pm_oI (fres x (ff B wd n)) (c, w, S, A, K) := by
  have hW := hP.1
  have hn6 := hW.1
  refine ly_loop (fun l (_ : Unit) => (((ff B wd l).1, (ff B wd l).2, nI l, (c, w, S, A, K)) : Int32 × Int32 × Int32 × pmM)) n (fun _ _ => True) (fun R => R = pm_oI (fres x (ff B wd n)) (c, w, S, A, K)) ?_ ?_ pm_N 0 () trivial (by omega) (by rw [pm_NE]; omega)
  · intro again l _ hl _ hn1
    have hn1 := hn1 () trivial
    have hw := hW.2.1 l hl
    unfold X8_forged_L36
    simp only
    rw [lr_64_1 h, lg_67 h, hP.2.1, if_neg (nI_ge hl (by omega))]
    refine ly_loop (fun i (_ : Unit) => (((fi B wd l (ff B wd l) i).1, (fi B wd l (ff B wd l) i).2, nI i, (c, w, S, A, K)) : Int32 × Int32 × Int32 × pmM)) (wd l) (fun _ _ => True) (fun R => R = pm_oI (fres x (ff B wd n)) (c, w, S, A, K)) ?_ ?_ pm_N 0 () trivial (by omega) (by rw [pm_NE]; omega)
    · intro again2 i _ hi _ hn2
      have hn2 := hn2 () trivial
      unfold X8_forged_L51
      simp only
      rw [lr_64_1 h, lr_67_0 h, ld_68 h (by omega), hP.2.2.1 l hl, if_neg (nI_ge hi (by omega))]
      refine ly_loop (fun t (_ : Unit) => (((fj B l i (fi B wd l (ff B wd l) i) t).1, (fj B l i (fi B wd l (ff B wd l) i) t).2, nI (i + t), (c, w, S, A, K)) : Int32 × Int32 × Int32 × pmM)) (wd l - i) (fun _ _ => True) (fun R => R = pm_oI (fres x (ff B wd n)) (c, w, S, A, K)) ?_ ?_ pm_N 0 () trivial (by omega) (by rw [pm_NE]; omega)
      · intro again3 t _ ht _ hn3
        have hn3 := hn3 () trivial
        rw [show fj B l i (fi B wd l (ff B wd l) i) (t + 1) = fst1 (B l i (i + t)) (fnm l i (i + t)) (fj B l i (fi B wd l (ff B wd l) i) t) from rfl] at hn3
        unfold X8_forged_L70
        simp only
        rw [lr_64_1 h, lr_67_0 h, ld_68 h (by omega), hP.2.2.1 l hl, if_neg (nI_ge (by omega) (by omega)), lr_64_9 h, lr_64_5 h, bs_C (by omega) (by omega), ly_cI, lc_96 h, hB l i (i + t) hl (by omega) (by omega), ly_cI]
        cases hb : B l i (i + t)
        · rw [hb] at hn3
          rw [ib0]
          unfold X8_forged_j129
          rw [ly_bI, nI_1]
          exact hn3
        · rw [hb] at hn3
          rw [ib1]
          unfold fst1 at hn3
          simp only [if_true] at hn3
          unfold X8_forged_j125 X8_forged_j129 X8_named
          by_cases e : (fj B l i (fi B wd l (ff B wd l) i) t).1 = 0
          · rw [if_pos e] at hn3 ⊢
            rw [ly_cI, ly_bI, ly_bI, nI_1]
            exact hn3
          · rw [if_neg e] at hn3 ⊢
            rw [ly_bI, ly_bI, nI_1]
            exact hn3
      · intro again3 _ _
        unfold X8_forged_L70
        simp only
        rw [lr_64_1 h, lr_67_0 h, ld_68 h (by omega), hP.2.2.1 l hl, if_pos (nI_le (by omega) (by omega)), ly_bI, nI_1]
        exact hn2
    · intro again2 _ _
      unfold X8_forged_L51
      simp only
      rw [lr_64_1 h, lr_67_0 h, ld_68 h (by omega), hP.2.2.1 l hl, if_pos (nI_le (by omega) (by omega)), ly_bI, nI_1]
      exact hn1
  · intro again _ _
    unfold X8_forged_L36 X8_forged_j156
    simp only
    rw [lr_64_1 h, lg_67 h, hP.2.1, if_pos (nI_le (Nat.le_refl _) (by omega))]
    unfold fres
    by_cases e : x = 0
    · rw [if_pos e, if_pos e]
    · rw [if_neg e, if_neg e]
theorem fg_M {B : Nat → Nat → Nat → Bool} {x : Int32} (h : ly c S) (hP : pg_M A n wd q) (hD : dk_M A 535 r) (hr : dk_W n wd r) (hB : ∀ E l i j, only PZ A E → l < n → j < wd l → i ≤ j → ∃ D, only PZ (ly_u (ly_u E 535 l (nI (rd_s r l ^^^ bsp i j))) 108 0 0) D ∧ X9_says 108 (c, w, S, ly_u E 535 l (nI (rd_s r l ^^^ bsp i j)), K) = pm_oI (ly_b (B l i j)) (c, w, S, D, K)) (h0 : A 108 0 = 0) : ∃ E, pm_lp pm_N (X9_forged_L37 108 x) (0, -1, 0, (c, w, S, A, K)) = pm_oI (fres x (ff B wd n)) (c, w, S, E, K) ∧ only PZ A E := by
  have hW := hP.1
  have hn6 := hW.1
  have e13 : ∀ E, only PZ A E → E 108 13 = nI n := fun E hE => by rw [hE 108 13 (by unfold PZ; omega)]; exact hP.2.1
  have e113 : ∀ E l, only PZ A E → l < n → E 113 l = nI (wd l) := fun E l hE hl => by rw [hE 113 l (by unfold PZ; omega)]; exact hP.2.2.1 l (by omega)
  have e535 : ∀ E l, only PZ A E → l < n → E 535 l = nI (rd_s r l) := fun E l hE hl => by rw [hE 535 l (by unfold PZ; omega)]; exact dm_s hD hr (by omega)
  refine ly_loop (fun l (E : Nat → Nat → Int32) => (((ff B wd l).1, (ff B wd l).2, nI l, (c, w, S, E, K)) : Int32 × Int32 × Int32 × pmM)) n (fun _ E => only PZ A E) (fun R => ∃ E, R = pm_oI (fres x (ff B wd n)) (c, w, S, E, K) ∧ only PZ A E) ?_ ?_ pm_N 0 A only_r (by omega) (by rw [pm_NE]; omega)
  · intro again l E hl hE hn1
    have hw := hW.2.1 l hl
    unfold X9_forged_L37
    simp only
    rw [lg_108 h, e13 E hE, if_neg (nI_ge hl (by omega))]
    refine ly_loop (fun i (E : Nat → Nat → Int32) => (((fi B wd l (ff B wd l) i).1, (fi B wd l (ff B wd l) i).2, nI i, (c, w, S, E, K)) : Int32 × Int32 × Int32 × pmM)) (wd l) (fun _ E => only PZ A E) (fun R => ∃ E, R = pm_oI (fres x (ff B wd n)) (c, w, S, E, K) ∧ only PZ A E) ?_ ?_ pm_N 0 E hE (by omega) (by rw [pm_NE]; omega)
    · intro again2 i E hi hE hn2
      unfold X9_forged_L49
      simp only
      rw [lr_108_16 h, ld_113 h (by omega), e113 E l hE hl, if_neg (nI_ge hi (by omega))]
      refine ly_loop (fun t (E : Nat → Nat → Int32) => (((fj B l i (fi B wd l (ff B wd l) i) t).1, (fj B l i (fi B wd l (ff B wd l) i) t).2, nI (i + t), (c, w, S, E, K)) : Int32 × Int32 × Int32 × pmM)) (wd l - i) (fun _ E => only PZ A E) (fun R => ∃ E, R = pm_oI (fres x (ff B wd n)) (c, w, S, E, K) ∧ only PZ A E) ?_ ?_ pm_N 0 E hE (by omega) (by rw [pm_NE]; omega)
      · intro again3 t E ht hE hn3
        obtain ⟨D, d1, d2⟩ := hB E l i (i + t) hE hl (by omega) (by omega)
        have eD : D 535 l = nI (rd_s r l ^^^ bsp i (i + t)) := by rw [d1 535 l (by unfold PZ; omega), u0 (by omega), ly_uE, if_pos ⟨rfl, rfl⟩]
        have hF : only PZ A (ly_u D 535 l (nI (rd_s r l))) := by
          intro u v hn
          rw [ly_uE]
          by_cases e : u = 535 ∧ v = l
          · rw [if_pos e, e.1, e.2]; exact (dm_s hD hr (by omega)).symm
          · rw [if_neg e, d1 u v hn, ly_uE]
            by_cases e2 : u = 108 ∧ v = 0
            · rw [if_pos e2, e2.1, e2.2, h0]
            · rw [if_neg e2, ly_uE, if_neg e]; exact hE u v hn
        have hn3 := hn3 _ hF
        rw [show fj B l i (fi B wd l (ff B wd l) i) (t + 1) = fst1 (B l i (i + t)) (fnm l i (i + t)) (fj B l i (fi B wd l (ff B wd l) i) t) from rfl] at hn3
        unfold X9_forged_L65
        simp only
        rw [lr_108_16 h, ld_113 h (by omega), e113 E l hE hl, if_neg (nI_ge (by omega) (by omega)), lr_108_29 h, ly_bI, show (0 : Int32) + nI l = nI l from Int32.zero_add _, ld_535 h (by omega), e535 E l hE hl, bs_M (by omega) (by omega), ly_cI, nI_xor, ls_535 h (by omega), lc_108 h, d2, ly_cI, lr_108_29 h, ly_bI, ld_535 h (by omega), eD, bs_M (by omega) (by omega), ly_cI, nI_xor, ls_535 h (by omega), Nat.xor_assoc, Nat.xor_self, Nat.xor_zero]
        cases hb : B l i (i + t)
        · rw [hb] at hn3
          rw [ib0]
          unfold X9_forged_j155
          rw [ly_bI, nI_1]
          exact hn3
        · rw [hb] at hn3
          rw [ib1]
          unfold fst1 at hn3
          simp only [if_true] at hn3
          unfold X9_forged_j151 X9_forged_j155
          by_cases e : (fj B l i (fi B wd l (ff B wd l) i) t).1 = 0
          · rw [if_pos e] at hn3 ⊢
            rw [ly_bI, ly_bI, nI_1]
            exact hn3
          · rw [if_neg e] at hn3 ⊢
            rw [ly_bI, ly_bI, nI_1]
            exact hn3
      · intro again3 E hE
        unfold X9_forged_L65
        simp only
        rw [lr_108_16 h, ld_113 h (by omega), e113 E l hE hl, if_pos (nI_le (by omega) (by omega)), ly_bI, nI_1]
        exact hn2 E hE
    · intro again2 E hE
      unfold X9_forged_L49
      simp only
      rw [lr_108_16 h, ld_113 h (by omega), e113 E l hE hl, if_pos (nI_le (by omega) (by omega)), ly_bI, nI_1]
      exact hn1 E hE
  · intro again E hE
    unfold X9_forged_L37 X9_forged_j182
    simp only
    rw [lg_108 h, e13 E hE, if_pos (nI_le (Nat.le_refl _) (by omega))]
    refine ⟨E, ?_, hE⟩
    unfold fres
    by_cases e : x = 0
    · rw [if_pos e, if_pos e]
    · rw [if_neg e, if_neg e]
theorem ca_forged (x : Int32) (h : ly c S) (hJ : JJ I n wd q r a se W G) : ag isI (I 0) c w S (fun k => k) (X8_forged 64 x (c, w, S, I, K)) (X9_forged 108 x) := by
  obtain ⟨hPC, hPM, hDC, hDM, hr, hT, hS, hH, hc, hk, hL⟩ := id hJ
  have hW := hPC.1
  have hn6 := hW.1
  by_cases hx : 0 ≤ x ∧ x ≤ 1
  case neg =>
    refine ag_no (K := K) (k := 1) (b := .int 0) h hJ (by omega) ⟨_, rfl⟩ ?_ (fun c1 w1 S1 I1 K2 h1 hI => ?_)
    · unfold X8_forged X8_forged_j15
      rw [if_neg (fun e => hx (by rw [e]; decide)), if_neg (fun e => hx (by rw [e]; decide)), lc_64 h, mu_cV h]
    · unfold X9_forged X9_forged_j20
      rw [lp_108 h1, rm_in, ly_cI, decide_eq_false hx, ib0, lc_108 h1, bad_11 h1, ly_cI, i10]
  have hx01 : x = 0 ∨ x = 1 := by
    obtain ⟨k, hk, rfl⟩ := nI_of2 (n := 1) rfl (nI_lt0 hx.1) hx.2
    rcases (show k = 0 ∨ k = 1 by omega) with rfl | rfl
    · exact Or.inl rfl
    · exact Or.inr rfl
  obtain ⟨A, g1, g2, g3⟩ := to_C (w := w) (K := K) h hDC
  have hsA : same I A := PD_s g3
  refine ag_ro (v := .int (fres x (ff (fun l i j => spk n wd q se a (rfo r l i j)) wd n))) (I1 := A) (K1 := K) h hJ ⟨_, rfl⟩ ?_ hsA (fun hJ1 K2 => ?_)
  · have e : X8_forged 64 x (c, w, S, I, K) = X8_forged_j15 64 x 1 64 (c, w, S, I, K) := by
      unfold X8_forged X8_forged_j10
      rcases hx01 with rfl | rfl
      · rw [if_pos rfl]
      · rw [if_neg (by decide), if_pos rfl]
    rw [e]
    unfold X8_forged_j15
    rw [lc_64 h, mu_cV1, lr_64_9 h, lr_64_8 h, lc_96 h, g1, ly_cV]
    exact fg_C (B := fun l i j => spk n wd q se a (rfo r l i j)) h (pg_C_same hPC hsA) (fun l i j hl hj hij => sb_C h (pg_C_same hPC hsA) g2 hr (js_same hS hsA) hl hj hij)
  · obtain ⟨hPM2, hDM2⟩ := jm hJ1
    have hS2 := js_same (js_same hS hsA) (s0 (I := A))
    obtain ⟨E, k1, k2⟩ := fg_M (w := w) (K := K2) (A := ly_u A 108 0 0) (x := x) (B := fun l i j => spk n wd q se a (rfo r l i j)) h hPM2 hDM2 hr (fun E l i j hE hl hj hij => by
      have hW2 : dk_W n wd (rfo r l i j) := dk_Ws hW hr (by omega) (xor_b hW hr hl hj hij)
      have hDE : dk_M E 535 r := fun k hk => by rw [hE 535 k (by unfold PZ; omega)]; exact hDM2 k hk
      have hPE : pg_M (ly_u E 535 l (nI (rd_s r l ^^^ bsp i j))) n wd q := pg_M_c hPM2 (fun u v hd => by unfold dPM at hd; rw [ly_uE, if_neg (by omega)]; exact hE u v (by unfold PZ; omega))
      exact sy_B h hPE (dm_u hDE) hW2 ⟨hS2.1, by rw [ly_uE, if_neg (by omega), hE 108 33 (by unfold PZ; omega)]; exact hS2.2.2.1, fun k hk => ⟨by rw [ly_uE, if_neg (by omega), hE 452 k (by unfold PZ; omega)]; exact (hS2.2.2.2 k hk).2.1, (hS2.2.2.2 k hk).2.2⟩⟩ K2) z0'
    refine ⟨E, K2, ?_, by rw [k2 108 0 (by unfold PZ; omega)]; exact z0', fun i j hn => ((PZ_same k2) i j hn).trans (s0 i j hn), rfl⟩
    unfold X9_forged X9_forged_j20
    rw [lp_108 h, rm_in, ly_cI, decide_eq_true hx, ib1, lc_108 h, bad_z h, ly_cI, i00, k1]
end FRG
