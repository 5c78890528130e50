/-! says -/
section SAY
variable {c w : Nat} {S : Nat → pmS} {I I1 I2 J A D : Nat → Nat → Int32} {K K1 : Nat → Nat → Int64} {n : Nat} {wd : Nat → Nat} {q : Nat → Nat → Nat} {r : Nat → Int32} {a : Nat} {se : Nat → Nat} {W G d : Nat} {s : Nat → Nat} {X : Nat → Bool} {Y : Nat → Nat}
def lcn (b : Nat) : Nat → Nat
  | 0 => 0
  | i + 1 => lcn b i + (if b.testBit i then 0 else 1)
theorem lcn_all : ∀ k, k < 9 → ∀ b, b < 2 ^ k → lcn b k = k - rd_pc b := by decide +kernel
theorem lcn_m {b i : Nat} : ∀ {j : Nat}, i ≤ j → lcn b i ≤ lcn b j
  | 0, h => by have : i = 0 := by omega
               subst this; exact Nat.le_refl _
  | j + 1, h => by
    rcases Nat.lt_or_ge i (j + 1) with e | e
    · have := lcn_m (b := b) (i := i) (j := j) (by omega)
      have h2 : lcn b (j + 1) = lcn b j + (if b.testBit j then 0 else 1) := rfl
      omega
    · have : i = j + 1 := by omega
      subst this; exact Nat.le_refl _
def Ur (wd s : Nat → Nat) (l i : Nat) : Nat := rd_sum (rd_lf wd s) l + lcn (s l) i
theorem Ur_e (hW : pg_W n wd q) (hr : dk_W n wd r) {l : Nat} (hl : l < n) : Ur wd (rd_s r) l (wd l) = rd_sum (rd_lf wd (rd_s r)) (l + 1) := by
  have hn6 := hW.1
  have hw := hW.2.1 l hl
  unfold Ur
  rw [lcn_all (wd l) (by omega) _ (hr.1 l (by omega)).2]
  rfl
theorem Ur_1 {l i : Nat} (h : (s l).testBit i = false) : Ur wd s l (i + 1) = Ur wd s l i + 1 := by
  unfold Ur
  have : lcn (s l) (i + 1) = lcn (s l) i + (if (s l).testBit i then 0 else 1) := rfl
  rw [this, h]; rfl
theorem Ur_0 {l i : Nat} (h : (s l).testBit i = true) : Ur wd s l (i + 1) = Ur wd s l i := by
  unfold Ur
  have : lcn (s l) (i + 1) = lcn (s l) i + (if (s l).testBit i then 0 else 1) := rfl
  rw [this, h]; rfl
theorem Ur_m {l i j : Nat} (h : i ≤ j) : Ur wd s l i ≤ Ur wd s l j := Nat.add_le_add_left (lcn_m h) _
def OKs (n : Nat) (wd : Nat → Nat) (q : Nat → Nat → Nat) (s se : Nat → Nat) : Prop := ∀ l, l < n → ∀ i, i < wd l → (s l).testBit i = false → se (Ur wd s l i) = q l i
theorem lb_bit : ∀ k, k < 9 → ∀ b, b < 2 ^ k → ∀ i, i < k → (((nI (2 ^ k - 1 - b)) >>> (nI i &&& nI 31)) &&& nI 1) = nI (if b.testBit i then 0 else 1) := by decide +kernel
theorem sp_C (h : ly c S) (hP : pg_C I n wd q) (hC : dk_C I 93 r) (hr : dk_W n wd r) (hS : js I a se) (ha : rd_la n wd (rd_s r) = a) : (OKs n wd q (rd_s r) se → pm_lp pm_N (X0_speaks_L17 93 83) (0, 0, (c, w, S, I, K)) = pm_oI 1 (c, w, S, I, K)) ∧ (¬ OKs n wd q (rd_s r) se → pm_lp pm_N (X0_speaks_L17 93 83) (0, 0, (c, w, S, I, K)) = pm_oI 0 (c, w, S, I, K)) := by
  have hW := hP.1
  have hn6 := hW.1
  obtain ⟨ha12, hs1, hs2, hs3⟩ := hS
  refine ly_loop (fun l (_ : Unit) => ((nI (Ur wd (rd_s r) l 0), nI l, (c, w, S, I, K)) : Int32 × Int32 × pmM)) n (fun l _ => ∀ u, u < l → ∀ i, i < wd u → (rd_s r u).testBit i = false → se (Ur wd (rd_s r) u i) = q u i) (fun R => (OKs n wd q (rd_s r) se → R = pm_oI 1 (c, w, S, I, K)) ∧ (¬ OKs n wd q (rd_s r) se → R = pm_oI 0 (c, w, S, I, K))) ?_ ?_ pm_N 0 () (fun u hu => by omega) (by omega) (by rw [pm_NE]; omega)
  · intro again l _ hl hQ hnx
    have hw := hW.2.1 l hl
    have hE := Ur_e hW hr hl
    have hle : rd_sum (rd_lf wd (rd_s r)) (l + 1) ≤ a := by rw [← ha]; exact rd_sum_mono (by omega)
    have hU0 : Ur wd (rd_s r) (l + 1) 0 = Ur wd (rd_s r) l (wd l) := by rw [hE]; rfl
    unfold X0_speaks_L17
    simp only
    rw [lr_93_0 h, lg_67 h, hP.2.1, if_neg (nI_ge hl (by omega)), lc_93 h, rd_leftBits h hP (Or.inl rfl) hC hr hl, ly_cI]
    refine ly_loop (fun i (_ : Unit) => ((nI (Ur wd (rd_s r) l i), nI i, (c, w, S, I, K)) : Int32 × Int32 × pmM)) (wd l) (fun i _ => ∀ j, j < i → (rd_s r l).testBit j = false → se (Ur wd (rd_s r) l j) = q l j) (fun R => (OKs n wd q (rd_s r) se → R = pm_oI 1 (c, w, S, I, K)) ∧ (¬ OKs n wd q (rd_s r) se → R = pm_oI 0 (c, w, S, I, K))) ?_ ?_ pm_N 0 () (fun u hu => by omega) (by omega) (by rw [pm_NE]; omega)
    · intro again2 i _ hi hQ2 hn2
      have hUi : Ur wd (rd_s r) l i ≤ Ur wd (rd_s r) l (wd l) := Ur_m (by omega)
      unfold X0_speaks_L38
      simp only
      rw [lr_93_0 h, lr_67_0 h, ld_68 h (by omega), hP.2.2.1 l hl, if_neg (nI_ge hi (by omega)), lg_83 h, hs1]
      by_cases hu : a ≤ Ur wd (rd_s r) l i
      · rw [if_pos (nI_le hu (by omega))]
        unfold X0_speaks_j101
        rw [ly_bI, nI_1]
        have := hnx () (fun u hu2 j hj hb => by
          rcases Nat.lt_or_ge u l with e | e
          · exact hQ u e j hj hb
          · have : u = l := by omega
            subst this
            rcases Nat.lt_or_ge j i with e2 | e2
            · exact hQ2 j e2 hb
            · have h1 := Ur_1 (wd := wd) hb
              have h2 : Ur wd (rd_s r) u (j + 1) ≤ Ur wd (rd_s r) u (wd u) := Ur_m (by omega)
              have h3 : Ur wd (rd_s r) u i ≤ Ur wd (rd_s r) u j := Ur_m e2
              omega)
        rw [hU0, show Ur wd (rd_s r) l (wd l) = Ur wd (rd_s r) l i by omega] at this
        exact this
      · rw [if_neg (nI_ge (by omega) (by omega)), show ((nI (2 ^ wd l - 1 - rd_s r l) >>> (nI i &&& 31)) &&& 1) = nI (if (rd_s r l).testBit i then 0 else 1) from lb_bit (wd l) (by omega) _ (hr.1 l (by omega)).2 i hi]
        cases hb : (rd_s r l).testBit i
        · rw [if_pos (show nI (if false = true then 0 else 1) = 1 from rfl), lr_83_0 h, ld_84 h (by omega), (hs3 _ (by omega)).1, lr_93_0 h, lc_67 h, rd_wordAt h hP (by omega) (by omega), ly_cI, show rd_q n wd q l i = q l i from if_pos ⟨hl, hi⟩]
          by_cases hq : se (Ur wd (rd_s r) l i) = q l i
          · rw [hq, if_pos rfl, ly_bI, nI_1]
            unfold X0_speaks_j95
            rw [ly_bI, nI_1, ← Ur_1 hb]
            refine hn2 () (fun j hj hbj => ?_)
            rcases Nat.lt_or_ge j i with e | e
            · exact hQ2 j e hbj
            · have : j = i := by omega
              subst this; exact hq
          · have hq16 := hW.2.2.2 l i hl hi
            have hse := (hs3 (Ur wd (rd_s r) l i) (by omega)).2.2
            rw [if_neg (fun e => hq ((nI_eq (by omega) (by omega)).mp e))]
            exact ⟨fun hO => absurd (hO l hl i hi hb) hq, fun _ => rfl⟩
        · rw [if_neg (show ¬ nI (if true = true then 0 else 1) = 1 from by decide)]
          unfold X0_speaks_j95
          rw [ly_bI, nI_1, ← Ur_0 hb]
          refine hn2 () (fun j hj hbj => ?_)
          rcases Nat.lt_or_ge j i with e | e
          · exact hQ2 j e hbj
          · have : j = i := by omega
            subst this; rw [hb] at hbj; exact absurd hbj (by decide)
    · intro again2 _ hQ2
      unfold X0_speaks_L38
      simp only
      rw [lr_93_0 h, lr_67_0 h, ld_68 h (by omega), hP.2.2.1 l hl, if_pos (nI_le (Nat.le_refl _) (by omega))]
      unfold X0_speaks_j101
      rw [ly_bI, nI_1]
      have := hnx () (fun u hu2 j hj hb => by
          rcases Nat.lt_or_ge u l with e | e
          · exact hQ u e j hj hb
          · have : u = l := by omega
            subst this
            exact hQ2 j hj hb)
      rw [hU0] at this
      exact this
  · intro again _ hQ
    unfold X0_speaks_L17
    simp only
    rw [lr_93_0 h, lg_67 h, hP.2.1, if_pos (nI_le (Nat.le_refl _) (by omega))]
    exact ⟨fun _ => rfl, fun hn => absurd hQ hn⟩
def CF (X : Nat → Bool) : Nat → Nat
  | 0 => 0
  | p + 1 => CF X p + (if X p then 0 else 1)
theorem CF_s (p : Nat) : CF X (p + 1) = CF X p + (if X p then 0 else 1) := rfl
theorem CF_m {i : Nat} : ∀ {j : Nat}, i ≤ j → CF X i ≤ CF X j
  | 0, h => by have : i = 0 := by omega
               subst this; exact Nat.le_refl _
  | j + 1, h => by
    rcases Nat.lt_or_ge i (j + 1) with e | e
    · have := CF_m (i := i) (j := j) (by omega)
      have h2 := CF_s (X := X) j
      omega
    · have : i = j + 1 := by omega
      subst this; exact Nat.le_refl _
def OKF (X : Nat → Bool) (Y se : Nat → Nat) (N a : Nat) : Prop := (∀ p, p < N → X p = false → CF X p < a ∧ se (CF X p) = Y p) ∧ CF X N = a
theorem sy_M {N : Nat} (h : ly c S) (hN : N ≤ 48) (hX : ∀ p, p < N → D 559 p = nI (if X p then 1 else 0)) (hY : ∀ p, p < N → D 558 p = nI (Y p) ∧ Y p < 16) (hS : a ≤ 12 ∧ D 108 33 = nI a ∧ ∀ k, k < a → D 452 k = nI (se k) ∧ se k < 16) : (OKF X Y se N a → pm_lp pm_N (X9_says_L14 108 (nI N)) (0, 0, (c, w, S, D, K)) = pm_oI 1 (c, w, S, D, K)) ∧ (¬ OKF X Y se N a → pm_lp pm_N (X9_says_L14 108 (nI N)) (0, 0, (c, w, S, D, K)) = pm_oI 0 (c, w, S, D, K)) := by
  obtain ⟨ha, h33, h452⟩ := hS
  refine ly_loop (fun p (_ : Unit) => ((nI (CF X p), nI p, (c, w, S, D, K)) : Int32 × Int32 × pmM)) N (fun p _ => CF X p ≤ a ∧ ∀ u, u < p → X u = false → CF X u < a ∧ se (CF X u) = Y u) (fun R => (OKF X Y se N a → R = pm_oI 1 (c, w, S, D, K)) ∧ (¬ OKF X Y se N a → R = pm_oI 0 (c, w, S, D, K))) ?_ ?_ pm_N 0 () ⟨Nat.zero_le _, fun u hu => by omega⟩ (by omega) (by rw [pm_NE]; omega)
  · intro again p _ hp hQ hnx
    obtain ⟨q1, q2⟩ := hQ
    have hs := CF_s (X := X) p
    unfold X9_says_L14
    simp only
    rw [if_neg (nI_ge hp (by omega)), lr_108_41 h, ld_559 h (by omega), hX p hp]
    cases hb : X p
    · rw [hb] at hs
      rw [if_neg (show ¬ nI (if false = true then 1 else 0) = 1 from by decide), lg_108 h, h33]
      by_cases hu : CF X p = a
      · rw [hu, if_pos rfl]
        unfold X9_says_j55
        exact ⟨fun hO => by have := (hO.1 p hp hb).1; omega, fun _ => rfl⟩
      · rw [if_neg (fun e => hu ((nI_eq (by omega) (by omega)).mp e)), lr_108_25 h, ld_452 h (by omega), (h452 _ (by omega)).1, lr_108_40 h, ld_558 h (by omega), (hY p hp).1]
        have hse := (h452 (CF X p) (by omega)).2
        have hy16 := (hY p hp).2
        by_cases hq : se (CF X p) = Y p
        · rw [hq, if_pos rfl, ly_bI, nI_1]
          unfold X9_says_j60
          rw [ly_bI, nI_1]
          have e1 : CF X (p + 1) = CF X p + 1 := hs
          have := hnx () ⟨by omega, fun u hu2 hbu => by
            rcases Nat.lt_or_ge u p with e | e
            · exact q2 u e hbu
            · have : u = p := by omega
              subst this; exact ⟨by omega, hq⟩⟩
          rw [e1] at this
          exact this
        · rw [if_neg (fun e => hq ((nI_eq (by omega) (by omega)).mp e))]
          unfold X9_says_j55
          exact ⟨fun hO => absurd (hO.1 p hp hb).2 hq, fun _ => rfl⟩
    · rw [hb] at hs
      rw [if_pos (show nI (if true = true then 1 else 0) = 1 from rfl)]
      unfold X9_says_j60
      rw [ly_bI, nI_1]
      have e1 : CF X (p + 1) = CF X p := hs
      have := hnx () ⟨by omega, fun u hu2 hbu => by
        rcases Nat.lt_or_ge u p with e | e
        · exact q2 u e hbu
        · have : u = p := by omega
          subst this; rw [hb] at hbu; exact absurd hbu (by decide)⟩
      rw [e1] at this
      exact this
  · intro again _ hQ
    unfold X9_says_L14
    simp only
    rw [if_pos (nI_le (Nat.le_refl _) (by omega)), lg_108 h, h33]
    unfold X9_says_j79
    by_cases hu : CF X N = a
    · rw [hu, if_pos rfl]
      exact ⟨fun _ => rfl, fun hn => absurd ⟨hQ.2, hu⟩ hn⟩
    · have := hQ.1
      rw [if_neg (fun e => hu ((nI_eq (by omega) (by omega)).mp e))]
      exact ⟨fun hO => absurd hO.2 hu, fun _ => rfl⟩
theorem fl_ex : ∀ {n p : Nat}, p < rd_sum wd n → ∃ l i, l < n ∧ i < wd l ∧ p = rd_sum wd l + i
  | 0, p, h => absurd h (Nat.not_lt_zero _)
  | n + 1, p, h => by
    rcases Nat.lt_or_ge p (rd_sum wd n) with e | e
    · obtain ⟨l, i, h1, h2, h3⟩ := fl_ex e
      exact ⟨l, i, by omega, h2, h3⟩
    · have h2 : rd_sum wd (n + 1) = rd_sum wd n + wd n := rfl
      exact ⟨n, p - rd_sum wd n, by omega, by omega, by omega⟩
theorem CF_l (hW : pg_W n wd q) (hr : dk_W n wd r) (hX : ∀ l, l < n → ∀ i, i < wd l → X (rd_sum wd l + i) = (rd_s r l).testBit i) : ∀ l, l ≤ n → CF X (rd_sum wd l) = rd_sum (rd_lf wd (rd_s r)) l ∧ (l < n → ∀ i, i ≤ wd l → CF X (rd_sum wd l + i) = Ur wd (rd_s r) l i) := by
  have inn : ∀ l, l < n → CF X (rd_sum wd l) = rd_sum (rd_lf wd (rd_s r)) l → ∀ i, i ≤ wd l → CF X (rd_sum wd l + i) = Ur wd (rd_s r) l i := by
    intro l hl h0 i
    induction i with
    | zero => intro _; exact h0
    | succ i ih =>
      intro hi
      have h1 := ih (by omega)
      have h2 := CF_s (X := X) (rd_sum wd l + i)
      rw [h1, hX l hl i (by omega)] at h2
      rw [show rd_sum wd l + (i + 1) = rd_sum wd l + i + 1 by omega, h2]
      cases hb : (rd_s r l).testBit i
      · rw [Ur_1 hb]; rfl
      · rw [Ur_0 hb]; rfl
  intro l
  induction l with
  | zero => intro _; exact ⟨rfl, fun hl => inn 0 hl rfl⟩
  | succ l ih =>
    intro hl
    have h1 := (ih (by omega)).2 (by omega) (wd l) (Nat.le_refl _)
    rw [Ur_e hW hr (by omega)] at h1
    exact ⟨h1, fun hl2 => inn (l + 1) hl2 h1⟩
theorem OK_F (hW : pg_W n wd q) (hr : dk_W n wd r) (hX : ∀ l, l < n → ∀ i, i < wd l → X (rd_sum wd l + i) = (rd_s r l).testBit i) (hY : ∀ l, l < n → ∀ i, i < wd l → Y (rd_sum wd l + i) = q l i) : OKF X Y se (rd_sum wd n) a ↔ (OKs n wd q (rd_s r) se ∧ rd_la n wd (rd_s r) = a) := by
  have hF := CF_l hW hr hX
  constructor
  · rintro ⟨h1, h2⟩
    refine ⟨fun l hl i hi hb => ?_, by rw [(hF n (Nat.le_refl _)).1] at h2; exact h2⟩
    have h3 := (h1 (rd_sum wd l + i) (sum_at hl hi) (by rw [hX l hl i hi]; exact hb)).2
    rw [(hF l (by omega)).2 hl i (by omega), hY l hl i hi] at h3
    exact h3
  · rintro ⟨h1, h2⟩
    have h4 : CF X (rd_sum wd n) = a := by rw [(hF n (Nat.le_refl _)).1]; exact h2
    refine ⟨fun p hp hb => ?_, h4⟩
    obtain ⟨l, i, hl, hi, rfl⟩ := fl_ex hp
    have h5 := CF_s (X := X) (rd_sum wd l + i)
    have h6 : CF X (rd_sum wd l + i + 1) ≤ CF X (rd_sum wd n) := CF_m (by omega)
    rw [hb] at h5
    have h7 : CF X (rd_sum wd l + i + 1) = CF X (rd_sum wd l + i) + 1 := h5
    refine ⟨by omega, ?_⟩
    rw [(hF l (by omega)).2 hl i (by omega), hY l hl i hi]
    exact h1 l hl i hi (by rw [← hX l hl i hi]; exact hb)
theorem PZ_same (h : only PZ I J) : same I J := fun i j hn => h i j (by unfold sc at hn; unfold PZ; omega)
theorem ca_says (h : ly c S) (hJ : JJ I n wd q r a se W G) : ag isI (I 0) c w S (fun _ => 0) (X8_says 64 (c, w, S, I, K)) (X9_says 108) := by
  obtain ⟨hPC, hPM, hDC, hDM, hr, hT, hS, hH, hc, hk, hL⟩ := id hJ
  have hW := hPC.1
  have hn6 := hW.1
  have hsm := sum_48 hW (Nat.le_refl n)
  have mod : ∀ K2, ∃ D, only PZ (ly_u I 108 0 0) D ∧ ((OKs n wd q (rd_s r) se ∧ rd_la n wd (rd_s r) = a) → X9_says 108 (c, w, S, I, K2) = pm_oI 1 (c, w, S, D, K2)) ∧ (¬ (OKs n wd q (rd_s r) se ∧ rd_la n wd (rd_s r) = a) → X9_says 108 (c, w, S, I, K2) = pm_oI 0 (c, w, S, D, K2)) := fun K2 => by
    have hs := s0 (I := I)
    obtain ⟨-, hPM1, -, hDM1, -, -, hS1, -, -, -, -⟩ := JJ_same hJ hs
    obtain ⟨D, d1, d2, d3⟩ := lz_M (w := w) (K := K2) h hPM1 hDM1 hr
    obtain ⟨S1, S2, S3, S4⟩ := hS1
    have hX : ∀ l, l < n → ∀ i, i < wd l → decide (D 559 (rd_sum wd l + i) = nI 1) = (rd_s r l).testBit i := fun l hl i hi => by
      rw [(d3 l hl i hi).2.1]
      cases (rd_s r l).testBit i
      · exact decide_eq_false (by decide)
      · exact decide_eq_true (by decide)
    have hY : ∀ l, l < n → ∀ i, i < wd l → nz (D 558 (rd_sum wd l + i)) = q l i := fun l hl i hi => by
      have := hW.2.2.2 l i hl hi
      rw [(d3 l hl i hi).1]
      exact nI_clamp (by omega)
    have key := sy_M (w := w) (K := K2) (D := D) (X := fun p => decide (D 559 p = nI 1)) (Y := fun p => nz (D 558 p)) (se := se) (a := a) (N := rd_sum wd n) h (by omega) (fun p hp => by
      obtain ⟨l, i, hl, hi, rfl⟩ := fl_ex hp
      rw [hX l hl i hi]; exact (d3 l hl i hi).2.1) (fun p hp => by
      obtain ⟨l, i, hl, hi, rfl⟩ := fl_ex hp
      have := hW.2.2.2 l i hl hi
      rw [hY l hl i hi]; exact ⟨(d3 l hl i hi).1, this⟩) ⟨S1, by rw [d2 108 33 (by unfold PZ; omega)]; exact S3, fun k hk => ⟨by rw [d2 452 k (by unfold PZ; omega)]; exact (S4 k hk).2.1, (S4 k hk).2.2⟩⟩
    rw [OK_F (X := fun p => decide (D 559 p = nI 1)) (Y := fun p => nz (D 558 p)) hW hr hX hY] at key
    have e : X9_says 108 (c, w, S, I, K2) = pm_lp pm_N (X9_says_L14 108 (nI (rd_sum wd n))) (0, 0, (c, w, S, D, K2)) := by
      unfold X9_says
      rw [lp_108 h, lc_108 h, d1, ly_cI]
    refine ⟨D, d2, ?_, ?_⟩
    · intro hO; rw [e]; exact key.1 hO
    · intro hO; rw [e]; exact key.2 hO
  have e0 : ∀ D, only PZ (ly_u I 108 0 0) D → D 108 0 = nI 0 ∧ same I D := fun D hD => ⟨by rw [hD 108 0 (by unfold PZ; omega)]; exact z0', fun i j hn => ((PZ_same hD) i j hn).trans (s0 i j hn)⟩
  have cla : X8_says 64 (c, w, S, I, K) = (pm_cI (X0_speaks 93 83 (c, w, S, I, K)) fun x4 m3 => pm_oI (vp_nar .boolean x4) m3) := by
    unfold X8_says
    rw [lr_64_8 h, lr_64_5 h, lc_93 h]
  have cl2 : X0_speaks 93 83 (c, w, S, I, K) = (if nI (rd_la n wd (rd_s r)) = nI a then (pm_lp pm_N (X0_speaks_L17 93 83) (0, 0, (c, w, S, I, K))) else (pm_oI 0 (c, w, S, I, K))) := by
    unfold X0_speaks
    rw [lc_93 h, rd_leftInAll h hPC (Or.inl rfl) hDC hr, ly_cI, lg_83 h, hS.2.1]
  have hla : rd_la n wd (rd_s r) ≤ 48 := Nat.le_trans (rd_sum_bd (B := 8) (fun l hl => rd_lf8 hW l)) (by omega)
  have ha12 := hS.1
  by_cases hO : OKs n wd q (rd_s r) se ∧ rd_la n wd (rd_s r) = a
  · refine ag_ro (v := .int 1) (I1 := I) (K1 := K) h hJ ⟨_, rfl⟩ ?_ same_r (fun hJ1 K2 => ?_)
    · rw [cla, cl2, if_pos (by rw [hO.2]), (sp_C h hPC hDC hr hS hO.2).1 hO.1, ly_cI]
      rfl
    · obtain ⟨D, d1, d2, d3⟩ := mod K2
      exact ⟨D, K2, d2 hO, (e0 D d1).1, (e0 D d1).2, rfl⟩
  · refine ag_ro (v := .int 0) (I1 := I) (K1 := K) h hJ ⟨_, rfl⟩ ?_ same_r (fun hJ1 K2 => ?_)
    · rw [cla, cl2]
      by_cases ha : rd_la n wd (rd_s r) = a
      · rw [if_pos (by rw [ha]), (sp_C h hPC hDC hr hS ha).2 (fun e => hO ⟨e, ha⟩), ly_cI]
        rfl
      · rw [if_neg (fun e => ha ((nI_eq (by omega) (by omega)).mp e)), ly_cI]
        rfl
    · obtain ⟨D, d1, d2, d3⟩ := mod K2
      exact ⟨D, K2, d3 hO, (e0 D d1).1, (e0 D d1).2, rfl⟩
end SAY
