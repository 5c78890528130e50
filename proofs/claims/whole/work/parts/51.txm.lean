/-! texts: the class's words; the model's reading -/
section TXM
variable {c w : Nat} {S : Nat → pmS} {I I1 : Nat → Nat → Int32} {K : Nat → Nat → Int64} {T : Nat → Nat} {L p e : Nat} {s v x : Int32} {f : Nat → Bool}
/-- the letters from p to e -/
def tWn (T : Nat → Nat) (p n : Nat) : List Nat := (List.range n).map (fun i => T (p + i))
def tW (T : Nat → Nat) (L p : Nat) : List Nat := tWn T p (tE iLt T L p - p)
def stn : List (List Nat) := [[108, 105, 110, 101], [99, 101, 108, 108], [105, 110, 107], [108, 101, 97, 115, 116], [109, 111, 115, 116], [119, 111, 114, 100, 115], [115, 116, 114, 117, 99, 107], [102, 105, 114, 115, 116], [108, 105, 110, 101], [108, 101, 102, 116], [105, 110, 107], [99, 101, 108, 108], [115, 116, 114, 105, 107, 101], [114, 117, 110], [98, 101, 103, 105, 110], [102, 105, 108, 108], [119, 105, 112, 101], [115, 101, 116], [97, 103, 97, 105, 110]]
def sn (k : Nat) : List Nat := stn.getD k []
theorem lq_str : ∀ k, k < 19 → ly_ok (33 + k) 105 = true ∧ (ly_f (33 + k)).2 = (sn k).length ∧ (sn k).length ≤ 6 ∧ ∀ j, j < (sn k).length → 97 ≤ (sn k).getD j 0 ∧ (sn k).getD j 0 ≤ 122 := by decide +kernel
theorem jk_s : ∀ k, k < 19 → (st_bytes.getD k []).length = (sn k).length ∧ ∀ j, j < (sn k).length → (st_bytes.getD k []).getD j 0 = nI ((sn k).getD j 0) := by decide +kernel
theorem jk_n (h : jk I) {k j : Nat} (hk : k < 19) (hj : j < (sn k).length) : I (33 + k) j = nI ((sn k).getD j 0) := by
  have h1 := jk_s k hk
  rw [h.2.2 k j hk (by rw [h1.1]; exact hj), h1.2 j hj]
theorem tWn_len {n : Nat} : (tWn T p n).length = n := by simp [tWn]
theorem tWn_get {n i : Nat} (h : i < n) : (tWn T p n).getD i 0 = T (p + i) := by simp [tWn, h]
theorem tWn_eq {n : Nat} {l : List Nat} (hl : l.length = n) : tWn T p n = l ↔ ∀ i, i < n → T (p + i) = l.getD i 0 := by
  constructor
  · intro h i hi
    rw [← h, tWn_get hi]
  · intro h
    apply List.ext_getElem
    · rw [tWn_len, hl]
    · intro i h1 h2
      rw [tWn_len] at h1
      have := h i h1
      rw [List.getD_eq_getElem?_getD, List.getElem?_eq_getElem h2] at this
      simp only [Option.getD_some] at this
      rw [← this]
      simp [tWn]
theorem rs_ok {b : Nat} {r : pmR} (h : 3 ≤ b ∧ b < 22) : pm_rs b r = r := if_pos h
theorem st_len {k a : Nat} (h : ly c S) (hk : k < 19) (ha : a = 3 + k) : J0_length_8abf5 a (c, w, S, I, K) = pm_oI (nI (sn k).length) (c, w, S, I, K) := by
  have hq := lq_str k hk
  subst ha
  unfold J0_length_8abf5 J0_coder_7d493 J0_coder_7d493_j14
  rw [rs_ok (by omega), show 3 + k + 30 = 33 + k by omega, ly_lenG h hq.1, hq.2.1, rs_ok (by omega), if_neg (by decide), rs_ok (by omega), ly_cI]
  have h6 := hq.2.2.1
  generalize (sn k).length = m at *
  have : ∀ m, m ≤ 6 → (nI m >>> (vp_nar FieldType.byte 0 &&& 31)) = nI m := by decide +kernel
  rw [this m h6]
theorem st_charX : ∀ b, b < 128 → vp_nar .char (vp_nar .char ((((nI b) &&& 255).toUInt32 % 65536).toInt32)) = nI b := by decide +kernel
theorem st_char {k a j : Nat} (h : ly c S) (hJ : jk I) (hk : k < 19) (ha : a = 3 + k) (hj : j < (sn k).length) : J0_charAt_5068e a (nI j) (c, w, S, I, K) = pm_oI (nI ((sn k).getD j 0)) (c, w, S, I, K) := by
  have hq := lq_str k hk
  have hc := hq.2.2.2 j hj
  subst ha
  unfold J0_charAt_5068e J0_isLatin1_aae02 J0_isLatin1_aae02_j18
  rw [rs_ok (by omega), if_neg (by decide), rs_ok (by omega), if_pos (by first | decide | rfl), ly_cI, if_neg (by decide), rs_ok (by omega)]
  unfold J1_charAt_3b067 J0_checkIndex_df160 J3_checkIndex_8e157
  have h6 := hq.2.2.1
  rw [show 3 + k + 30 = 33 + k by omega, ly_lenG h hq.1, hq.2.1, if_neg (nI_pos (by omega)), if_pos (nI_lt hj (by omega)), ly_cI, ly_cV, ly_ldG _ h hq.1 hq.2.1 (by omega) hj, ly_cI, jk_n hJ hk hj, st_charX _ (by omega)]
theorem tx_took {k a : Nat} (h : ly c S) (hT : tB I T L) (hJ : jk I) (hk : k < 19) (ha : a = 3 + k) (hp : p ≤ L) : X7_took 65 a (c, w, S, tx I (tE iLt T L p) (nI p) v, K) = pm_oI (ly_b (decide (tW T L p = sn k))) (c, w, S, tx I (tE iLt T L p) (nI p) v, K) := by
  obtain ⟨h2, hL, h6⟩ := hT
  have he := tE_ge (f := iLt) (T := T) hp
  have heL := tE_lL (f := iLt) (T := T) hp
  have hq := lq_str k hk
  have hq6 := hq.2.2.1
  have hJ' : jk (tx I (tE iLt T L p) (nI p) v) := by
    refine ⟨fun j hj => ?_, fun j hj => ?_, fun a j ha hj => ?_⟩
    · rw [tx_n (by omega)]; exact hJ.1 j hj
    · rw [tx_n (by omega)]; exact hJ.2.1 j hj
    · rw [tx_n (by omega)]; exact hJ.2.2 a j ha hj
  unfold X7_took
  rw [lg_65 h, tx3, lg_65 h, tx4, rs_ok (by omega), st_len h hk ha, ly_cI, pk_sub he]
  by_cases hl : tE iLt T L p - p = (sn k).length
  · rw [if_pos (by rw [hl])]
    have key : (tW T L p = sn k) ↔ ∀ i, i < (sn k).length → T (p + i) = (sn k).getD i 0 := by
      unfold tW
      rw [hl]
      exact tWn_eq rfl
    refine ly_loop (fun i (_ : Unit) => ((nI i, (c, w, S, tx I (tE iLt T L p) (nI p) v, K)) : Int32 × pmM)) (sn k).length (fun i _ => ∀ j, j < i → T (p + j) = (sn k).getD j 0) (fun R => R = pm_oI (ly_b (decide (tW T L p = sn k))) (c, w, S, tx I (tE iLt T L p) (nI p) v, K)) ?_ ?_ pm_N 0 () (fun j hj => by omega) (by omega) (by rw [pm_NE]; omega)
    · intro again i _ hi hQ hn
      obtain ⟨h7, h8⟩ := h6 (p + i) (by omega)
      have hc := hq.2.2.2 i hi
      unfold X7_took_L20
      simp only
      rw [rs_ok (by omega), st_len h hk ha, ly_cI, if_neg (nI_ge hi (by omega)), lg_65 h, tx4, lg_65 h, tx2, h2, nI_add, if_neg (nI_ge (by omega) (by omega)), lr_65_0 h, lg_65 h, tx4, nI_add, ld_66 h (by omega), tx66, h7, rs_ok (by omega), st_char h hJ' hk ha hi, ly_cI]
      by_cases heq : T (p + i) = (sn k).getD i 0
      · rw [if_pos (by rw [heq])]
        show again (nI i + 1, _) = _
        rw [nI_1]
        exact hn () (fun j hj => by
          rcases Nat.lt_or_ge j i with h9 | h9
          · exact hQ j h9
          · have : j = i := by omega
            subst this; exact heq)
      · rw [if_neg (fun e9 => heq ((nI_eq (by omega) (by omega)).mp e9)), decide_eq_false (fun e9 => heq (key.mp e9 i hi))]
        rfl
    · intro again _ hQ
      unfold X7_took_L20 X7_took_j68
      simp only
      rw [rs_ok (by omega), st_len h hk ha, ly_cI, if_pos (nI_le (Nat.le_refl _) (by omega)), decide_eq_true (key.mpr hQ)]
      rfl
  · rw [if_neg (fun e9 => hl ((nI_eq (by omega) (by omega)).mp e9)), decide_eq_false (fun e9 => hl (by rw [← e9]; unfold tW; rw [tWn_len]))]
    rfl
/-- the model's memory with place, fault, its place -/
def mx (I : Nat → Nat → Int32) (p f : Nat) (x : Int32) : Nat → Nat → Int32 := fun i j => if i = 108 then (if j = 4 then nI p else if j = 5 then nI f else if j = 6 then x else I 108 j) else I i j
variable {g : Nat}
theorem mx2 : mx I p g x 108 2 = I 108 2 := rfl
theorem mx4 : mx I p g x 108 4 = nI p := rfl
theorem mx5 : mx I p g x 108 5 = nI g := rfl
theorem mx6 : mx I p g x 108 6 = x := rfl
theorem mx109 {k : Nat} : mx I p g x 109 k = I 109 k := rfl
theorem mx_n {i j : Nat} (h : i ≠ 108) : mx I p g x i j = I i j := by simp [mx, h]
theorem mx_nj {j : Nat} (h : j < 4 ∨ 6 < j) : mx I p g x 108 j = I 108 j := by
  simp only [mx, if_true]
  rw [if_neg (by omega), if_neg (by omega), if_neg (by omega)]
theorem mx_u4 {q : Nat} : ly_u (mx I p g x) 108 4 (nI q) = mx I q g x := by
  funext i j
  simp only [ly_u, mx]
  by_cases hi : i = 108 <;> by_cases hj : j = 4 <;> simp [hi, hj]
theorem mx_u4s {q : Nat} : ly_u (mx I p g x) 108 4 (nI q + 1) = mx I (q + 1) g x := by
  rw [← nI_succ]; exact mx_u4
theorem mx_u5 {q : Nat} : ly_u (mx I p g x) 108 5 (nI q) = mx I p q x := by
  funext i j
  simp only [ly_u, mx]
  by_cases hi : i = 108 <;> by_cases hj : j = 5 <;> simp [hi, hj]
theorem mx_u6 {y : Int32} : ly_u (mx I p g x) 108 6 y = mx I p g y := by
  funext i j
  simp only [ly_u, mx]
  by_cases hi : i = 108 <;> by_cases hj : j = 6 <;> simp [hi, hj]
theorem mx_unj {k : Nat} {y : Int32} (h : k < 4 ∨ 6 < k) : ly_u (mx I p g x) 108 k y = mx (ly_u I 108 k y) p g x := by
  funext i j
  simp only [ly_u, mx]
  by_cases hi : i = 108
  · by_cases hj : j = k
    · subst hj
      simp only [hi, and_self, if_true]
      rw [if_neg (by omega), if_neg (by omega), if_neg (by omega)]
    · simp [hi, hj]
  · simp [hi]
theorem mx_un {a k : Nat} {y : Int32} (h : a ≠ 108) : ly_u (mx I p g x) a k y = mx (ly_u I a k y) p g x := by
  funext i j
  simp only [ly_u, mx]
  by_cases hi : i = 108
  · subst hi
    simp [Ne.symm h]
  · simp [hi]
theorem mx_in (h : I 108 4 = nI p) (h5 : I 108 5 = nI g) : I = mx I p g (I 108 6) := by
  funext i j
  simp only [mx]
  by_cases hi : i = 108
  · subst hi
    by_cases h3 : j = 4
    · subst h3; simp [h]
    · by_cases h4 : j = 5
      · subst h4; simp [h5]
      · by_cases h5 : j = 6
        · subst h5; simp
        · simp [h3, h4, h5]
  · simp [hi]
/-- the text of the model -/
def mB (I : Nat → Nat → Int32) (T : Nat → Nat) (L : Nat) : Prop := I 108 2 = nI L ∧ L ≤ 600 ∧ ∀ k, k < 600 → I 109 k = nI (T k) ∧ T k < 256
theorem mx_byteAt {q : Nat} (h : ly c S) (hT : mB I T L) (hq : q < 2 ^ 31) : X9_byteAt 108 (nI q) (c, w, S, mx I p g x, K) = pm_oI (tb T L q) (c, w, S, mx I p g x, K) := by
  obtain ⟨h2, hL, h6⟩ := hT
  unfold X9_byteAt X9_byteAt_j18
  by_cases hl : q < L
  · obtain ⟨h7, h8⟩ := h6 q (by omega)
    rw [tb_lt hl, lg_108 h, mx2, h2, if_pos (nI_lt hl (by omega)), lr_108_9 h, ld_109 h (by omega), mx109, h7]
  · rw [tb_ge hl, lg_108 h, mx2, h2, if_neg (nI_nlt (by omega) (by omega))]
    rfl
theorem mx_blanks (h : ly c S) (hT : mB I T L) (hp : p ≤ L) : X9_blanks 108 (c, w, S, mx I p g x, K) = pm_oV (c, w, S, mx I (tS T L p) g x, K) := by
  unfold X9_blanks
  refine ly_wh (fun p => L - p) (fun p => ((c, w, S, mx I p g x, K) : pmM)) (fun p R => p ≤ L → R = pm_oV (c, w, S, mx I (tS T L p) g x, K)) ?_ pm_N p (by have := hT.2.1; rw [pm_NE]; omega) hp
  intro again p hA hp
  have hL := hT.2.1
  unfold X9_blanks_L0
  rw [lg_108 h, mx4, lc_108 h, mx_byteAt h hT (by omega), ly_cI]
  by_cases hl : p < L
  · obtain ⟨h7, h8⟩ := hT.2.2 p (by omega)
    rw [tb_lt hl, nl_32]
    by_cases hb : T p = 32
    · rw [show tS T L p = tS T L (p + 1) from tE_s hl (by simp [iBl, hb]), ← hA (p + 1) (by omega) (by omega), if_pos (by rw [hb]), lg_108 h, mx4, lp_108 h, mx_u4s]
    · rw [show tS T L p = p from tE_n (by simp [iBl, hb]), if_neg (fun e9 => hb ((nI_eq (by omega) (by omega)).mp e9))]
  · rw [show tS T L p = p from tE_n (by omega), tb_ge hl, nl_32, if_neg (fun e9 => by have := (ng_peq (by omega) (by omega)).mp e9; omega)]
theorem mx_wrong {k : Nat} {q : Int32} (h : ly c S) : X9_wrong 108 (nI k) q (c, w, S, mx I p 0 x, K) = pm_oV (c, w, S, mx I p k q, K) := by
  unfold X9_wrong X9_wrong_j17
  rw [lg_108 h, mx5, if_pos (by first | decide | rfl), lp_108 h, mx_u5, lp_108 h, mx_u6]
theorem mx_wrongF {k q : Int32} (h : ly c S) (hg : 0 < g ∧ g < 4) : X9_wrong 108 k q (c, w, S, mx I p g x, K) = pm_oV (c, w, S, mx I p g x, K) := by
  unfold X9_wrong X9_wrong_j17
  rw [lg_108 h, mx5, if_neg (nI_ne0 (by omega) (by omega))]
theorem mx_isDigit {q : Nat} {m : pmM} (hT : mB I T L) : X9_isDigit (tb T L q) m = pm_oI (ly_b (tI iDg T L q)) m := by
  unfold X9_isDigit X9_isDigit_j16 X9_isDigit_j17 tI iDg
  by_cases hl : q < L
  · obtain ⟨h7, h8⟩ := hT.2.2 q (by have := hT.2.1; omega)
    rw [tb_lt hl]
    by_cases h1 : 48 ≤ T q
    · by_cases h3 : T q ≤ 57
      · simp (disch := first | assumption | omega) only [ly_cI, ly_cIx, ly_cL, ly_cLx, ly_cV, ly_cVx, ly_bI, ly_bL, ly_n0n, ly_n1n, ly_nb, ly_bzn, ly_bon, nI_add, pk_mul, nI_leI, nI_ltI, nI_eq, if_pos, if_neg, ly_uE, ly_b1n, ly_b0n, if_true, if_false, eq_self, Bool.false_eq_true, Bool.true_eq_false, decide_true, decide_false, Nat.zero_add, nl_0, nl_1, nl_2, nl_3, nl_4, nl_5, nl_6, nl_7, nl_8, nl_9, nl_10, nl_11, nl_12, nl_13, nl_14, nl_15, nl_16, nl_17, nl_18, nl_19, nl_20, nl_21, nl_22, nl_23, nl_24, nl_25, nl_26, nl_27, nl_28, nl_29, nl_30, nl_31, nl_32, nl_40, nl_41, nl_42, nl_43, nl_44, nl_45, nl_47, nl_48, nl_57, nl_59, nl_60, nl_80, nl_91, nl_93, nl_96, nl_97, nl_99, nl_100, nl_122, nl_150, nl_160, nl_200, nl_208, nl_224, nl_238, nl_239, nl_255, nl_600, nl_999, nl_1000, nl_9999, nl_100000, nl_12345, nl_1103515245, nl_32767]
        simp [hl, h1, h3, ly_b]
        rfl
      · simp (disch := first | assumption | omega) only [ly_cI, ly_cIx, ly_cL, ly_cLx, ly_cV, ly_cVx, ly_bI, ly_bL, ly_n0n, ly_n1n, ly_nb, ly_bzn, ly_bon, nI_add, pk_mul, nI_leI, nI_ltI, nI_eq, if_pos, if_neg, ly_uE, ly_b1n, ly_b0n, if_true, if_false, eq_self, Bool.false_eq_true, Bool.true_eq_false, decide_true, decide_false, Nat.zero_add, nl_0, nl_1, nl_2, nl_3, nl_4, nl_5, nl_6, nl_7, nl_8, nl_9, nl_10, nl_11, nl_12, nl_13, nl_14, nl_15, nl_16, nl_17, nl_18, nl_19, nl_20, nl_21, nl_22, nl_23, nl_24, nl_25, nl_26, nl_27, nl_28, nl_29, nl_30, nl_31, nl_32, nl_40, nl_41, nl_42, nl_43, nl_44, nl_45, nl_47, nl_48, nl_57, nl_59, nl_60, nl_80, nl_91, nl_93, nl_96, nl_97, nl_99, nl_100, nl_122, nl_150, nl_160, nl_200, nl_208, nl_224, nl_238, nl_239, nl_255, nl_600, nl_999, nl_1000, nl_9999, nl_100000, nl_12345, nl_1103515245, nl_32767]
        simp [hl, h1, h3, ly_b]
        rfl
    · simp (disch := first | assumption | omega) only [ly_cI, ly_cIx, ly_cL, ly_cLx, ly_cV, ly_cVx, ly_bI, ly_bL, ly_n0n, ly_n1n, ly_nb, ly_bzn, ly_bon, nI_add, pk_mul, nI_leI, nI_ltI, nI_eq, if_pos, if_neg, ly_uE, ly_b1n, ly_b0n, if_true, if_false, eq_self, Bool.false_eq_true, Bool.true_eq_false, decide_true, decide_false, Nat.zero_add, nl_0, nl_1, nl_2, nl_3, nl_4, nl_5, nl_6, nl_7, nl_8, nl_9, nl_10, nl_11, nl_12, nl_13, nl_14, nl_15, nl_16, nl_17, nl_18, nl_19, nl_20, nl_21, nl_22, nl_23, nl_24, nl_25, nl_26, nl_27, nl_28, nl_29, nl_30, nl_31, nl_32, nl_40, nl_41, nl_42, nl_43, nl_44, nl_45, nl_47, nl_48, nl_57, nl_59, nl_60, nl_80, nl_91, nl_93, nl_96, nl_97, nl_99, nl_100, nl_122, nl_150, nl_160, nl_200, nl_208, nl_224, nl_238, nl_239, nl_255, nl_600, nl_999, nl_1000, nl_9999, nl_100000, nl_12345, nl_1103515245, nl_32767]
      simp [hl, h1, ly_b]
      rfl
  · rw [tb_ge hl]
    simp (disch := first | assumption | omega) only [ly_cI, ly_cIx, ly_cL, ly_cLx, ly_cV, ly_cVx, ly_bI, ly_bL, ly_n0n, ly_n1n, ly_nb, ly_bzn, ly_bon, nI_add, pk_mul, nI_leI, nI_ltI, nI_eq, if_pos, if_neg, ly_uE, ly_b1n, ly_b0n, if_true, if_false, eq_self, Bool.false_eq_true, Bool.true_eq_false, decide_true, decide_false, Nat.zero_add, nl_0, nl_1, nl_2, nl_3, nl_4, nl_5, nl_6, nl_7, nl_8, nl_9, nl_10, nl_11, nl_12, nl_13, nl_14, nl_15, nl_16, nl_17, nl_18, nl_19, nl_20, nl_21, nl_22, nl_23, nl_24, nl_25, nl_26, nl_27, nl_28, nl_29, nl_30, nl_31, nl_32, nl_40, nl_41, nl_42, nl_43, nl_44, nl_45, nl_47, nl_48, nl_57, nl_59, nl_60, nl_80, nl_91, nl_93, nl_96, nl_97, nl_99, nl_100, nl_122, nl_150, nl_160, nl_200, nl_208, nl_224, nl_238, nl_239, nl_255, nl_600, nl_999, nl_1000, nl_9999, nl_100000, nl_12345, nl_1103515245, nl_32767, ng_eq, ng_lt, ng_le, ng_ltp, ng_lep, ng_plt, ng_eqp, ng_peq, ng_ple]
    simp [hl, ly_b]
    rfl
theorem mx_isSmall {q : Nat} {m : pmM} (hT : mB I T L) : X9_isSmall (tb T L q) m = pm_oI (ly_b (tI iLt T L q)) m := by
  unfold X9_isSmall X9_isSmall_j16 X9_isSmall_j17 tI iLt
  by_cases hl : q < L
  · obtain ⟨h7, h8⟩ := hT.2.2 q (by have := hT.2.1; omega)
    rw [tb_lt hl]
    by_cases h1 : 97 ≤ T q
    · by_cases h3 : T q ≤ 122
      · simp (disch := first | assumption | omega) only [ly_cI, ly_cIx, ly_cL, ly_cLx, ly_cV, ly_cVx, ly_bI, ly_bL, ly_n0n, ly_n1n, ly_nb, ly_bzn, ly_bon, nI_add, pk_mul, nI_leI, nI_ltI, nI_eq, if_pos, if_neg, ly_uE, ly_b1n, ly_b0n, if_true, if_false, eq_self, Bool.false_eq_true, Bool.true_eq_false, decide_true, decide_false, Nat.zero_add, nl_0, nl_1, nl_2, nl_3, nl_4, nl_5, nl_6, nl_7, nl_8, nl_9, nl_10, nl_11, nl_12, nl_13, nl_14, nl_15, nl_16, nl_17, nl_18, nl_19, nl_20, nl_21, nl_22, nl_23, nl_24, nl_25, nl_26, nl_27, nl_28, nl_29, nl_30, nl_31, nl_32, nl_40, nl_41, nl_42, nl_43, nl_44, nl_45, nl_47, nl_48, nl_57, nl_59, nl_60, nl_80, nl_91, nl_93, nl_96, nl_97, nl_99, nl_100, nl_122, nl_150, nl_160, nl_200, nl_208, nl_224, nl_238, nl_239, nl_255, nl_600, nl_999, nl_1000, nl_9999, nl_100000, nl_12345, nl_1103515245, nl_32767]
        simp [hl, h1, h3, ly_b]
        rfl
      · simp (disch := first | assumption | omega) only [ly_cI, ly_cIx, ly_cL, ly_cLx, ly_cV, ly_cVx, ly_bI, ly_bL, ly_n0n, ly_n1n, ly_nb, ly_bzn, ly_bon, nI_add, pk_mul, nI_leI, nI_ltI, nI_eq, if_pos, if_neg, ly_uE, ly_b1n, ly_b0n, if_true, if_false, eq_self, Bool.false_eq_true, Bool.true_eq_false, decide_true, decide_false, Nat.zero_add, nl_0, nl_1, nl_2, nl_3, nl_4, nl_5, nl_6, nl_7, nl_8, nl_9, nl_10, nl_11, nl_12, nl_13, nl_14, nl_15, nl_16, nl_17, nl_18, nl_19, nl_20, nl_21, nl_22, nl_23, nl_24, nl_25, nl_26, nl_27, nl_28, nl_29, nl_30, nl_31, nl_32, nl_40, nl_41, nl_42, nl_43, nl_44, nl_45, nl_47, nl_48, nl_57, nl_59, nl_60, nl_80, nl_91, nl_93, nl_96, nl_97, nl_99, nl_100, nl_122, nl_150, nl_160, nl_200, nl_208, nl_224, nl_238, nl_239, nl_255, nl_600, nl_999, nl_1000, nl_9999, nl_100000, nl_12345, nl_1103515245, nl_32767]
        simp [hl, h1, h3, ly_b]
        rfl
    · simp (disch := first | assumption | omega) only [ly_cI, ly_cIx, ly_cL, ly_cLx, ly_cV, ly_cVx, ly_bI, ly_bL, ly_n0n, ly_n1n, ly_nb, ly_bzn, ly_bon, nI_add, pk_mul, nI_leI, nI_ltI, nI_eq, if_pos, if_neg, ly_uE, ly_b1n, ly_b0n, if_true, if_false, eq_self, Bool.false_eq_true, Bool.true_eq_false, decide_true, decide_false, Nat.zero_add, nl_0, nl_1, nl_2, nl_3, nl_4, nl_5, nl_6, nl_7, nl_8, nl_9, nl_10, nl_11, nl_12, nl_13, nl_14, nl_15, nl_16, nl_17, nl_18, nl_19, nl_20, nl_21, nl_22, nl_23, nl_24, nl_25, nl_26, nl_27, nl_28, nl_29, nl_30, nl_31, nl_32, nl_40, nl_41, nl_42, nl_43, nl_44, nl_45, nl_47, nl_48, nl_57, nl_59, nl_60, nl_80, nl_91, nl_93, nl_96, nl_97, nl_99, nl_100, nl_122, nl_150, nl_160, nl_200, nl_208, nl_224, nl_238, nl_239, nl_255, nl_600, nl_999, nl_1000, nl_9999, nl_100000, nl_12345, nl_1103515245, nl_32767]
      simp [hl, h1, ly_b]
      rfl
  · rw [tb_ge hl]
    simp (disch := first | assumption | omega) only [ly_cI, ly_cIx, ly_cL, ly_cLx, ly_cV, ly_cVx, ly_bI, ly_bL, ly_n0n, ly_n1n, ly_nb, ly_bzn, ly_bon, nI_add, pk_mul, nI_leI, nI_ltI, nI_eq, if_pos, if_neg, ly_uE, ly_b1n, ly_b0n, if_true, if_false, eq_self, Bool.false_eq_true, Bool.true_eq_false, decide_true, decide_false, Nat.zero_add, nl_0, nl_1, nl_2, nl_3, nl_4, nl_5, nl_6, nl_7, nl_8, nl_9, nl_10, nl_11, nl_12, nl_13, nl_14, nl_15, nl_16, nl_17, nl_18, nl_19, nl_20, nl_21, nl_22, nl_23, nl_24, nl_25, nl_26, nl_27, nl_28, nl_29, nl_30, nl_31, nl_32, nl_40, nl_41, nl_42, nl_43, nl_44, nl_45, nl_47, nl_48, nl_57, nl_59, nl_60, nl_80, nl_91, nl_93, nl_96, nl_97, nl_99, nl_100, nl_122, nl_150, nl_160, nl_200, nl_208, nl_224, nl_238, nl_239, nl_255, nl_600, nl_999, nl_1000, nl_9999, nl_100000, nl_12345, nl_1103515245, nl_32767, ng_eq, ng_lt, ng_le, ng_ltp, ng_lep, ng_plt, ng_eqp, ng_peq, ng_ple]
    simp [hl, ly_b]
    rfl
end TXM
