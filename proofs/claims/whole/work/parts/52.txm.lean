/-! texts: the model's numbers, words, signs -/
section TXN
variable {c w : Nat} {S : Nat → pmS} {I I1 : Nat → Nat → Int32} {K : Nat → Nat → Int64} {T : Nat → Nat} {L p e g : Nat} {s v x : Int32} {f : Nat → Bool}
theorem mx_numL {lo hi : Int32} {q : Nat} (h : ly c S) (hT : mB I T L) (hg : g < 4) : ∀ (p u : Nat), p ≤ L → u ≤ 100000 → pm_lp pm_N (X9_number_L44 108 lo hi (nI q)) (nI u, (c, w, S, mx I p g x, K)) = (if lo ≤ nI (tV T L (L - p) p u) ∧ nI (tV T L (L - p) p u) ≤ hi then X9_number_j122 108 (nI (tV T L (L - p) p u)) (c, w, S, mx I (tE iDg T L p) g x, K) else X9_number_j122 108 (nI (tV T L (L - p) p u)) (c, w, S, (if g = 0 then mx I (tE iDg T L p) 2 (nI q) else mx I (tE iDg T L p) g x), K)) := by
  intro p u hp hu
  have hL := hT.2.1
  refine ly_wh (fun (a : Nat × Nat) => L - a.1) (fun a => ((nI a.2, (c, w, S, mx I a.1 g x, K)) : Int32 × pmM)) (fun a R => a.1 ≤ L → a.2 ≤ 100000 → R = (if lo ≤ nI (tV T L (L - a.1) a.1 a.2) ∧ nI (tV T L (L - a.1) a.1 a.2) ≤ hi then X9_number_j122 108 (nI (tV T L (L - a.1) a.1 a.2)) (c, w, S, mx I (tE iDg T L a.1) g x, K) else X9_number_j122 108 (nI (tV T L (L - a.1) a.1 a.2)) (c, w, S, (if g = 0 then mx I (tE iDg T L a.1) 2 (nI q) else mx I (tE iDg T L a.1) g x), K))) ?_ pm_N (p, u) (by rw [pm_NE]; simp only; omega) hp hu
  intro again a hA hp hu
  obtain ⟨p, u⟩ := a
  simp only at hA hp hu ⊢
  unfold X9_number_L44 X9_number_j91
  simp only
  rw [lg_108 h, mx4, lc_108 h, mx_byteAt h hT (by omega), ly_cI, mx_isDigit hT, ly_cI]
  by_cases hd : tI iDg T L p = true
  · have hd' := of_decide_eq_true hd
    have hb' := of_decide_eq_true hd'.2
    obtain ⟨h7, h8⟩ := hT.2.2 p (by omega)
    have e1 : tE iDg T L p = tE iDg T L (p + 1) := tE_s hd'.1 hd'.2
    have e2 : tV T L (L - p) p u = tV T L (L - (p + 1)) (p + 1) (min 100000 (u * 10 + T p - 48)) := by
      rw [show L - p = (L - (p + 1)) + 1 by omega]
      simp only [tV]
      rw [if_pos hd']
    rw [hd, if_neg (by decide), lg_108 h, mx4, lc_108 h, mx_byteAt h hT (by omega), ly_cI, tb_lt hd'.1, e1, e2, ← hA (p + 1, min 100000 (u * 10 + T p - 48)) (by simp only; omega) (by simp only; omega) (Nat.min_le_left _ _), ly_bI]
    simp only [nl_10, nl_48, nl_100000, pk_mul, nI_add]
    rw [pk_sub (by omega), Nat.mul_comm 10 u]
    by_cases h9 : u * 10 + T p - 48 ≤ 100000
    · rw [if_pos (nI_le h9 (by omega)), lg_108 h, mx4, lp_108 h, mx_u4s, Nat.min_eq_right (by omega)]
    · rw [if_neg (nI_ge (by omega) (by omega)), lg_108 h, mx4, lp_108 h, mx_u4s, Nat.min_eq_left (by omega)]
  · have hd0 : tI iDg T L p = false := by simpa using hd
    have hn : ¬ (p < L ∧ iDg (T p) = true) := fun e9 => hd (decide_eq_true e9)
    have e1 : tE iDg T L p = p := tE_n hn
    have e2 : tV T L (L - p) p u = u := by
      cases hk : L - p with
      | zero => rfl
      | succ k => simp only [tV]; rw [if_neg hn]
    rw [hd0, if_pos (by first | decide | rfl), rm_in, ly_cI, e1, e2]
    by_cases hr : lo ≤ nI u ∧ nI u ≤ hi
    · rw [decide_eq_true hr, if_neg (by decide), if_pos hr]
    · rw [decide_eq_false hr, if_pos (by first | decide | rfl), if_neg hr, lc_108 h, nl_2]
      by_cases h0 : g = 0
      · subst h0
        rw [mx_wrong h, ly_cV, if_pos (by first | decide | rfl)]
      · rw [mx_wrongF h (by omega), ly_cV, if_neg h0]
theorem mx_num0 {lo hi : Int32} (h : ly c S) (hT : mB I T L) (hp : p ≤ L) (hd : tI iDg T L (tS T L p) = false) : X9_number 108 lo hi (c, w, S, mx I p 0 x, K) = pm_oI 0 (c, w, S, mx I (tS T L p) 1 (nI (tS T L p)), K) := by
  have hL := hT.2.1
  have hq : tS T L p ≤ L := tE_lL hp
  have hn : ¬ (tS T L p < L ∧ iDg (T (tS T L p)) = true) := fun e9 => by
    have := decide_eq_true e9
    unfold tI at hd
    rw [this] at hd
    cases hd
  have e1 : tE iDg T L (tS T L p) = tS T L p := tE_n hn
  unfold X9_number
  rw [lg_108 h, mx5, if_pos (by first | decide | rfl), lc_108 h, mx_blanks h hT hp, ly_cV, lg_108 h, mx4, lg_108 h, mx4, lc_108 h, mx_byteAt h hT (by omega), ly_cI, mx_isDigit hT, ly_cI, hd, if_pos (by first | decide | rfl), lg_108 h, mx4, lc_108 h, nl_1, mx_wrong h, ly_cV, nl_0, mx_numL h hT (by omega) _ _ hq (by omega), e1]
  unfold X9_number_j122 X9_number_j135
  split
  · rw [lg_108 h, mx5, if_neg (by decide)]
    rfl
  · rw [if_neg (by omega), lg_108 h, mx5, if_neg (by decide)]
    rfl
theorem mx_num1 {lo hi : Int32} (h : ly c S) (hT : mB I T L) (hp : p ≤ L) (hd : tI iDg T L (tS T L p) = true) (hr : lo ≤ nI (tN T L (tS T L p)) ∧ nI (tN T L (tS T L p)) ≤ hi) : X9_number 108 lo hi (c, w, S, mx I p 0 x, K) = pm_oI (nI (tN T L (tS T L p))) (c, w, S, mx I (tE iDg T L (tS T L p)) 0 x, K) := by
  have hL := hT.2.1
  have hq : tS T L p ≤ L := tE_lL hp
  unfold X9_number
  rw [lg_108 h, mx5, if_pos (by first | decide | rfl), lc_108 h, mx_blanks h hT hp, ly_cV, lg_108 h, mx4, lg_108 h, mx4, lc_108 h, mx_byteAt h hT (by omega), ly_cI, mx_isDigit hT, ly_cI, hd, if_neg (by decide), nl_0, mx_numL h hT (by omega) _ _ hq (by omega)]
  have hr' : lo ≤ nI (tV T L (L - tS T L p) (tS T L p) 0) ∧ nI (tV T L (L - tS T L p) (tS T L p) 0) ≤ hi := hr
  rw [if_pos hr']
  unfold X9_number_j122 X9_number_j135
  rw [lg_108 h, mx5, if_pos (by first | decide | rfl)]
  rfl
theorem mx_num2 {lo hi : Int32} (h : ly c S) (hT : mB I T L) (hp : p ≤ L) (hd : tI iDg T L (tS T L p) = true) (hr : ¬ (lo ≤ nI (tN T L (tS T L p)) ∧ nI (tN T L (tS T L p)) ≤ hi)) : X9_number 108 lo hi (c, w, S, mx I p 0 x, K) = pm_oI 0 (c, w, S, mx I (tE iDg T L (tS T L p)) 2 (nI (tS T L p)), K) := by
  have hL := hT.2.1
  have hq : tS T L p ≤ L := tE_lL hp
  unfold X9_number
  rw [lg_108 h, mx5, if_pos (by first | decide | rfl), lc_108 h, mx_blanks h hT hp, ly_cV, lg_108 h, mx4, lg_108 h, mx4, lc_108 h, mx_byteAt h hT (by omega), ly_cI, mx_isDigit hT, ly_cI, hd, if_neg (by decide), nl_0, mx_numL h hT (by omega) _ _ hq (by omega)]
  have hr' : ¬ (lo ≤ nI (tV T L (L - tS T L p) (tS T L p) 0) ∧ nI (tV T L (L - tS T L p) (tS T L p) 0) ≤ hi) := hr
  rw [if_neg hr', if_pos (by first | decide | rfl)]
  unfold X9_number_j122 X9_number_j135
  rw [lg_108 h, mx5, if_neg (by decide)]
  rfl
theorem mx_numF {lo hi : Int32} (h : ly c S) (hg : 0 < g ∧ g < 4) : X9_number 108 lo hi (c, w, S, mx I p g x, K) = pm_oI 0 (c, w, S, mx I p g x, K) := by
  unfold X9_number
  rw [lg_108 h, mx5, if_neg (nI_ne0 (by omega) (by omega))]
/-- a word's number, by 27s: of its letters from the last -/
def cr : List Nat → Nat
  | [] => 0
  | y :: t => 27 * cr t + (y - 96)
def lts (l : List Nat) : Prop := ∀ y ∈ l, 97 ≤ y ∧ y ≤ 122
theorem cr_inj : ∀ {a b : List Nat}, lts a → lts b → cr a = cr b → a = b
  | [], [], _, _, _ => rfl
  | [], y :: t, _, hb, h => by
    have := hb y (List.mem_cons_self ..)
    simp only [cr] at h
    omega
  | y :: t, [], ha, _, h => by
    have := ha y (List.mem_cons_self ..)
    simp only [cr] at h
    omega
  | y :: t, z :: u, ha, hb, h => by
    have h1 := ha y (List.mem_cons_self ..)
    have h2 := hb z (List.mem_cons_self ..)
    simp only [cr] at h
    have h3 : cr t = cr u := by omega
    have h4 : y = z := by omega
    rw [cr_inj (fun k hk => ha k (List.mem_cons_of_mem _ hk)) (fun k hk => hb k (List.mem_cons_of_mem _ hk)) h3, h4]
def cN (T : Nat → Nat) (p n : Nat) : Nat := cr (tWn T p n).reverse
theorem cN_s {n : Nat} : cN T p (n + 1) = 27 * cN T p n + (T (p + n) - 96) := by
  unfold cN tWn
  rw [List.range_succ, List.map_append, List.reverse_append]
  rfl
theorem cN_b : ∀ {n : Nat}, n ≤ 6 → (∀ i, i < n → 97 ≤ T (p + i) ∧ T (p + i) ≤ 122) → cN T p n < 27 ^ n
  | 0, _, _ => by simp [cN, tWn, cr]
  | n + 1, h6, h => by
    have h1 := cN_b (n := n) (by omega) (fun i hi => h i (by omega))
    have h2 := h n (by omega)
    rw [cN_s, Nat.pow_succ]
    omega
theorem mx_wordHere (h : ly c S) (hT : mB I T L) (hp : p ≤ L) : X9_wordHere 108 (c, w, S, mx I p g x, K) = pm_oI (if tE iLt T L (tS T L p) - tS T L p ≤ 6 then nI (cN T (tS T L p) (tE iLt T L (tS T L p) - tS T L p)) else -1) (c, w, S, mx I (tS T L p) g x, K) := by
  have hL := hT.2.1
  unfold X9_wordHere
  rw [lc_108 h, mx_blanks h hT hp, ly_cV]
  have hq : tS T L p ≤ L := tE_lL hp
  generalize tS T L p = q at *
  have he := tE_ge (f := iLt) (T := T) hq
  have heL := tE_lL (f := iLt) (T := T) hq
  have hst := tE_st (f := iLt) (T := T) hq
  have hin : ∀ i, i < tE iLt T L q - q → q + i < L ∧ iLt (T (q + i)) = true := fun i hi => tE_in (p := q) _ rfl (by omega) (by omega)
  generalize tE iLt T L q = E at *
  refine ly_loop (fun i (u : Nat) => ((nI u, nI i, (c, w, S, mx I q g x, K)) : Int32 × Int32 × pmM)) (E - q) (fun i u => u = cN T q (min i 6)) (fun R => R = pm_oI (if E - q ≤ 6 then nI (cN T q (E - q)) else -1) (c, w, S, mx I q g x, K)) ?_ ?_ pm_N 0 0 rfl (by omega) (by rw [pm_NE]; omega)
  · intro again i u hi hQ hn
    obtain ⟨h7, h8⟩ := hin i hi
    have h8' := of_decide_eq_true h8
    unfold X9_wordHere_L8 X9_wordHere_j54
    simp only
    rw [lg_108 h, mx4, lc_108 h, nI_add, mx_byteAt h hT (by omega), ly_cI, mx_isSmall hT, ly_cI, show tI iLt T L (q + i) = true from decide_eq_true ⟨h7, h8⟩, if_neg (by decide)]
    by_cases h6 : i < 6
    · have e6 : min i 6 = i := by omega
      rw [e6] at hQ
      have hb := cN_b (T := T) (p := q) (n := i) (by omega) (fun j hj => of_decide_eq_true (hin j (by omega)).2)
      have hb2 : 27 ^ i ≤ 27 ^ 5 := Nat.pow_le_pow_right (by omega) (by omega)
      have := hn (27 * u + T (q + i) - 97 + 1) (by
        show _ = cN T q (min (i + 1) 6)
        rw [show min (i + 1) 6 = i + 1 by omega, cN_s, ← hQ]; omega)
      rw [nl_6, if_neg (nI_ge (by omega) (by omega)), lg_108 h, mx4, lc_108 h, nI_add, mx_byteAt h hT (by omega), ly_cI, tb_lt h7, ly_bI]
      simp only [nl_27, nl_97, nl_1, pk_mul, nI_add]
      rw [pk_sub (by omega), nI_add]
      exact this
    · have := hn u (by
        show _ = cN T q (min (i + 1) 6)
        rw [hQ, show min i 6 = min (i + 1) 6 by omega])
      rw [nl_6, if_pos (nI_le (by omega) (by omega)), ly_bI, nI_1]
      exact this
  · intro again u hQ
    unfold X9_wordHere_L8 X9_wordHere_j72
    simp only
    rw [lg_108 h, mx4, lc_108 h, nI_add, mx_byteAt h hT (by omega), ly_cI, mx_isSmall hT, ly_cI, show tI iLt T L (q + (E - q)) = false from by rw [show q + (E - q) = E by omega]; exact decide_eq_false hst, if_pos (by first | decide | rfl), nl_6]
    by_cases h6 : E - q ≤ 6
    · rw [if_pos (nI_le h6 (by omega)), if_pos h6, hQ, show min (E - q) 6 = E - q by omega]
    · rw [if_neg (nI_ge (by omega) (by omega)), if_neg h6]
/-- a word's number as the model is asked for it -/
def sx (l : List Nat) : Int32 := nI (cr l.reverse)
theorem mx_isWord {a1 a2 a3 a4 a5 a6 : Int32} {l : List Nat} (h : ly c S) (hT : mB I T L) (hp : p ≤ L) (h6 : ∀ m, X9_six a1 a2 a3 a4 a5 a6 m = pm_oI (sx l) m) (hl : l.length ≤ 6 ∧ lts l ∧ cr l.reverse < 2 ^ 31) : X9_isWord 108 a1 a2 a3 a4 a5 a6 (c, w, S, mx I p 0 x, K) = pm_oI (ly_b (decide (tW T L (tS T L p) = l))) (c, w, S, mx I (tS T L p) 0 x, K) := by
  have hL := hT.2.1
  have hq : tS T L p ≤ L := tE_lL hp
  unfold X9_isWord X9_isWord_j30 X9_isWord_j31
  rw [lg_108 h, mx5, if_pos (by first | decide | rfl), lc_108 h, mx_wordHere h hT hp, ly_cI, h6, ly_cI]
  generalize tS T L p = q at *
  have hin : ∀ i, i < tE iLt T L q - q → q + i < L ∧ iLt (T (q + i)) = true := fun i hi => tE_in (p := q) _ rfl (by omega) (by omega)
  unfold tW
  generalize tE iLt T L q - q = n at *
  by_cases hn : n ≤ 6
  · rw [if_pos hn]
    have hb := cN_b (T := T) (p := q) (n := n) hn (fun j hj => of_decide_eq_true (hin j (by omega)).2)
    have hb2 : 27 ^ n ≤ 27 ^ 6 := Nat.pow_le_pow_right (by omega) (by omega)
    have hlt : lts (tWn T q n) := by
      intro y hy
      simp only [tWn, List.mem_map, List.mem_range] at hy
      obtain ⟨i, hi, rfl⟩ := hy
      exact of_decide_eq_true (hin i hi).2
    by_cases he : tWn T q n = l
    · rw [if_pos (by unfold sx cN; rw [he]), decide_eq_true he]
      rfl
    · rw [if_neg, decide_eq_false he]
      · rfl
      · intro e9
        have := (nI_eq (by omega) hl.2.2).mp e9
        refine he (List.reverse_inj.mp (cr_inj ?_ ?_ this))
        · exact fun y hy => hlt y (List.mem_reverse.mp hy)
        · exact fun y hy => hl.2.1 y (List.mem_reverse.mp hy)
  · rw [if_neg hn, if_neg, decide_eq_false (fun e9 => hn (by rw [← tWn_len (T := T) (p := q) (n := n), e9]; exact hl.1))]
    · rfl
    · intro e9
      have := (ng_peq (a := 1) (by omega) hl.2.2).mp e9
      omega
theorem mx_isWordF {a1 a2 a3 a4 a5 a6 : Int32} (h : ly c S) (hg : 0 < g ∧ g < 4) : X9_isWord 108 a1 a2 a3 a4 a5 a6 (c, w, S, mx I p g x, K) = pm_oI 0 (c, w, S, mx I p g x, K) := by
  unfold X9_isWord X9_isWord_j30 X9_isWord_j31
  rw [lg_108 h, mx5, if_neg (nI_ne0 (by omega) (by omega))]
  rfl
theorem mx_skipWord (h : ly c S) (hT : mB I T L) (hp : p ≤ L) : X9_skipWord 108 (c, w, S, mx I p g x, K) = pm_oV (c, w, S, mx I (tE iLt T L p) g x, K) := by
  have hL := hT.2.1
  unfold X9_skipWord
  refine ly_wh (fun p => L - p) (fun p => ((c, w, S, mx I p g x, K) : pmM)) (fun p R => p ≤ L → R = pm_oV (c, w, S, mx I (tE iLt T L p) g x, K)) ?_ pm_N p (by rw [pm_NE]; omega) hp
  intro again p hA hp
  unfold X9_skipWord_L0
  rw [lg_108 h, mx4, lc_108 h, mx_byteAt h hT (by omega), ly_cI, mx_isSmall hT, ly_cI]
  by_cases hd : tI iLt T L p = true
  · have hd' := of_decide_eq_true hd
    rw [hd, if_neg (by decide), lg_108 h, mx4, lp_108 h, mx_u4s, tE_s hd'.1 hd'.2]
    exact hA (p + 1) (by omega) (by omega)
  · have hd0 : tI iLt T L p = false := by simpa using hd
    rw [hd0, if_pos (by first | decide | rfl), tE_n (fun e9 => hd (decide_eq_true e9))]
theorem mx_sign_ok {k : Nat} (h : ly c S) (hT : mB I T L) (hp : p ≤ L) (hk : tb T L (tS T L p) = nI k) : X9_sign 108 (nI k) (c, w, S, mx I p 0 x, K) = pm_oV (c, w, S, mx I (tS T L p + 1) 0 x, K) := by
  have hL := hT.2.1
  have hq : tS T L p ≤ L := tE_lL hp
  unfold X9_sign X9_sign_j46
  rw [lg_108 h, mx5, if_pos (by first | decide | rfl), lc_108 h, mx_blanks h hT hp, ly_cV, lg_108 h, mx4, lc_108 h, mx_byteAt h hT (by omega), ly_cI, if_pos hk, lg_108 h, mx4, lp_108 h, mx_u4s]
theorem mx_sign_no {k : Nat} (h : ly c S) (hT : mB I T L) (hp : p ≤ L) (hk : ¬ tb T L (tS T L p) = nI k) : X9_sign 108 (nI k) (c, w, S, mx I p 0 x, K) = pm_oV (c, w, S, mx I (tS T L p) 1 (nI (tS T L p)), K) := by
  have hL := hT.2.1
  have hq : tS T L p ≤ L := tE_lL hp
  unfold X9_sign X9_sign_j46
  rw [lg_108 h, mx5, if_pos (by first | decide | rfl), lc_108 h, mx_blanks h hT hp, ly_cV, lg_108 h, mx4, lc_108 h, mx_byteAt h hT (by omega), ly_cI, if_neg hk, lg_108 h, mx4, lc_108 h, nl_1, mx_wrong h, ly_cV]
theorem mx_signF {k : Int32} (h : ly c S) (hg : 0 < g ∧ g < 4) : X9_sign 108 k (c, w, S, mx I p g x, K) = pm_oV (c, w, S, mx I p g x, K) := by
  unfold X9_sign
  rw [lg_108 h, mx5, if_neg (nI_ne0 (by omega) (by omega))]
theorem mx_takesSign_ok {k : Nat} (h : ly c S) (hT : mB I T L) (hp : p ≤ L) (hk : tb T L (tS T L p) = nI k) : X9_takesSign 108 (nI k) (c, w, S, mx I p 0 x, K) = pm_oI 1 (c, w, S, mx I (tS T L p + 1) 0 x, K) := by
  have hL := hT.2.1
  have hq : tS T L p ≤ L := tE_lL hp
  unfold X9_takesSign X9_takesSign_j30 X9_takesSign_j45
  rw [lg_108 h, mx5, if_pos (by first | decide | rfl), lc_108 h, mx_blanks h hT hp, ly_cV, lg_108 h, mx4, lc_108 h, mx_byteAt h hT (by omega), ly_cI, if_pos hk, if_neg (by decide), lg_108 h, mx4, lp_108 h, mx_u4s]
  rfl
theorem mx_takesSign_no {k : Nat} (h : ly c S) (hT : mB I T L) (hp : p ≤ L) (hk : ¬ tb T L (tS T L p) = nI k) : X9_takesSign 108 (nI k) (c, w, S, mx I p 0 x, K) = pm_oI 0 (c, w, S, mx I (tS T L p) 0 x, K) := by
  have hL := hT.2.1
  have hq : tS T L p ≤ L := tE_lL hp
  unfold X9_takesSign X9_takesSign_j30 X9_takesSign_j45
  rw [lg_108 h, mx5, if_pos (by first | decide | rfl), lc_108 h, mx_blanks h hT hp, ly_cV, lg_108 h, mx4, lc_108 h, mx_byteAt h hT (by omega), ly_cI, if_neg hk, if_pos (by first | decide | rfl)]
  rfl
end TXN
