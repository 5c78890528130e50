/-! a page read by the one and by the other -/
section PAG
variable {c w : Nat} {S : Nat → pmS} {I I1 I2 J J1 I0 J0 : Nat → Nat → Int32} {K K2 : Nat → Nat → Int64} {T : Nat → Nat} {L p g n : Nat} {s v x : Int32}
def PC (i _j : Nat) : Prop := 71 ≤ i ∧ i ≤ 74
def PM (i j : Nat) : Prop := (i = 108 ∧ (j = 7 ∨ j = 11 ∨ j = 12)) ∨ i = 111 ∨ i = 112 ∨ (115 ≤ i ∧ i ≤ 120)
def nz (y : Int32) : Nat := y.toNatClampNeg
/-- what was read of the page so far -/
def PP (I J : Nat → Nat → Int32) (n : Nat) : Prop := n ≤ 6 ∧ (I 71 3 = nI n ∧ J 108 11 = nI n) ∧
  (∀ l, l < n → J 112 l = I 72 l ∧ ∃ k, 1 ≤ k ∧ k ≤ 8 ∧ I 72 l = nI k ∧ ∀ i, i < k → J (115 + l) i = I 73 (l * 8 + i) ∧ ∃ z, z < 16 ∧ I 73 (l * 8 + i) = nI z) ∧
  I 71 4 = nI (rd_sum (fun l => nz (I 72 l)) n) ∧ (J 108 12 = I 71 5 ∧ ∃ z, z ≤ 200 ∧ I 71 5 = nI z) ∧ ∀ k, k < 4 → J 111 k = I 74 k ∧ ∃ z, z ≤ 99 ∧ I 74 k = nI z
theorem PP_w {k : Nat} {y y2 : Int32} (hP : PP I J n) (hn : n < 6) (hk : k < 8) : PP (ly_u I 73 (n * 8 + k) y) (ly_u J (115 + n) k y2) n := by
  obtain ⟨h1, h2, h3, h4, h5, h6⟩ := hP
  refine ⟨h1, ?_, fun l hl => ?_, ?_, ?_, fun k2 hk2 => ?_⟩
  · rw [ly_uE, ly_uE, if_neg (by omega), if_neg (by omega)]; exact h2
  · obtain ⟨a1, k9, a2, a3, a4, a5⟩ := h3 l hl
    refine ⟨?_, k9, a2, a3, ?_, fun i hi => ?_⟩
    · rw [ly_uE, ly_uE, if_neg (by omega), if_neg (by omega)]; exact a1
    · rw [ly_uE, if_neg (by omega)]; exact a4
    · rw [ly_uE, ly_uE, if_neg (by omega), if_neg (by omega)]; exact a5 i hi
  · rw [ly_uE, if_neg (by omega), h4]
    exact congrArg nI (rd_sum_congr (fun l _ => congrArg nz (by rw [ly_uE, if_neg (by omega)])))
  · rw [ly_uE, ly_uE, if_neg (by omega), if_neg (by omega)]; exact h5
  · rw [ly_uE, ly_uE, if_neg (by omega), if_neg (by omega)]; exact h6 k2 hk2
theorem PP_l {k : Nat} (hP : PP I J n) (hn : n < 6) (hk : 1 ≤ k ∧ k ≤ 8) (hr : ∀ i, i < k → J (115 + n) i = I 73 (n * 8 + i) ∧ ∃ z, z < 16 ∧ I 73 (n * 8 + i) = nI z) : PP (ly_u (ly_u (ly_u I 72 n (nI k)) 71 3 (nI (n + 1))) 71 4 (I 71 4 + nI k)) (ly_u (ly_u J 112 n (nI k)) 108 11 (nI (n + 1))) (n + 1) := by
  obtain ⟨h1, h2, h3, h4, h5, h6⟩ := hP
  refine ⟨by omega, ?_, fun l hl => ?_, ?_, ?_, fun k2 hk2 => ?_⟩
  · simp [ly_uE]
  · rcases Nat.lt_or_ge l n with h9 | h9
    · obtain ⟨a1, k9, a2, a3, a4, a5⟩ := h3 l h9
      refine ⟨?_, k9, a2, a3, ?_, fun i hi => ?_⟩
      · simp (disch := omega) only [ly_uE, if_neg]; exact a1
      · simp (disch := omega) only [ly_uE, if_neg]; exact a4
      · simp (disch := omega) only [ly_uE, if_neg]; exact a5 i hi
    · have : l = n := by omega
      subst this
      refine ⟨?_, k, hk.1, hk.2, ?_, fun i hi => ?_⟩
      · simp (disch := omega) only [ly_uE, if_neg, if_pos, and_self, if_true]
      · simp (disch := omega) only [ly_uE, if_neg, if_pos, and_self, if_true]
      · simp (disch := omega) only [ly_uE, if_neg]; exact hr i hi
  · have e : rd_sum (fun l => nz (ly_u (ly_u (ly_u I 72 n (nI k)) 71 3 (nI (n + 1))) 71 4 (I 71 4 + nI k) 72 l)) (n + 1) = rd_sum (fun l => nz (I 72 l)) n + k := by
      simp only [rd_sum]
      congr 1
      · exact rd_sum_congr (fun l hl => by simp (disch := omega) only [ly_uE, if_neg])
      · simp (disch := omega) only [ly_uE, if_neg, if_pos, nz]
        exact nI_clamp (by omega)
    rw [e, ← nI_add (rd_sum (fun l => nz (I 72 l)) n) k, ← h4, ly_uE, if_pos ⟨rfl, rfl⟩]
  · simp (disch := omega) only [ly_uE, if_neg]; exact h5
  · simp (disch := omega) only [ly_uE, if_neg]; exact h6 k2 hk2
theorem le_lit {z b : Nat} (hz : z ≤ 100000) (hb : b < 2 ^ 31) (h : nI z ≤ nI b) : z ≤ b := (nI_leI (by omega) hb).mp h
theorem tb_dg {q : Nat} (hT : ∀ k, k < 600 → T k < 256) (hL : L ≤ 600) : decide ((48 : Int32) ≤ tb T L q ∧ tb T L q ≤ 57) = tI iDg T L q := by
  unfold tI iDg
  by_cases hl : q < L
  · have h8 := hT q (by omega)
    have e1 : ((48 : Int32) ≤ nI (T q)) ↔ 48 ≤ T q := nI_leI (a := 48) (by omega) (by omega)
    have e2 : (nI (T q) ≤ (57 : Int32)) ↔ T q ≤ 57 := nI_leI (b := 57) (by omega) (by omega)
    rw [tb_lt hl]
    apply decide_eq_decide.mpr
    rw [e1, e2]
    simp [hl]
  · rw [tb_ge hl]
    have : ¬ ((48 : Int32) ≤ -nI 1) := by decide
    simp [hl, this]
theorem PC_T (h : tB I T L) (ho : only PC I I1) : tB I1 T L := tB_o h ho (by unfold PC; omega) (fun k _ => by unfold PC; omega)
theorem PM_T (h : mB J T L) (ho : only PM J J1) : mB J1 T L := mB_o h ho (by unfold PM; omega) (fun k _ => by unfold PM; omega)
theorem ne0 {k : Nat} (h : 1 ≤ k ∧ k ≤ 3) : ¬ nI k = 0 := nI_ne0 (by omega) (by omega)
theorem pr_line (h : ly c S) (hT : tB I T L) (hM : mB J T L) (hp : p ≤ L) (hP : PP I J n) (hn : n < 6) : rO c w S K K2 PC PM I J x (fun I1 J1 p => p ≤ L ∧ PP I1 (ly_u J1 108 11 (nI (n + 1))) (n + 1) ∧ J1 108 11 = nI n ∧ J1 108 7 = J 108 7) (X2_readLine 71 65 (c, w, S, tx I p s v, K)) (X9_lineOfPage 108 (c, w, S, mx J p 0 x, K2)) := by
  have hL := hT.2.1
  unfold X2_readLine X9_lineOfPage
  refine ly_wh2 (fun (a : Nat × Nat × Int32 × Int32 × (Nat → Nat → Int32) × (Nat → Nat → Int32)) => 9 - a.1) (fun a => ((nI a.1, (c, w, S, tx a.2.2.2.2.1 a.2.1 a.2.2.1 a.2.2.2.1, K)) : Int32 × pmM)) (fun a => ((nI a.1, (c, w, S, mx a.2.2.2.2.2 a.2.1 0 x, K2)) : Int32 × pmM))
    (fun a RC RM => a.1 ≤ 8 → a.2.1 ≤ L → only PC I a.2.2.2.2.1 → only PM J a.2.2.2.2.2 → PP a.2.2.2.2.1 a.2.2.2.2.2 n → (∀ i, i < a.1 → a.2.2.2.2.2 (115 + n) i = a.2.2.2.2.1 73 (n * 8 + i) ∧ ∃ z, z < 16 ∧ a.2.2.2.2.1 73 (n * 8 + i) = nI z) → a.2.2.2.2.2 108 7 = J 108 7 →
      rO c w S K K2 PC PM I J x (fun I1 J1 p => p ≤ L ∧ PP I1 (ly_u J1 108 11 (nI (n + 1))) (n + 1) ∧ J1 108 11 = nI n ∧ J1 108 7 = J 108 7) RC RM) ?_ pm_N pm_N (0, p, s, v, I, J) (by rw [pm_NE]; simp only; omega) (by rw [pm_NE]; simp only; omega) (by simp only; omega) hp only_r only_r hP (fun i hi => by simp only at hi; omega) rfl
  intro aC aM a hx hA hk hp hI hJ hPP hr h7
  obtain ⟨k, p, s, v, I', J'⟩ := a
  simp only at hA hk hp hI hJ hPP hr h7 ⊢
  have hT' := PC_T hT hI
  have hM' := PM_T hM hJ
  unfold X2_readLine_L2 X9_lineOfPage_L2 X9_wordsOwn X9_wordsOwn_j36
  simp only
  rw [lc_65 h, lc_108 h, lc_108 h, mx_blanks h hM' hp, ly_cV, lg_108 h, mx4, lc_108 h, ly_cc]
  have hq : tS T L p ≤ L := tE_lL hp
  refine rO_num (B := 15) h hT' hM' hp hq (tE_i hp) (fun z hz hh => le_lit hz (by omega) hh) (fun z _ hz h1 h2 h3 => ?_) (fun k q pp s v hk => ?_)
  · rw [i10, lg_108 h, mx5, n00]
    rcases Nat.lt_or_ge k 8 with h8 | h8
    · obtain ⟨hn6, ⟨e3, e11⟩, -⟩ := id hPP
      have hPP2 := PP_w (k := k) (y := nI z) (y2 := nI z) hPP hn h8
      have ho1 : only PC I (ly_u I' 73 (n * 8 + k) (nI z)) := only_u hI (by unfold PC; omega)
      have ho2 : only PM J (ly_u J' (115 + n) k (nI z)) := only_u hJ (by unfold PM; omega)
      have hr2 : ∀ i, i < k + 1 → ly_u J' (115 + n) k (nI z) (115 + n) i = ly_u I' 73 (n * 8 + k) (nI z) 73 (n * 8 + i) ∧ ∃ y, y < 16 ∧ ly_u I' 73 (n * 8 + k) (nI z) 73 (n * 8 + i) = nI y := by
        intro i hi
        rcases Nat.lt_or_ge i k with h9 | h9
        · rw [ly_uE, ly_uE, if_neg (by omega), if_neg (by omega)]
          exact hr i h9
        · have : i = k := by omega
          subst this
          rw [ly_uE, ly_uE, if_pos ⟨rfl, rfl⟩, if_pos ⟨rfl, rfl⟩]
          exact ⟨rfl, z, by omega, rfl⟩
      have h72 : ly_u J' (115 + n) k (nI z) 108 7 = J 108 7 := by rw [ly_uE, if_neg (by omega)]; exact h7
      have hE : tE iDg T L (tS T L p) ≤ L := h2
      have hqE : tS T L (tE iDg T L (tS T L p)) ≤ L := tE_lL hE
      rw [if_neg (show ¬ nI k = 8 from fun e => by have := (nI_eq (b := 8) (by omega) (by omega)).mp e; omega), ly_cI, lg_108 h, mx5, n00, lr_108_17 h, lg_108 h, mx_nj (by omega), e11, lr_114 h hn, ls_115 h hn h8, mx_un (by omega), ly_bI, nI_1, lc_108 h, mx_blanks h (PM_T hM ho2) hE, ly_cV, lg_108 h, mx4, lc_108 h, mx_byteAt h (PM_T hM ho2) (by omega), ly_cI, rm_in, ly_cI]
      rw [if_pos (show nI k < 8 from nI_lt (b := 8) h8 (by omega)), lr_71_1 h, lg_71 h, tx_n (by omega), e3, lg_65 h, tx5, show nI n * (8 : Int32) + nI k = nI (n * 8 + k) from by rw [show (8 : Int32) = nI 8 from rfl, pk_mul, nI_add]]
      rw [ls_73 h (by omega), tx_un (by omega), ly_bI, if_neg (show ¬ (8 : Int32) < nI (k + 1) from nI_nlt (a := 8) (by omega) (by omega)), lc_65 h, tx_isAtDigit h (PC_T hT ho1) hE, ly_cI, tb_dg (fun k hk => (hM.2.2 k hk).2) hL]
      rcases tI_cases iDg T L (tS T L (tE iDg T L (tS T L p))) with hd | hd
      · rw [hd, ib1, ib1]
        exact hA (k + 1, _, _, _, _, _) (by simp only; omega) (by simp only; omega) hqE ho1 ho2 hPP2 hr2 h72
      · rw [hd, ib0, ib0]
        obtain ⟨-, ⟨g3, g11⟩, -⟩ := id hPP2
        have hPP3 := PP_l hPP2 hn (k := k + 1) (by omega) hr2
        unfold X2_readLine_j64
        rw [lr_108_15 h, lg_108 h, mx_nj (by omega), g11, ls_112 h hn, mx_un (by omega), lr_71_0 h, lg_71 h, tx_n (by omega), g3, ls_72 h hn, tx_un (by omega), lg_71 h, tx_n (by omega), ly_uE, if_neg (by omega), g3, lp_71 h, tx_un (by omega), nI_1, lg_71 h, tx_n (by omega), ly_uE, if_neg (by omega), ly_uE, if_neg (by omega), lp_71 h, tx_un (by omega)]
        refine rO_ok (only_u (only_u (only_u ho1 (by unfold PC; omega)) (by unfold PC; omega)) (by unfold PC; omega)) (only_u ho2 (by unfold PM; omega)) ⟨hqE, hPP3, ?_, ?_⟩
        · rw [ly_uE, if_neg (by omega)]; exact g11
        · rw [ly_uE, if_neg (by omega)]; exact h72
    · have : k = 8 := by omega
      subst this
      rw [if_pos (show nI 8 = 8 from rfl), lc_108 h, nl_3, mx_wrong h, ly_cV, ly_cI, lg_108 h, mx5, nk0 (by omega), if_neg (show ¬ nI 8 < 8 by decide), lg_65 h, tx4, lc_65 h, tx_fail h, ly_cI]
      exact rO_no ⟨by omega, by omega, by omega, by omega⟩ hI hJ
  · rw [i00, lg_108 h, mx5, nk0 ⟨hk.1, hk.2.1⟩, ly_cI, lg_108 h, mx5, nk0 ⟨hk.1, hk.2.1⟩]
    exact rO_no hk hI hJ
theorem six_line (m : pmM) : X9_six 12 9 14 5 0 0 m = pm_oI (sx (sn 0)) m := by
  unfold X9_six X9_six_j29 X9_six_j49 X9_six_j69
  rw [ly_bI, if_neg (by decide), if_pos (by first | decide | rfl), if_pos (by first | decide | rfl)]
  exact congrArg (fun y => pm_oI y m) (by decide)
theorem six_cell (m : pmM) : X9_six 3 5 12 12 0 0 m = pm_oI (sx (sn 1)) m := by
  unfold X9_six X9_six_j29 X9_six_j49 X9_six_j69
  rw [ly_bI, if_neg (by decide), if_pos (by first | decide | rfl), if_pos (by first | decide | rfl)]
  exact congrArg (fun y => pm_oI y m) (by decide)
theorem six_ink (m : pmM) : X9_six 9 14 11 0 0 0 m = pm_oI (sx (sn 2)) m := by
  unfold X9_six X9_six_j29 X9_six_j49 X9_six_j69
  rw [ly_bI, if_pos (by first | decide | rfl), if_pos (by first | decide | rfl), if_pos (by first | decide | rfl)]
  exact congrArg (fun y => pm_oI y m) (by decide)
theorem sn_ok : ∀ k, k < 19 → (sn k).length ≤ 6 ∧ (∀ y ∈ sn k, 97 ≤ y ∧ y ≤ 122) ∧ cr (sn k).reverse < 2 ^ 31 ∧ sn k ≠ [] := by decide +kernel
theorem sn_k {k : Nat} (hk : k < 19) : (sn k).length ≤ 6 ∧ lts (sn k) ∧ cr (sn k).reverse < 2 ^ 31 := ⟨(sn_ok k hk).1, (sn_ok k hk).2.1, (sn_ok k hk).2.2.1⟩
/-- where no letter stands there is no word -/
theorem tW_no {k : Nat} (hk : k < 19) (h : tI iLt T L p = false) : ¬ tW T L p = sn k := by
  have : tE iLt T L p = p := tE_n (fun e => by unfold tI at h; rw [decide_eq_true e] at h; cases h)
  unfold tW
  rw [this, Nat.sub_self]
  exact fun e => (sn_ok k hk).2.2.2 e.symm
theorem tW_p {k : Nat} (hk : k < 19) (h : tW T L p = sn k) : tI iLt T L p = true := by
  rcases tI_cases iLt T L p with h1 | h1
  · exact h1
  · exact absurd h (tW_no hk h1)
end PAG
