/-! a page read by the one and by the other: all of it -/
section PAJ
variable {c w : Nat} {S : Nat → pmS} {I I1 I2 J J1 I0 J0 A B : Nat → Nat → Int32} {K K2 : Nat → Nat → Int64} {T : Nat → Nat} {L p g n : Nat} {s v x : Int32}
theorem mx_blA (h : ly c S) (hT : mB J T L) (hp : p ≤ 600) : ∃ p2, p2 ≤ 600 ∧ X9_blanks 108 (c, w, S, mx J p g x, K2) = pm_oV (c, w, S, mx J p2 g x, K2) := by
  have hL := hT.2.1
  rcases Nat.lt_or_ge L p with h1 | h1
  · refine ⟨p, hp, ?_⟩
    unfold X9_blanks
    show pm_lp (99999 + 1) _ _ = _
    rw [ly_S]
    unfold X9_blanks_L0
    rw [lg_108 h, mx4, lc_108 h, mx_byteAt h hT (by omega), ly_cI, tb_ge (by omega), if_neg (show ¬ (-nI 1 : Int32) = 32 by decide)]
  · exact ⟨tS T L p, Nat.le_trans (tE_lL h1) hL, mx_blanks h hT h1⟩
theorem PC_jk (h : jk I) (ho : only PC I I1) : jk I1 := jk_o h ho (fun i j hi => by unfold PC; omega)
theorem pr_loop {k : Nat} (h : ly c S) (hT : tB I T L) (hM : mB J T L) (hJ : jk I) (hp : p ≤ L) (hP : PP I J n) (hk : k ≤ 60) (h7 : J 108 7 = nI k) : ∃ RM, rO c w S K K2 PC PM I J x (fun I1 J1 _ => ∃ n, PP I1 J1 n) (pm_lp pm_N (X2_readFrom_L38 71 65) (nI k, (c, w, S, tx I p s v, K))) RM ∧ pm_lp pm_N (X9_page_L42 108) (c, w, S, mx J (tS T L p) 0 x, K2) = pm_cV RM (X9_page_j71 108) := by
  have hL := hT.2.1
  refine ly_wh2 (fun (a : Nat × Nat × Int32 × Int32 × (Nat → Nat → Int32) × (Nat → Nat → Int32)) => 61 - a.1) (fun a => ((nI a.1, (c, w, S, tx a.2.2.2.2.1 a.2.1 a.2.2.1 a.2.2.2.1, K)) : Int32 × pmM)) (fun a => ((c, w, S, mx a.2.2.2.2.2 (tS T L a.2.1) 0 x, K2) : pmM))
    (fun a RC R => a.1 ≤ 60 → a.2.1 ≤ L → only PC I a.2.2.2.2.1 → only PM J a.2.2.2.2.2 → (∃ n, PP a.2.2.2.2.1 a.2.2.2.2.2 n) → a.2.2.2.2.2 108 7 = nI a.1 → ∃ RM, rO c w S K K2 PC PM I J x (fun I1 J1 _ => ∃ n, PP I1 J1 n) RC RM ∧ R = pm_cV RM (X9_page_j71 108)) ?_ pm_N pm_N (k, p, s, v, I, J) (by rw [pm_NE]; simp only; omega) (by rw [pm_NE]; simp only; omega) hk hp only_r only_r ⟨n, hP⟩ h7
  intro aC aM a hx hA hk hp hI hJ2 hPP h7
  obtain ⟨k, p, s, v, I', J'⟩ := a
  simp only at hA hk hp hI hJ2 hPP h7 ⊢
  obtain ⟨n', hPP⟩ := hPP
  have hT' := PC_T hT hI
  have hM' := PM_T hM hJ2
  have hq : tS T L p ≤ L := tE_lL hp
  unfold X2_readFrom_L38 X9_page_L42
  simp only
  rw [if_neg (show ¬ (60 : Int32) < nI k from nI_nlt (a := 60) hk (by omega)), lc_65 h, tx_peek h hT' hp, ly_cI, lg_108 h, mx5, n00, lg_108 h, mx4, lg_108 h, mx2, hM'.1]
  by_cases he : tS T L p = L
  · rw [if_pos ((tb_end (fun k hk => (hM.2.2 k hk).2) hL hq).mpr he), if_pos (nI_le (by omega) (by omega))]
    exact ⟨_, rO_ok hI hJ2 ⟨n', hPP⟩, rfl⟩
  · rw [if_neg (fun e => he ((tb_end (fun k hk => (hM.2.2 k hk).2) hL hq).mp e)), if_neg (nI_ge (by omega) (by omega)), lc_71 h, lc_108 h]
    rcases pr_clause (w := w) (K := K) (K2 := K2) (s := s) (v := v) (x := x) h hT' hM' (PC_jk hJ hI) hq (tS_i hp) hPP hk h7 with ⟨I1, J1, p1, s1, v1, r1, r2, o1, o2, g1, ⟨n1, g2⟩, g3, g4⟩ | ⟨I1, J1, p1, p2, s1, v1, k1, q1, r1, r2, hk1, o1, o2⟩
    · have oI := only_t hI o1
      have oJ := only_t hJ2 o2
      rw [r1, r2, ly_cI, i10, ly_bI, nI_1, ly_cV, lc_108 h, mx_blanks h (PM_T hM oJ) g1, ly_cV]
      exact hA (k + 1, p1, s1, v1, I1, J1) (by simp only; omega) (by simp only; omega) g1 oI oJ ⟨n1, g2⟩ g3
    · have oI := only_t hI o1
      have oJ := only_t hJ2 o2
      obtain ⟨p3, hp3, hb⟩ := mx_blA (w := w) (K2 := K2) (g := k1) (x := nI q1) h (PM_T hM oJ) hk1.2.2.2
      rw [r1, r2, ly_cI, i00, ly_cV, lc_108 h, hb, ly_cV]
      obtain ⟨b, hb2⟩ := hx (c, w, S, mx J1 p3 k1 (nI q1), K2)
      refine ⟨_, rO_no (p2 := p3) ⟨hk1.1, hk1.2.1, hk1.2.2.1, hp3⟩ oI oJ, ?_⟩
      rw [hb2]
      unfold X9_page_L42
      rw [lg_108 h, mx5, nk0 ⟨hk1.1, hk1.2.1⟩]
      rfl
theorem rf_C (h : ly c S) : ∃ B1, X2_readFrom 71 65 (c, w, S, tx B p s v, K) = pm_lp pm_N (X2_readFrom_L38 71 65) (nI 0, (c, w, S, tx B1 p s v, K)) ∧ only PC B B1 ∧ B1 71 3 = nI 0 ∧ B1 71 4 = nI 0 ∧ B1 71 5 = nI 60 ∧ ∀ k, k < 4 → B1 74 k = nI 0 := by
  unfold X2_readFrom
  rw [lp_71 h, tx_un (by omega), lp_71 h, tx_un (by omega), lp_71 h, tx_un (by omega)]
  have o0 : only PC B (ly_u (ly_u (ly_u B 71 3 0) 71 4 0) 71 5 60) := only_u (only_u (only_u only_r (by unfold PC; omega)) (by unfold PC; omega)) (by unfold PC; omega)
  have e3 : ly_u (ly_u (ly_u B 71 3 0) 71 4 0) 71 5 60 71 3 = nI 0 := by simp [ly_uE]; rfl
  have e4 : ly_u (ly_u (ly_u B 71 3 0) 71 4 0) 71 5 60 71 4 = nI 0 := by simp [ly_uE]; rfl
  have e5 : ly_u (ly_u (ly_u B 71 3 0) 71 4 0) 71 5 60 71 5 = nI 60 := by simp [ly_uE]; rfl
  generalize ly_u (ly_u (ly_u B 71 3 0) 71 4 0) 71 5 60 = B0 at o0 e3 e4 e5 ⊢
  refine ly_loop (fun i (E : Nat → Nat → Int32) => ((nI i, (c, w, S, tx E p s v, K)) : Int32 × pmM)) 4 (fun i E => only PC B E ∧ E 71 3 = nI 0 ∧ E 71 4 = nI 0 ∧ E 71 5 = nI 60 ∧ ∀ k, k < i → E 74 k = nI 0) (fun R => ∃ B1, R = pm_lp pm_N (X2_readFrom_L38 71 65) (nI 0, (c, w, S, tx B1 p s v, K)) ∧ only PC B B1 ∧ B1 71 3 = nI 0 ∧ B1 71 4 = nI 0 ∧ B1 71 5 = nI 60 ∧ ∀ k, k < 4 → B1 74 k = nI 0) ?_ ?_ pm_N 0 B0 ⟨o0, e3, e4, e5, fun k hk => by omega⟩ (by omega) (by rw [pm_NE]; omega)
  · intro again i E hi hQ hn
    obtain ⟨q1, q2, q3, q4, q5⟩ := hQ
    unfold X2_readFrom_L18
    simp only
    rw [if_neg (show ¬ (4 : Int32) ≤ nI i from nI_ge (b := 4) hi (by omega)), lr_71_2 h, ls_74 h hi, tx_un (by omega), ly_bI, nI_1]
    refine hn _ ⟨only_u q1 (by unfold PC; omega), by rw [ly_uE, if_neg (by omega)]; exact q2, by rw [ly_uE, if_neg (by omega)]; exact q3, by rw [ly_uE, if_neg (by omega)]; exact q4, fun k hk => ?_⟩
    by_cases e : k = i
    · subst e; rw [ly_uE, if_pos ⟨rfl, rfl⟩]; rfl
    · rw [ly_uE, if_neg (by omega)]; exact q5 k (by omega)
  · intro again E hQ
    unfold X2_readFrom_L18
    simp only
    rw [if_pos (show (4 : Int32) ≤ nI 4 by decide)]
    exact ⟨E, rfl, hQ⟩
theorem tn_M (h : ly c S) : ∃ J1, X9_tellsNothing 108 (c, w, S, mx J p g x, K2) = pm_oV (c, w, S, mx J1 p g x, K2) ∧ only PM J J1 ∧ J1 108 11 = nI 0 ∧ J1 108 12 = nI 60 ∧ (∀ k, k < 4 → J1 111 k = nI 0) ∧ J1 108 7 = J 108 7 := by
  unfold X9_tellsNothing
  rw [lp_108 h, mx_unj (by omega), lp_108 h, mx_unj (by omega)]
  have o0 : only PM J (ly_u (ly_u J 108 11 0) 108 12 60) := only_u (only_u only_r (by unfold PM; omega)) (by unfold PM; omega)
  have e3 : ly_u (ly_u J 108 11 0) 108 12 60 108 11 = nI 0 := by simp [ly_uE]; rfl
  have e4 : ly_u (ly_u J 108 11 0) 108 12 60 108 12 = nI 60 := by simp [ly_uE]; rfl
  have e7 : ly_u (ly_u J 108 11 0) 108 12 60 108 7 = J 108 7 := by simp [ly_uE]
  generalize ly_u (ly_u J 108 11 0) 108 12 60 = J0 at o0 e3 e4 e7 ⊢
  refine ly_loop (fun i (E : Nat → Nat → Int32) => ((nI i, (c, w, S, mx E p g x, K2)) : Int32 × pmM)) 4 (fun i E => only PM J E ∧ E 108 11 = nI 0 ∧ E 108 12 = nI 60 ∧ (∀ k, k < i → E 111 k = nI 0) ∧ E 108 7 = J 108 7) (fun R => ∃ J1, R = pm_oV (c, w, S, mx J1 p g x, K2) ∧ only PM J J1 ∧ J1 108 11 = nI 0 ∧ J1 108 12 = nI 60 ∧ (∀ k, k < 4 → J1 111 k = nI 0) ∧ J1 108 7 = J 108 7) ?_ ?_ pm_N 0 J0 ⟨o0, e3, e4, fun k hk => by omega, e7⟩ (by omega) (by rw [pm_NE]; omega)
  · intro again i E hi hQ hn
    obtain ⟨q1, q2, q3, q4, q5⟩ := hQ
    unfold X9_tellsNothing_L13
    simp only
    rw [if_neg (show ¬ (4 : Int32) ≤ nI i from nI_ge (b := 4) hi (by omega)), lr_108_14 h, ls_111 h hi, mx_un (by omega), ly_bI, nI_1]
    refine hn _ ⟨only_u q1 (by unfold PM; omega), by rw [ly_uE, if_neg (by omega)]; exact q2, by rw [ly_uE, if_neg (by omega)]; exact q3, fun k hk => ?_, by rw [ly_uE, if_neg (by omega)]; exact q5⟩
    by_cases e : k = i
    · subst e; rw [ly_uE, if_pos ⟨rfl, rfl⟩]; rfl
    · rw [ly_uE, if_neg (by omega)]; exact q4 k (by omega)
  · intro again E hQ
    unfold X9_tellsNothing_L13
    simp only
    rw [if_pos (show (4 : Int32) ≤ nI 4 by decide)]
    exact ⟨E, rfl, hQ⟩
/-- behind a page that was read well: the class -/
def X8_pgE (m4 : pmM) : pmR := pm_gR 8 64 1 m4 fun r6 => pm_gR 8 64 2 m4 fun r7 => pm_rc 2 r6 m4 <| pm_cV (X2_takeOver r6 r7 m4) fun m8 => pm_gR 8 64 3 m8 fun r9 => pm_rc 1 r9 m8 <| pm_cV (X1_makePlain r9 m8) fun m10 => pm_gR 8 64 5 m10 fun r11 => pm_pI 3 r11 1 0 m10 fun m12 => pm_gR 8 64 10 m12 fun r13 => pm_rc 5 r13 m12 <| pm_cV (X5_clear r13 m12) fun m14 => pm_gR 8 64 8 m14 fun r15 => pm_rc 0 r15 m14 <| pm_cV (X0_startAnew r15 m14) fun m16 => pm_pI 8 64 12 0 m16 fun m17 => pm_gR 8 64 1 m17 fun r18 => pm_gI 2 r18 4 m17 fun x19 => pm_oI x19 m17
def PG (i j : Nat) : Prop := i = 67 ∨ i = 68 ∨ i = 69 ∨ i = 70 ∨ i = 75 ∨ i = 76 ∨ (i = 83 ∧ j = 1) ∨ (i = 99 ∧ (j = 2 ∨ j = 3)) ∨ i = 93 ∨ i = 94 ∨ i = 95 ∨ (i = 64 ∧ j = 12)
theorem sa_C (h : ly c S) : ∃ D, X0_startAnew 93 (c, w, S, A, K) = pm_oV (c, w, S, D, K) ∧ only (fun i _ => i = 93 ∨ i = 94 ∨ i = 95) A D ∧ (∀ l, l < 6 → D 94 l = nI 0) ∧ (∀ k, k < 4 → D 95 k = A 70 k) ∧ D 93 4 = nI 0 ∧ D 93 5 = A 67 5 ∧ D 93 6 = nI 0 ∧ D 93 7 = nI 0 := by
  unfold X0_startAnew
  refine ly_loop (fun i (E : Nat → Nat → Int32) => ((nI i, (c, w, S, E, K)) : Int32 × pmM)) 6 (fun i E => only (fun i _ => i = 93 ∨ i = 94 ∨ i = 95) A E ∧ ∀ l, l < i → E 94 l = nI 0) (fun R => ∃ D, R = pm_oV (c, w, S, D, K) ∧ only (fun i _ => i = 93 ∨ i = 94 ∨ i = 95) A D ∧ (∀ l, l < 6 → D 94 l = nI 0) ∧ (∀ k, k < 4 → D 95 k = A 70 k) ∧ D 93 4 = nI 0 ∧ D 93 5 = A 67 5 ∧ D 93 6 = nI 0 ∧ D 93 7 = nI 0) ?_ ?_ pm_N 0 A ⟨only_r, fun l hl => by omega⟩ (by omega) (by rw [pm_NE]; omega)
  · intro again i E hi hQ hn
    obtain ⟨q1, q2⟩ := hQ
    unfold X0_startAnew_L2
    simp only
    rw [if_neg (show ¬ (6 : Int32) ≤ nI i from nI_ge (b := 6) hi (by omega)), lr_93_2 h, ls_94 h hi, ly_bI, nI_1]
    refine hn _ ⟨only_u q1 (by omega), fun k hk => ?_⟩
    by_cases e : k = i
    · subst e; rw [ly_uE, if_pos ⟨rfl, rfl⟩]; rfl
    · rw [ly_uE, if_neg (by omega)]; exact q2 k (by omega)
  · intro again E hQ
    obtain ⟨q1, q2⟩ := hQ
    unfold X0_startAnew_L2
    simp only
    rw [if_pos (show (6 : Int32) ≤ nI 6 by decide), lr_93_0 h, lr_67_2 h, lr_93_3 h, lcp (x := 0) (y := 0) (z := 4) (sp := 0) (dp := 0) (m := 4) 4 4 h rfl rfl rfl rfl (by omega) (by omega) (by omega) (by omega) rfl rfl rfl, lp_93 h, lr_93_0 h, lg_67 h, lp_93 h, lp_93 h, lp_93 h]
    have b5 : ly_u (ly_c E 70 0 95 0 4) 93 4 0 67 5 = A 67 5 := by rw [ly_uE, if_neg (by omega), ly_cE, if_neg (by omega)]; exact q1 67 5 (by omega)
    rw [b5]
    have b95 : ∀ k, k < 4 → ly_c E 70 0 95 0 4 95 k = A 70 k := fun k hk => by rw [ly_cE, if_pos ⟨rfl, by omega, by omega⟩, show 0 + (k - 0) = k by omega]; exact q1 70 k (by omega)
    have bo : ∀ i j, i ≠ 95 → ly_c E 70 0 95 0 4 i j = E i j := fun i j hn => by rw [ly_cE, if_neg (by omega)]
    have boo : only (fun i _ => i = 93 ∨ i = 94 ∨ i = 95) A (ly_c E 70 0 95 0 4) := fun i j hn => by rw [bo i j (by omega)]; exact q1 i j hn
    generalize ly_c E 70 0 95 0 4 = Z at b95 bo boo ⊢
    refine ⟨_, rfl, only_u (only_u (only_u (only_u boo (by omega)) (by omega)) (by omega)) (by omega), fun l hl => ?_, fun k hk => ?_, ?_, ?_, ?_, ?_⟩
    · rw [ly_uE, if_neg (by omega), ly_uE, if_neg (by omega), ly_uE, if_neg (by omega), ly_uE, if_neg (by omega), bo 94 l (by omega)]; exact q2 l hl
    · rw [ly_uE, if_neg (by omega), ly_uE, if_neg (by omega), ly_uE, if_neg (by omega), ly_uE, if_neg (by omega)]; exact b95 k hk
    all_goals (simp [ly_uE] <;> rfl)
end PAJ
