/-! a sentence read by the one and by the other -/
section SEN
variable {c w : Nat} {S : Nat → pmS} {I I1 I2 J J1 A B E O : Nat → Nat → Int32} {K K2 : Nat → Nat → Int64} {T : Nat → Nat} {L p g n N : Nat} {s v x : Int32}
def PS (i _j : Nat) : Prop := i = 85 ∨ i = 86
def QS (i _j : Nat) : Prop := i = 453
def SS (I J : Nat → Nat → Int32) (i : Nat) : Prop := I 85 1 = nI i ∧ ∀ k, k < i → ∃ z, z < 16 ∧ I 86 k = nI z ∧ J 453 k = nI z
theorem PS_T (h : tB I T L) (ho : only PS I I1) : tB I1 T L := tB_o h ho (by unfold PS; omega) (fun k _ => by unfold PS; omega)
theorem QS_T (h : mB J T L) (ho : only QS J J1) : mB J1 T L := mB_o h ho (by unfold QS; omega) (fun k _ => by unfold QS; omega)
theorem sn_loop {k : Nat} (h : ly c S) (hT : tB I T L) (hM : mB J T L) (hp : p ≤ L) (hP : SS I J k) (hk : k ≤ 12) : ∃ RM so, so ≤ 12 ∧ rO c w S K K2 PS QS I J x (fun I1 J1 _ => SS I1 J1 so) (pm_lp pm_N (X3_readFrom_L7 85 65) (nI k, (c, w, S, tx I p s v, K))) RM ∧ pm_lp pm_N (X9_sentence_L46 108) (nI k, (c, w, S, mx J (tS T L p) 0 x, K2)) = pm_cV RM (X9_sentence_j102 108 (nI so)) := by
  have hL := hT.2.1
  refine ly_wh2 (fun (a : Nat × Nat × Int32 × Int32 × (Nat → Nat → Int32) × (Nat → Nat → Int32)) => 13 - a.1) (fun a => ((nI a.1, (c, w, S, tx a.2.2.2.2.1 a.2.1 a.2.2.1 a.2.2.2.1, K)) : Int32 × pmM)) (fun a => ((nI a.1, (c, w, S, mx a.2.2.2.2.2 (tS T L a.2.1) 0 x, K2)) : Int32 × pmM))
    (fun a RC R => a.1 ≤ 12 → a.2.1 ≤ L → only PS I a.2.2.2.2.1 → only QS J a.2.2.2.2.2 → SS a.2.2.2.2.1 a.2.2.2.2.2 a.1 → ∃ RM so, so ≤ 12 ∧ rO c w S K K2 PS QS I J x (fun I1 J1 _ => SS I1 J1 so) RC RM ∧ R = pm_cV RM (X9_sentence_j102 108 (nI so))) ?_ pm_N pm_N (k, p, s, v, I, J) (by rw [pm_NE]; simp only; omega) (by rw [pm_NE]; simp only; omega) hk hp only_r only_r hP
  intro aC aM a hx hA hk hp hI hJ2 hPP
  obtain ⟨k, p, s, v, I', J'⟩ := a
  simp only at hA hk hp hI hJ2 hPP ⊢
  have hT' := PS_T hT hI
  have hM' := QS_T hM hJ2
  have hq : tS T L p ≤ L := tE_lL hp
  unfold X3_readFrom_L7 X9_sentence_L46
  simp only
  rw [if_neg (show ¬ (12 : Int32) < nI k from nI_nlt (a := 12) hk (by omega)), lc_65 h, tx_peek h hT' hp, ly_cI, lg_108 h, mx5, n00, lg_108 h, mx4, lg_108 h, mx2, hM'.1]
  by_cases he : tS T L p = L
  · rw [if_pos ((tb_end (fun k hk => (hM.2.2 k hk).2) hL hq).mpr he), if_pos (nI_le (by omega) (by omega))]
    exact ⟨_, k, hk, rO_ok hI hJ2 hPP, rfl⟩
  · rw [if_neg (fun e => he ((tb_end (fun k hk => (hM.2.2 k hk).2) hL hq).mp e)), if_neg (nI_ge (by omega) (by omega)), lc_65 h, lc_108 h]
    unfold X9_wordsOwn X9_wordsOwn_j36
    rw [lc_108 h, mx_blanks h hM' hq, ly_cV, tS_i hp, lg_108 h, mx4, lc_108 h, ly_cc]
    -- what is behind a fault
    have flt : ∀ (J1 : Nat → Nat → Int32) (p2 k1 q1 so : Nat), only QS J J1 → 1 ≤ k1 ∧ k1 ≤ 3 → p2 ≤ 600 → ∃ p3, p3 ≤ 600 ∧ X9_sentence_j95 aM 108 (nI so) (c, w, S, mx J1 p2 k1 (nI q1), K2) = X9_sentence_j102 108 (nI so) (c, w, S, mx J1 p3 k1 (nI q1), K2) := by
      intro J1 p2 k1 q1 so oJ hk1 hp2
      obtain ⟨p3, hp3, hb⟩ := mx_blA (w := w) (K2 := K2) (g := k1) (x := nI q1) h (QS_T hM oJ) hp2
      refine ⟨p3, hp3, ?_⟩
      unfold X9_sentence_j95
      rw [lc_108 h, hb, ly_cV]
      obtain ⟨b, hb2⟩ := hx (nI so, (c, w, S, mx J1 p3 k1 (nI q1), K2))
      rw [hb2]
      unfold X9_sentence_L46
      simp only
      rw [lg_108 h, mx5, nk0 hk1]
    rcases tI_cases iDg T L (tS T L (tS T L p)) with hd | hd
    · by_cases hr : (0 : Int32) ≤ nI (tN T L (tS T L (tS T L p))) ∧ nI (tN T L (tS T L (tS T L p))) ≤ 15
      · have hz := le_lit (b := 15) tN_le (by omega) hr.2
        have hE : tE iDg T L (tS T L (tS T L p)) ≤ L := tE_lL (by rw [tS_i hp]; exact hq)
        rw [tx_num1 h hT' hq hd hr, mx_num1 h hM' hq hd hr, ly_cI, ly_cI, i10, lg_108 h, mx5, n00]
        generalize tN T L (tS T L (tS T L p)) = z at hz
        rcases Nat.lt_or_ge k 12 with h12 | h12
        · rw [if_pos (show nI k < 12 from nI_lt (b := 12) h12 (by omega)), lr_85_0 h, lg_65 h, tx5, ls_86 h h12, tx_un (by omega), lp_85 h, tx_un (by omega), nI_1, lc_65 h, if_neg (show ¬ nI k = 12 from fun e => by have := (nI_eq (b := 12) (by omega) (by omega)).mp e; omega), ly_cI, lc_108 h, nl_59]
          have oI : only PS I (ly_u (ly_u I' 86 k (nI z)) 85 1 (nI (k + 1))) := only_u (only_u hI (by unfold PS; omega)) (by unfold PS; omega)
          by_cases hb : tb T L (tS T L (tE iDg T L (tS T L (tS T L p)))) = nI 59
          · have hlt := tb_lL hb (by omega)
            have oJ : only QS J (ly_u J' 453 k (nI z)) := only_u hJ2 (by unfold QS; omega)
            rw [tx_sign_ok h (PS_T hT oI) hE hb, mx_sign_ok h hM' hE hb, ly_cI, ly_cV, i10, ly_bI, lg_108 h, mx5, n00, lr_108_26 h, ls_453 h h12, mx_un (by omega), ly_bI]
            unfold X9_sentence_j95
            rw [lc_108 h, mx_blanks h (QS_T hM oJ) (by omega), ly_cV]
            have hSS : SS (ly_u (ly_u I' 86 k (nI z)) 85 1 (nI (k + 1))) (ly_u J' 453 k (nI z)) (k + 1) := by
              refine ⟨by rw [ly_uE, if_pos ⟨rfl, rfl⟩], fun j hj => ?_⟩
              by_cases e : j = k
              · subst e
                exact ⟨z, by omega, by rw [ly_uE, if_neg (by omega), ly_uE, if_pos ⟨rfl, rfl⟩], by rw [ly_uE, if_pos ⟨rfl, rfl⟩]⟩
              · rw [ly_uE, if_neg (by omega), ly_uE, if_neg (by omega), ly_uE, if_neg (by omega)]
                exact hPP.2 j (by omega)
            exact hA (k + 1, tS T L (tE iDg T L (tS T L (tS T L p))) + 1, nI (tS T L (tS T L p)), nI z, ly_u (ly_u I' 86 k (nI z)) 85 1 (nI (k + 1)), ly_u J' 453 k (nI z)) (by simp only; omega) (by simp only; omega) (by simp only; omega) oI oJ hSS
          · have hE2 : tS T L (tE iDg T L (tS T L (tS T L p))) ≤ L := tE_lL hE
            rw [tx_sign_no h (PS_T hT oI) hE hb, mx_sign_no h hM' hE hb, ly_cI, ly_cV, i00, lg_108 h, mx5, nk0 (by omega)]
            obtain ⟨p3, hp3, hf⟩ := flt J' _ 1 _ k hJ2 (by omega) (show tS T L (tE iDg T L (tS T L (tS T L p))) ≤ 600 by omega)
            rw [hf]
            exact ⟨_, k, hk, rO_no (p2 := p3) ⟨by omega, by omega, by omega, hp3⟩ oI hJ2, rfl⟩
        · have : k = 12 := by omega
          subst this
          rw [if_neg (show ¬ nI 12 < 12 by decide), lg_65 h, tx4, lc_65 h, nl_3, tx_fail h, ly_cI, if_pos (show nI 12 = 12 from rfl), lc_108 h, mx_wrong h, ly_cV, ly_cI, lc_108 h, mx_signF h (by omega), ly_cV, lg_108 h, mx5, nk0 (by omega), tS_i hp]
          rw [tS_i hp] at hE
          obtain ⟨p3, hp3, hf⟩ := flt J' _ 3 (tS T L p) 12 hJ2 (by omega) (show tE iDg T L (tS T L p) ≤ 600 by omega)
          rw [hf]
          exact ⟨_, 12, hk, rO_no (p2 := p3) ⟨by omega, by omega, by omega, hp3⟩ hI hJ2, rfl⟩
      · have hE : tE iDg T L (tS T L (tS T L p)) ≤ L := tE_lL (by rw [tS_i hp]; exact hq)
        rw [tx_num2 h hT' hq hd hr, mx_num2 h hM' hq hd hr, ly_cI, ly_cI, i00, lg_108 h, mx5, nk0 (by omega), ly_cI, lc_108 h, mx_signF h (by omega), ly_cV, lg_108 h, mx5, nk0 (by omega)]
        obtain ⟨p3, hp3, hf⟩ := flt J' _ 2 (tS T L (tS T L p)) k hJ2 (by omega) (show tE iDg T L (tS T L (tS T L p)) ≤ 600 by omega)
        rw [hf]
        exact ⟨_, k, hk, rO_no (p2 := p3) ⟨by omega, by omega, by rw [tS_i hp]; omega, hp3⟩ hI hJ2, rfl⟩
    · rw [tx_num0 h hT' hq hd, mx_num0 h hM' hq hd, ly_cI, ly_cI, i00, lg_108 h, mx5, nk0 (by omega), ly_cI, lc_108 h, mx_signF h (by omega), ly_cV, lg_108 h, mx5, nk0 (by omega), tS_i hp]
      obtain ⟨p3, hp3, hf⟩ := flt J' _ 1 (tS T L p) k hJ2 (by omega) (show tS T L p ≤ 600 by omega)
      rw [hf]
      exact ⟨_, k, hk, rO_no (p2 := p3) ⟨by omega, by omega, by omega, hp3⟩ hI hJ2, rfl⟩
theorem sn_both (h : ly c S) (hO : tB O T N) (hO3 : O 65 3 = nI 0) (hJ : ∀ k, k < 600 → J 109 k = nI (T k) ∧ T k < 256) : ∃ RM so, so ≤ 12 ∧ rO c w S K K2 PS QS O (mst J N) (-1) (fun I1 J1 _ => SS I1 J1 so) (X3_readFrom 85 65 (c, w, S, O, K)) RM ∧ (pm_cV (X9_starts 108 (nI N) (c, w, S, J, K2)) fun m7 => pm_lp pm_N (X9_sentence_L46 108) (0, m7)) = pm_cV RM (X9_sentence_j102 108 (nI so)) := by
  have hN := hO.2.1
  have e : X3_readFrom 85 65 (c, w, S, O, K) = pm_lp pm_N (X3_readFrom_L7 85 65) (nI 0, (c, w, S, tx (ly_u O 85 1 0) 0 (O 65 4) (O 65 5), K)) := by
    have : X3_readFrom 85 65 (c, w, S, tx O 0 (O 65 4) (O 65 5), K) = pm_lp pm_N (X3_readFrom_L7 85 65) (nI 0, (c, w, S, tx (ly_u O 85 1 0) 0 (O 65 4) (O 65 5), K)) := by
      unfold X3_readFrom
      rw [lp_85 h, tx_un (by omega)]
      rfl
    rw [← tx_in hO3] at this
    exact this
  obtain ⟨m1, m2⟩ := ms_ok (w := w) (K := K2) (I := J) (T := T) (N := N) h hN hJ
  have o1 : only PS O (ly_u O 85 1 0) := only_u only_r (by unfold PS; omega)
  obtain ⟨RM, so, hso, r1, r2⟩ := sn_loop (w := w) (K := K) (K2 := K2) (k := 0) (p := 0) (s := O 65 4) (v := O 65 5) (x := -1) h (PS_T hO o1) m2 (by omega) ⟨by rw [ly_uE, if_pos ⟨rfl, rfl⟩]; rfl, fun k hk => by omega⟩ (by omega)
  refine ⟨RM, so, hso, ?_, ?_⟩
  · rw [e]
    exact rO_m r1 (fun _ _ e => e) (fun _ _ e => e) o1 only_r (fun _ _ _ _ _ e => e)
  · rw [m1, ly_cV]
    exact r2
end SEN
