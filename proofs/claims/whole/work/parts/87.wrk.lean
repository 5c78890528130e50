/-! a work done by the one and by the other -/
section WKE
variable {c w : Nat} {S : Nat → pmS} {I I1 I2 J J1 A B E I0 J0 O : Nat → Nat → Int32} {K K2 : Nat → Nat → Int64} {T : Nat → Nat} {L p g n N m o d e b : Nat} {s v x : Int32} {wd : Nat → Nat} {q : Nat → Nat → Nat} {r : Nat → Int32} {a : Nat} {lw : (Nat → Int32) → Int32} {rsC : Nat → Nat → Int32 → Int32 → Int32 → pmM → pmR} {rsM : Nat → Int32 → Int32 → pmM → pmR}
def XR (n : Nat) (wd : Nat → Nat) (q : Nat → Nat → Nat) (lw : (Nat → Int32) → Int32) (I J : Nat → Nat → Int32) (r : Nat → Int32) (b : Nat) : Prop := eC I n wd q lw ∧ eM J n wd q lw ∧ dk_C I 93 r ∧ dk_M J 535 r ∧ dk_W n wd r ∧ I 87 7 = nI b ∧ J 108 38 = nI b ∧ b ≤ 200 ∧ I 87 8 = J 108 39 ∧ I 87 9 = J 108 35
def RWw (n : Nat) (I J : Nat → Nat → Int32) (m : Nat) : Prop := m ≤ 30 ∧ ∀ k, k < m → srw n I J k m
def PX (i j : Nat) : Prop := PD 93 i j ∨ (i = 87 ∧ 7 ≤ j ∧ j ≤ 9)
def QX (i j : Nat) : Prop := PR 535 i j ∨ (i = 108 ∧ (j = 35 ∨ j = 38 ∨ j = 39))
theorem RW_o (h : RWw n I J m) (oI : only PX I I1) (oJ : only QX J J1) : RWw n I1 J1 m := ⟨h.1, fun k hk => srw_c (h.2 k hk) (fun i h1 h2 => oI i k (by unfold PX PD; omega)) (fun j => oJ (455 + k) j (by have := h.1; unfold QX PR; omega)) (Nat.le_refl _)⟩
theorem ns_o {f t : Nat} (h : nst J e f t) (ht : t ≤ 30) (oJ : only QX J J1) : nst J1 e f t := nst_c h (fun k j hk => oJ (455 + k) j (by unfold QX PR; omega))
def XE (c w : Nat) (S : Nat → pmS) (K K2 : Nat → Nat → Int64) (n : Nat) (wd : Nat → Nat) (q : Nat → Nat → Nat) (lw : (Nat → Int32) → Int32) (I J : Nat → Nat → Int32) (RC RM : pmR) : Prop := ∃ I' J' r' b', RC = pm_oV (c, w, S, I', K) ∧ RM = pm_oV (c, w, S, J', K2) ∧ XR n wd q lw I' J' r' b' ∧ only PX I I' ∧ only QX J J'
def EXh (c w : Nat) (S : Nat → pmS) (K K2 : Nat → Nat → Int64) (n : Nat) (wd : Nat → Nat) (q : Nat → Nat → Nat) (lw : (Nat → Int32) → Int32) (rsC : Nat → Nat → Int32 → Int32 → Int32 → pmM → pmR) (rsM : Nat → Int32 → Int32 → pmM → pmR) (e o : Nat) : Prop := ∀ I J r b m f t, XR n wd q lw I J r b → RWw n I J m → t ≤ m → f ≤ 30 → nst J e f t → XE c w S K K2 n wd q lw I J (rsC 87 93 (nI f) (nI t) (nI o) (c, w, S, I, K)) (rsM 108 (nI f) (nI t) (c, w, S, J, K2))
theorem XR_b {b2 : Nat} (h : XR n wd q lw I J r b) (hb : b2 ≤ 200) : XR n wd q lw (ly_u I 87 7 (nI b2)) (ly_u J 108 38 (nI b2)) r b2 := by
  obtain ⟨h1, h2, h3, h4, h5, h6, h7, h8, h9, h10⟩ := h
  have oI : only (fun i j => i = 87 ∧ j = 7) I (ly_u I 87 7 (nI b2)) := only_u only_r ⟨rfl, rfl⟩
  have oJ : only (fun i j => i = 108 ∧ j = 38) J (ly_u J 108 38 (nI b2)) := only_u only_r ⟨rfl, rfl⟩
  refine ⟨?_, ?_, dk_C_c h3 (fun i j e => oI i j (by unfold dDC at e; omega)), dk_M_c h4 (fun i j e => oJ i j (by unfold dDM at e; omega)), h5, by rw [ly_uE, if_pos ⟨rfl, rfl⟩], by rw [ly_uE, if_pos ⟨rfl, rfl⟩], hb, ?_, ?_⟩
  · obtain ⟨a1, a2, a3⟩ := h1
    exact ⟨pg_C_c a1 (fun i j e => oI i j (by unfold dPC at e; omega)), jl_c a2 (fun i j e => oI i j (by unfold dL at e; omega)), fun kn => by rw [← a3 kn]; exact lwp_c (by have := jl_m a2; omega) (fun i j e => oI i j (by unfold dL at e; omega))⟩
  · obtain ⟨a1, a2, a3⟩ := h2
    exact ⟨pg_M_c a1 (fun i j e => oJ i j (by unfold dPM at e; omega)), jl_c a2 (fun i j e => oJ i j (by unfold dL at e; omega)), fun kn => by rw [← a3 kn]; exact lwp_c (by have := jl_m a2; omega) (fun i j e => oJ i j (by unfold dL at e; omega))⟩
  · rw [ly_uE, if_neg (by omega), ly_uE, if_neg (by omega)]; exact h9
  · rw [ly_uE, if_neg (by omega), ly_uE, if_neg (by omega)]; exact h10
/-- behind a step: counted -/
theorem XR_n {r' : Nat → Int32} {bb : Bool} {Ja : Nat → Nat → Int32} (h : XR n wd q lw I J r b) (hC : dk_C I1 93 r') (hM : dk_M J1 535 r') (hr : dk_W n wd r') (oI : only (PD 93) I I1) (oJ : only (PR 535) J J1) (hJa : Ja = if bb then ly_u (ly_u J1 108 39 (J1 108 39 + 1)) 108 35 (J1 108 35 + 0) else ly_u (ly_u J1 108 39 (J1 108 39 + 0)) 108 35 (J1 108 35 + 1)) : XR n wd q lw (if bb then ly_u I1 87 8 (I1 87 8 + 1) else ly_u I1 87 9 (I1 87 9 + 1)) Ja r' b := by
  obtain ⟨h1, h2, h3, h4, h5, h6, h7, h8, h9, h10⟩ := h
  have hE1 := eC_o dk_93 h1 oI
  have hE2 := eM_o rwa_535 h2 oJ
  have e7 : I1 87 7 = nI b := by rw [oI 87 7 (by unfold PD; omega)]; exact h6
  have e38 : J1 108 38 = nI b := by rw [oJ 108 38 (by unfold PR; omega)]; exact h7
  have e8 : I1 87 8 = J1 108 39 := by rw [oI 87 8 (by unfold PD; omega), oJ 108 39 (by unfold PR; omega)]; exact h9
  have e9 : I1 87 9 = J1 108 35 := by rw [oI 87 9 (by unfold PD; omega), oJ 108 35 (by unfold PR; omega)]; exact h10
  have oI2 : only (fun i j => i = 87 ∧ (j = 8 ∨ j = 9)) I1 (if bb then ly_u I1 87 8 (I1 87 8 + 1) else ly_u I1 87 9 (I1 87 9 + 1)) := by
    cases bb
    · exact only_u only_r ⟨rfl, Or.inr rfl⟩
    · exact only_u only_r ⟨rfl, Or.inl rfl⟩
  have oJ2 : only (fun i j => i = 108 ∧ (j = 39 ∨ j = 35)) J1 Ja := by
    rw [hJa]
    cases bb
    · exact only_u (only_u only_r ⟨rfl, Or.inl rfl⟩) ⟨rfl, Or.inr rfl⟩
    · exact only_u (only_u only_r ⟨rfl, Or.inl rfl⟩) ⟨rfl, Or.inr rfl⟩
  refine ⟨?_, ?_, dk_C_c hC (fun i j e => oI2 i j (by unfold dDC at e; omega)), dk_M_c hM (fun i j e => oJ2 i j (by unfold dDM at e; omega)), hr, by rw [oI2 87 7 (by omega)]; exact e7, by rw [oJ2 108 38 (by omega)]; exact e38, h8, ?_, ?_⟩
  · obtain ⟨a1, a2, a3⟩ := hE1
    exact ⟨pg_C_c a1 (fun i j e => oI2 i j (by unfold dPC at e; omega)), jl_c a2 (fun i j e => oI2 i j (by unfold dL at e; omega)), fun kn => by rw [← a3 kn]; exact lwp_c (by have := jl_m a2; omega) (fun i j e => oI2 i j (by unfold dL at e; omega))⟩
  · obtain ⟨a1, a2, a3⟩ := hE2
    exact ⟨pg_M_c a1 (fun i j e => oJ2 i j (by unfold dPM at e; omega)), jl_c a2 (fun i j e => oJ2 i j (by unfold dL at e; omega)), fun kn => by rw [← a3 kn]; exact lwp_c (by have := jl_m a2; omega) (fun i j e => oJ2 i j (by unfold dL at e; omega))⟩
  · rw [hJa]
    cases bb
    · simp only [Bool.false_eq_true, if_false]
      rw [ly_uE, if_neg (by omega), ly_uE, if_neg (by omega), ly_uE, if_pos ⟨rfl, rfl⟩, Int32.add_zero]; exact e8
    · simp only [if_true]
      rw [ly_uE, if_pos ⟨rfl, rfl⟩, ly_uE, if_neg (by omega), ly_uE, if_pos ⟨rfl, rfl⟩, e8]
  · rw [hJa]
    cases bb
    · simp only [Bool.false_eq_true, if_false]
      rw [ly_uE, if_pos ⟨rfl, rfl⟩, ly_uE, if_pos ⟨rfl, rfl⟩, e9]
    · simp only [if_true]
      rw [ly_uE, if_neg (by omega), ly_uE, if_pos ⟨rfl, rfl⟩, Int32.add_zero]; exact e9
theorem ex_R (h : ly c S) (hoe : o + e ≤ 6) (hIH : 0 < e → EXh c w S K K2 n wd q lw rsC rsM (e - 1) (o + 1)) : EXh c w S K K2 n wd q lw (X6_doSteps rsC) (X9_goes rsM) e o := by
  intro I J r b m f t hX hRW htm hf30 hN
  have hm30 := hRW.1
  show XE c w S K K2 n wd q lw I J (if nI o ≤ 6 then (pm_lp pm_N (X6_doSteps_L11 rsC 87 93 (nI t) (nI o)) (nI f, (c, w, S, I, K))) else (pm_oV (c, w, S, I, K))) (pm_lp pm_N (X9_goes_L2 rsM 108 (nI t)) (nI f, (c, w, S, J, K2)))
  rw [if_pos (show nI o ≤ 6 from nI_le (b := 6) (by omega) (by omega))]
  have := ly_wh2 (α := (Nat → Nat → Int32) × (Nat → Nat → Int32) × (Nat → Int32) × Nat × Nat) (bC := X6_doSteps_L11 rsC 87 93 (nI t) (nI o)) (bM := X9_goes_L2 rsM 108 (nI t)) (fun a => t - a.2.2.2.2) (fun a => (nI a.2.2.2.2, (c, w, S, a.1, K))) (fun a => (nI a.2.2.2.2, (c, w, S, a.2.1, K2)))
    (fun a RC RM => XR n wd q lw a.1 a.2.1 a.2.2.1 a.2.2.2.1 → only PX I a.1 → only QX J a.2.1 → f ≤ a.2.2.2.2 → a.2.2.2.2 ≤ 30 → XE c w S K K2 n wd q lw I J RC RM) ?_ pm_N pm_N (I, J, r, b, f) (by show t - _ < 100000; omega) (by show t - _ + 1 < 100000; omega) hX only_r only_r (Nat.le_refl _) hf30
  · exact this
  · rintro aC aM ⟨I2, J2, r2, b2, k⟩ - hA hX2 oI oJ hfk hk30
    replace hX2 : XR n wd q lw I2 J2 r2 b2 := hX2
    replace oI : only PX I I2 := oI
    replace oJ : only QX J J2 := oJ
    replace hfk : f ≤ k := hfk
    replace hk30 : k ≤ 30 := hk30
    obtain ⟨x1, x2, x3, x4, x5, x6, x7, x8, x9, x10⟩ := id hX2
    show XE c w S K K2 n wd q lw I J (X6_doSteps_L11 rsC 87 93 (nI t) (nI o) aC (nI k, (c, w, S, I2, K))) (X9_goes_L2 rsM 108 (nI t) aM (nI k, (c, w, S, J2, K2)))
    unfold X6_doSteps_L11 X9_goes_L2 X6_doSteps_j133 X9_goes_j156
    simp only
    by_cases htk : t ≤ k
    · rw [if_pos (nI_le htk (by omega)), if_pos (nI_le htk (by omega))]
      exact ⟨I2, J2, r2, b2, rfl, rfl, hX2, oI, oJ⟩
    · rw [if_neg (nI_ge (by omega) (by omega)), if_neg (nI_ge (by omega) (by omega)), lg_87 h, x6, lg_108 h, x7]
      by_cases hb2 : 200 ≤ b2
      · rw [if_pos (show (200 : Int32) ≤ nI b2 from nI_le (a := 200) hb2 (by omega)), if_pos (show (200 : Int32) ≤ nI b2 from nI_le (a := 200) hb2 (by omega))]
        exact ⟨I2, J2, r2, b2, rfl, rfl, hX2, oI, oJ⟩
      · have n200 : ¬ (200 : Int32) ≤ nI b2 := nI_ge (b := 200) (by omega) (by omega)
        have hXb := XR_b hX2 (show b2 + 1 ≤ 200 by omega)
        have oI1 : only PX I (ly_u I2 87 7 (nI (b2 + 1))) := only_u oI (by unfold PX; omega)
        have oJ1 : only QX J (ly_u J2 108 38 (nI (b2 + 1))) := only_u oJ (by unfold QX; omega)
        rw [if_neg n200, if_neg n200, lg_87 h, x6, lp_87 h, nI_1, lg_108 h, x7, lp_108 h, nI_1]
        generalize ly_u I2 87 7 (nI (b2 + 1)) = I3 at hXb oI1
        generalize ly_u J2 108 38 (nI (b2 + 1)) = J3 at hXb oJ1
        have hRW3 := RW_o hRW oI1 oJ1
        obtain ⟨kd, cl, s1, s2, s3, s4, s5, s6, s7, s8⟩ := hRW3.2 k (by omega)
        have ecl : (if nI k + 1 < nI cl then nI cl else nI k + 1) = nI cl := by
          rw [nI_1]
          by_cases e1 : k + 1 < cl
          · rw [if_pos (nI_lt e1 (by omega))]
          · rw [if_neg (nI_nlt (by omega) (by omega)), show cl = k + 1 by omega]
        have onw : ∀ I4 J4 r4 b4, XR n wd q lw I4 J4 r4 b4 → only PX I3 I4 → only QX J3 J4 → XE c w S K K2 n wd q lw I J (X6_doSteps_j114 rsC aC 87 93 (nI t) (nI o) (nI k) (c, w, S, I4, K)) (X9_goes_j144 rsM aM 108 (nI t) (nI k) (c, w, S, J4, K2)) := fun I4 J4 r4 b4 hX4 o3 o4 => by
          have e92 : I4 92 k = nI cl := by rw [o3 92 k (by unfold PX PD; omega)]; exact s4
          have e4 : J4 (455 + k) 4 = nI cl := by rw [o4 (455 + k) 4 (by unfold QX PR; omega)]; exact s5
          unfold X6_doSteps_j114 X9_goes_j144
          rw [lr_87_4 h, ld_92 h (by omega), e92, ecl, ly_bI, lr_108_27 h, lr_454 h (by omega), ld_i (i := 4) 4 rfl, ld_455 h (by omega) (by omega), e4]
          exact hA (I4, J4, r4, b4, cl) (by show t - cl < t - k; omega) hX4 (only_t oI1 o3) (only_t oJ1 o4) (by show f ≤ cl; omega) (by show cl ≤ 30; omega)
        rw [lr_87_0 h, ld_88 h (by omega), s1, lr_108_27 h, lr_454 h (by omega), ld_i (i := 0) 0 rfl, ld_455 h (by omega) (by omega), s2]
        by_cases hk6 : kd = 6
        · subst hk6
          have hN3 : nst J3 e f t := ns_o hN (by omega) oJ1
          have he : 0 < e := by
            rcases Nat.eq_zero_or_pos e with e0 | e0
            · subst e0
              exact absurd s2 (hN3 k hfk (by omega))
            · exact e0
          obtain ⟨e', rfl⟩ : ∃ e', e = e' + 1 := ⟨e - 1, by omega⟩
          obtain ⟨cl2, t1, t2, t3⟩ := hN3 k hfk (by omega) s2
          have hcl : cl2 = cl := by
            rw [s5] at t1
            exact ((nI_eq (by omega) (by omega)).mp t1).symm
          subst hcl
          obtain ⟨ff, f1, f2, hff⟩ : ∃ ff, I3 89 k = nI ff ∧ J3 (455 + k) 1 = nI ff ∧ ff ≤ 60 := by
            rcases s8 with s8 | ⟨ff, f1, f2, s8⟩
            · omega
            · refine ⟨ff, f1, f2, ?_⟩
              rcases s8 with s8 | s8 | s8 | s8
              · omega
              · exact s8.2
              · omega
              · omega
          have hIH := hIH (by omega)
          rw [show e' + 1 - 1 = e' by omega] at hIH
          rw [if_pos (show nI 6 = 6 from rfl), if_pos (show nI 6 = 6 from rfl)]
          have inn := ly_wh2 (α := (Nat → Nat → Int32) × (Nat → Nat → Int32) × (Nat → Int32) × Nat × Nat) (bC := X6_doSteps_L66 rsC aC 87 93 (nI t) (nI o) (nI k)) (bM := X9_goes_L43 rsM aM 108 (nI t) (nI k)) (fun a => ff - a.2.2.2.2) (fun a => (nI a.2.2.2.2, (c, w, S, a.1, K))) (fun a => (nI a.2.2.2.2, (c, w, S, a.2.1, K2)))
            (fun a RC RM => XR n wd q lw a.1 a.2.1 a.2.2.1 a.2.2.2.1 → only PX I3 a.1 → only QX J3 a.2.1 → a.2.2.2.2 ≤ ff → XE c w S K K2 n wd q lw I J RC RM) ?_ pm_N pm_N (I3, J3, r2, b2 + 1, 0) (by show ff - _ < 100000; omega) (by show ff - _ + 1 < 100000; omega) hXb only_r only_r (Nat.zero_le _)
          · exact inn
          · rintro bC bM ⟨I5, J5, r5, b5, i⟩ - hB hX5 p1 p2 hi
            replace hX5 : XR n wd q lw I5 J5 r5 b5 := hX5
            replace p1 : only PX I3 I5 := p1
            replace p2 : only QX J3 J5 := p2
            replace hi : i ≤ ff := hi
            obtain ⟨y1, y2, y3, y4, y5, y6, y7, y8, y9, y10⟩ := id hX5
            show XE c w S K K2 n wd q lw I J (X6_doSteps_L66 rsC aC 87 93 (nI t) (nI o) (nI k) bC (nI i, (c, w, S, I5, K))) (X9_goes_L43 rsM aM 108 (nI t) (nI k) bM (nI i, (c, w, S, J5, K2)))
            have e89 : I5 89 k = nI ff := by rw [p1 89 k (by unfold PX PD; omega)]; exact f1
            have e1 : J5 (455 + k) 1 = nI ff := by rw [p2 (455 + k) 1 (by unfold QX PR; omega)]; exact f2
            have e92 : I5 92 k = nI cl2 := by rw [p1 92 k (by unfold PX PD; omega)]; exact s4
            have e4 : J5 (455 + k) 4 = nI cl2 := by rw [p2 (455 + k) 4 (by unfold QX PR; omega)]; exact s5
            unfold X6_doSteps_L66 X9_goes_L43 X9_goes_j87
            simp only
            rw [lr_87_1 h, ld_89 h (by omega), e89, lr_108_27 h, lr_454 h (by omega), ld_i (i := 1) 1 rfl, ld_455 h (by omega) (by omega), e1]
            by_cases hfi : ff ≤ i
            · rw [if_pos (nI_le hfi (by omega)), if_pos (nI_le hfi (by omega))]
              exact onw I5 J5 r5 b5 hX5 p1 p2
            · rw [if_neg (nI_ge (by omega) (by omega)), if_neg (nI_ge (by omega) (by omega)), lg_87 h, y6, lg_108 h, y7]
              by_cases hb5 : 200 ≤ b5
              · rw [if_pos (show (200 : Int32) ≤ nI b5 from nI_le (a := 200) hb5 (by omega)), if_pos (show (200 : Int32) ≤ nI b5 from nI_le (a := 200) hb5 (by omega))]
                exact onw I5 J5 r5 b5 hX5 p1 p2
              · have n5 : ¬ (200 : Int32) ≤ nI b5 := nI_ge (b := 200) (by omega) (by omega)
                obtain ⟨I6, J6, r6, b6, z1, z2, z3, z4, z5⟩ := hIH I5 J5 r5 b5 m (k + 1) cl2 hX5 (RW_o hRW3 p1 p2) (by omega) (by omega) (ns_o t3 (by omega) p2)
                rw [if_neg n5, if_neg n5, lr_87_4 h, ld_92 h (by omega), e92, lc_87 h, nI_1, nI_1, z1, ly_cV, ly_bI, nI_1, lr_108_27 h, lr_454 h (by omega), ld_i (i := 4) 4 rfl, ld_455 h (by omega) (by omega), e4, lc_108 h, z2, ly_cV, ly_bI]
                exact hB (I6, J6, r6, b6, i + 1) (by show ff - (i + 1) < ff - i; omega) z3 (only_t p1 z4) (only_t p2 z5) (by show i + 1 ≤ ff; omega)
        · have n6 : ¬ nI kd = 6 := fun e1 => hk6 ((nI_eq (b := 6) (by omega) (by omega)).mp e1)
          obtain ⟨z1, z2, z3, z4, z5, z6, z7, z8, z9, z10⟩ := id hXb
          obtain ⟨bb, r4, I4, J4, c1, c2, c3, c4, c5, c6, c7⟩ := do_R (w := w) (K := K) (K2 := K2) h z1 z2 z3 z4 z5 (show k < 30 by omega) s1 s2 (by omega) s8
          rw [if_neg n6, if_neg n6, lc_87 h, c1, ly_cI, lc_87 h, lr_108_29 h, lr_108_27 h, lr_454 h (by omega), lc_108 h, c2, ly_cI, lg_108 h]
          have o3 : only PX I3 I4 := only_m c6 (fun _ _ a => Or.inl a)
          have o4 : only QX J3 J4 := only_m c7 (fun _ _ a => Or.inl a)
          unfold X6_countStep X6_countStep_j27 X9_goes_j121 X9_goes_j140
          cases bb
          · rw [ib0, lg_87 h, lp_87 h, ly_cV, ib0, lp_108 h, lg_108 h, ib0, lp_108 h]
            refine onw _ _ r4 (b2 + 1) (XR_n (bb := false) (J := J3) (I1 := I4) (J1 := J4) hXb c3 c4 c5 c6 c7 ?_) (only_u o3 (by unfold PX; omega)) (only_u (only_u o4 (by unfold QX; omega)) (by unfold QX; omega))
            simp only [Bool.false_eq_true, if_false]
            rw [ly_uE (I := J4), if_neg (by omega)]
          · rw [ib1, lg_87 h, lp_87 h, ly_cV, ib1, lp_108 h, lg_108 h, ib1, lp_108 h]
            refine onw _ _ r4 (b2 + 1) (XR_n (bb := true) (J := J3) (I1 := I4) (J1 := J4) hXb c3 c4 c5 c6 c7 ?_) (only_u o3 (by unfold PX; omega)) (only_u (only_u o4 (by unfold QX; omega)) (by unfold QX; omega))
            simp only [if_true]
            rw [ly_uE (I := J4), if_neg (by omega)]
theorem EX_all (h : ly c S) : ∀ nn e o, o + e ≤ 6 → e < nn → EXh c w S K K2 n wd q lw (X6_doSteps_N nn) (X9_goes_N nn) e o := by
  intro nn
  induction nn with
  | zero => intro e o _ hn; omega
  | succ nn ih =>
    intro e o hoe hn
    exact ex_R h hoe (fun he => ih (e - 1) (o + 1) (by omega) (by omega))
end WKE
