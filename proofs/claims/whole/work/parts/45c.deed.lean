/-! a deed: class and model, whole -/
section DED
variable {c w : Nat} {S : Nat → pmS} {I I1 : Nat → Nat → Int32} {K : Nat → Nat → Int64} {n : Nat} {wd : Nat → Nat} {q : Nat → Nat → Nat} {r : Nat → Int32} {d a : Nat}
theorem rd_su {k j : Nat} {v : Int32} : rd_s (rup r k v) j = if j = k then v.toNatClampNeg else rd_s r j := by
  unfold rd_s rup
  split <;> rfl
theorem rd_sn {k j v : Nat} (hv : v < 2 ^ 31) : rd_s (rup r k (nI v)) j = if j = k then v else rd_s r j := by rw [rd_su, nI_clamp hv]
theorem dk_Wc (hr : dk_W n wd r) {k v : Nat} (hk : k < 4) (hv : v ≤ 999) : dk_W n wd (rup r (6 + k) (nI v)) := by
  obtain ⟨a1, a2, a3, a4⟩ := hr
  refine ⟨fun l hl => ?_, fun l hl => ?_, ?_, ?_⟩
  all_goals rw [rd_sn (by omega)]
  all_goals simp only [rup]
  · rw [if_neg (by omega), if_neg (by omega)]; exact a1 l hl
  · by_cases e : l = k
    · subst e; simp only [if_true]; exact ⟨trivial, hv⟩
    · rw [if_neg (by omega), if_neg (by omega)]; exact a2 l hl
  · rw [if_neg (by omega), if_neg (by omega)]; exact a3
  · rw [if_neg (by omega), if_neg (by omega)]; exact a4
theorem dk_Wa (hr : dk_W n wd r) {v : Nat} (hn : n ≤ 6) (hv : v ≤ n) : dk_W n wd (rup r 11 (nI v)) := by
  obtain ⟨a1, a2, a3, a4⟩ := hr
  refine ⟨fun l hl => ?_, fun l hl => ?_, ?_, ?_⟩
  all_goals rw [rd_sn (by omega)]
  all_goals simp only [rup]
  · rw [if_neg (by omega), if_neg (by omega)]; exact a1 l hl
  · rw [if_neg (by omega), if_neg (by omega)]; exact a2 l hl
  · rw [if_neg (by omega), if_neg (by omega)]; exact a3
  · exact ⟨rfl, hv⟩
theorem dk_Wi (hr : dk_W n wd r) {v : Nat} (hv : v ≤ 200) : dk_W n wd (rup r 10 (nI v)) := by
  obtain ⟨a1, a2, a3, a4⟩ := hr
  refine ⟨fun l hl => ?_, fun l hl => ?_, ?_, ?_⟩
  all_goals rw [rd_sn (by omega)]
  all_goals simp only [rup]
  · rw [if_neg (by omega), if_neg (by omega)]; exact a1 l hl
  · rw [if_neg (by omega), if_neg (by omega)]; exact a2 l hl
  · exact ⟨rfl, hv⟩
  · rw [if_neg (by omega), if_neg (by omega)]; exact a4
theorem dk_Ws (hW : pg_W n wd q) (hr : dk_W n wd r) {k v : Nat} (hk : k < 6) (hv : v < 2 ^ wd k) : dk_W n wd (rup r k (nI v)) := by
  have := pg_pow hW k
  obtain ⟨a1, a2, a3, a4⟩ := hr
  refine ⟨fun l hl => ?_, fun l hl => ?_, ?_, ?_⟩
  all_goals rw [rd_sn (by omega)]
  all_goals simp only [rup]
  · by_cases e : l = k
    · subst e; simp only [if_true]; exact ⟨trivial, hv⟩
    · rw [if_neg (by omega), if_neg (by omega)]; exact a1 l hl
  · rw [if_neg (by omega), if_neg (by omega)]; exact a2 l hl
  · rw [if_neg (by omega), if_neg (by omega)]; exact a3
  · rw [if_neg (by omega), if_neg (by omega)]; exact a4
theorem dk_Wx (hr : dk_W n wd r) {k : Nat} {v : Int32} (hk : 12 ≤ k) : dk_W n wd (rup r k v) := by
  obtain ⟨a1, a2, a3, a4⟩ := hr
  refine ⟨fun l hl => ?_, fun l hl => ?_, ?_, ?_⟩
  all_goals rw [rd_su]
  all_goals simp only [rup]
  · rw [if_neg (by omega), if_neg (by omega)]; exact a1 l hl
  · rw [if_neg (by omega), if_neg (by omega)]; exact a2 l hl
  · rw [if_neg (by omega), if_neg (by omega)]; exact a3
  · rw [if_neg (by omega), if_neg (by omega)]; exact a4
theorem dw_W {x y z : Nat} (hW : pg_W n wd q) (hr : dk_W n wd r) (hx : x < 16) (hy : y < 16) (hz : z < 16) : dk_W n wd (dw_r n wd r x y z) := by
  have hn6 := hW.1
  unfold dw_r
  repeat' split
  · exact hr
  · exact dk_Wc hr (by omega) (by omega)
  · exact dk_Wc hr (by omega) (by have := (hr.2.1 (y % 4) (by omega)).2; omega)
  · have := hr.2.1 (z % 4) (by omega)
    rw [this.1]
    exact dk_Wc hr (by omega) this.2
  · exact dk_Wa hr hn6 (by omega)
  · exact hr
  · exact dk_Wa hr hn6 (by omega)
  · rename_i e
    exact dk_Ws hW hr (by omega) (Nat.xor_lt_two_pow (hr.1 y (by omega)).2 (Nat.pow_lt_pow_right (by omega) e.2))
  · exact hr
  · exact dk_Wa hr hn6 (by omega)
  · exact dk_Wc hr (by omega) (by omega)
theorem dk_C_eq {r1 : Nat → Int32} (h : dk_C I d r) (he : ∀ k, k < 14 → r1 k = r k) : dk_C I d r1 := by
  obtain ⟨a1, a2, a3, a4, a5, a6⟩ := h
  refine ⟨fun l hl => ?_, fun l hl => ?_, ?_, ?_, ?_, ?_⟩
  · rw [he l (by omega)]; exact a1 l hl
  · rw [he (6 + l) (by omega)]; exact a2 l hl
  · rw [he 10 (by omega)]; exact a3
  · rw [he 11 (by omega)]; exact a4
  · rw [he 12 (by omega)]; exact a5
  · rw [he 13 (by omega)]; exact a6
theorem dd_wl (hW : pg_W n wd q) {s : Nat → Nat} {l k : Nat} (hl : l < n) : dd_w wd s q l k < 16 := by
  unfold dd_w
  cases h : rd_pf (s l) k (wd l) 0 0 with
  | none => simp only; omega
  | some i =>
    have := rd_pfl _ _ _ h
    exact hW.2.2.2 l i hl (by omega)
theorem dd_lnl {s : Nat → Nat} : ∀ (k l : Nat) {p : Nat}, dd_ln wd s k l = some p → l ≤ p ∧ p < l + k
  | 0, l, p, h => by cases h
  | k + 1, l, p, h => by
    simp only [dd_ln] at h
    by_cases e : rd_lf wd s l = 0
    · rw [if_pos e] at h
      have := dd_lnl k (l + 1) h
      omega
    · rw [if_neg e] at h
      simp only [Option.some.injEq] at h
      omega
theorem dd_W (hW : pg_W n wd q) (hr : dk_W n wd r) : dk_W n wd (dd n wd q r).2 := by
  have hn6 := hW.1
  unfold dd
  have ha := hr.2.2.2.2
  cases h : dd_ln wd (rd_s r) (n - rd_s r 11) (rd_s r 11) with
  | none => exact dk_Wa hr hn6 (Nat.le_refl _)
  | some l =>
    have := dd_lnl _ _ h
    have hl : l < n := by omega
    exact dw_W hW (dk_Wx (dk_Wa hr hn6 (by omega)) (by omega)) (dd_wl hW hl) (dd_wl hW hl) (dd_wl hW hl)
theorem dd_wz (hW : pg_W n wd q) (hr : dk_W n wd r) {l : Nat} (hl : l < n) : let L := 2 ^ wd l - 1 - rd_s r l
    (L < 256 ∧ rd_nx L < 256 ∧ rd_nx (rd_nx L) < 256) ∧ (L ≠ 0 → rd_z L < wd l) ∧ (rd_nx L ≠ 0 → rd_z (rd_nx L) < wd l) ∧ (rd_nx (rd_nx L) ≠ 0 → rd_z (rd_nx (rd_nx L)) < wd l) ∧ rd_wz q l L = dd_w wd (rd_s r) q l 0 ∧ rd_wz q l (rd_nx L) = dd_w wd (rd_s r) q l 1 ∧ rd_wz q l (rd_nx (rd_nx L)) = dd_w wd (rd_s r) q l 2 ∧ (rd_lf wd (rd_s r) l = 0 ↔ L = 0) := by
  intro L
  have hn6 := hW.1
  have hw8 := pg_wd hW l
  have hp := pg_pow hW l
  obtain ⟨z0, z1, z2, z3⟩ := rd_z3 (wd l) (by omega) _ (hr.1 l (by omega)).2
  have hL : L < 256 := by show 2 ^ wd l - 1 - rd_s r l < 256; omega
  have n1 := (rd_z2 L hL).2
  have n2 := (rd_z2 (rd_nx L) n1).2
  have key : ∀ (k X : Nat), rd_pf (rd_s r l) k (wd l) 0 0 = rd_ov X → (X ≠ 0 → rd_z X < wd l) ∧ rd_wz q l X = dd_w wd (rd_s r) q l k := by
    intro k X hX
    unfold rd_wz dd_w
    rw [hX]
    unfold rd_ov at hX ⊢
    by_cases h0 : X = 0
    · simp [h0]
    · rw [if_neg h0] at hX
      have := rd_pfl _ _ _ hX
      simp only [if_neg h0]
      exact ⟨fun _ => by omega, trivial⟩
  obtain ⟨k0, k0'⟩ := key 0 L z0
  obtain ⟨k1, k1'⟩ := key 1 (rd_nx L) z1
  obtain ⟨k2, k2'⟩ := key 2 (rd_nx (rd_nx L)) z2
  exact ⟨⟨hL, n1, n2⟩, k0, k1, k2, k0', k1', k2', z3⟩
theorem dd_C (h : ly c S) (hP : pg_C I n wd q) (hd : dk d) (hC : dk_C I d r) (hr : dk_W n wd r) :
    ∃ I1, X0_doDeed d (c, w, S, I, K) = pm_oI (ly_b (dd n wd q r).1) (c, w, S, I1, K) ∧ dk_C I1 d (dd n wd q r).2 ∧ dfr d I I1 := by
  have hW := hP.1
  have hn6 := hW.1
  have ha := hr.2.2.2
  have hdl := dk_lt hd
  unfold X0_doDeed
  refine ly_loop (fun i (A : Nat → Nat → Int32) => ((c, w, S, A, K) : pmM)) n (fun i A => dk_C A d (rup r 11 (nI i)) ∧ dfr d I A ∧ dd_ln wd (rd_s r) (n - i) i = dd_ln wd (rd_s r) (n - rd_s r 11) (rd_s r 11)) (fun R => ∃ I1, R = pm_oI (ly_b (dd n wd q r).1) (c, w, S, I1, K) ∧ dk_C I1 d (dd n wd q r).2 ∧ dfr d I I1) ?_ ?_ pm_N (rd_s r 11) I ⟨dk_C_eq hC (fun k _ => ?_), dfr_r, rfl⟩ ha.2 (by rw [pm_NE]; omega)
  · intro again i A hi hQ hk
    obtain ⟨q1, q2, q3⟩ := hQ
    have hr1 : dk_W n wd (rup r 11 (nI i)) := dk_Wa hr hn6 (by omega)
    have hPA := pg_C_dfr hd hP q2
    have e1 := hPA.2.1
    have es : ∀ l, l < n → rd_s (rup r 11 (nI i)) l = rd_s r l := fun l hl => by rw [rd_sn (by omega), if_neg (by omega)]
    have e4 : A d 4 = nI i := q1.2.2.2.1
    have e7 : A d 7 = r 13 := q1.2.2.2.2.2
    have hlb := rd_leftBits (w := w) (K := K) h hPA hd q1 hr1 hi
    rw [es i hi] at hlb
    obtain ⟨⟨l1, l2, l3⟩, f1, f2, f3, g1, g2, g3, g4⟩ := dd_wz hW hr hi
    rw [show n - i = (n - (i + 1)) + 1 by omega] at q3
    simp only [dd_ln] at q3
    unfold X0_doDeed_L0
    by_cases h0 : 2 ^ wd i - 1 - rd_s r i = 0
    · rw [if_pos (g4.mpr h0)] at q3
      have := hk (ly_u A d 4 (nI (i + 1))) ⟨dk_C_eq (dk_C_u (v := nI (i + 1)) q1 (k := 0)).1 (fun k _ => by simp only [rup]; split <;> rfl), dfr_u q2 (by omega), q3⟩
      simp (disch := first | assumption | omega) only [ly_cI, ly_cIx, ly_cL, ly_cLx, ly_cV, ly_cVx, ly_bI, ly_bL, ly_n0n, ly_n1n, ly_nb, ly_bzn, ly_bon, nI_add, pk_mul, nI_leI, nI_ltI, nI_eq, if_pos, if_neg, ly_uE, ly_b1n, ly_b0n, if_true, if_false, eq_self, Bool.false_eq_true, Bool.true_eq_false, decide_true, decide_false, Nat.zero_add, nl_0, nl_1, nl_2, nl_3, nl_4, nl_5, nl_6, nl_7, nl_8, nl_9, nl_10, nl_11, nl_12, nl_13, nl_14, nl_15, nl_16, nl_17, nl_18, nl_19, nl_20, nl_21, nl_22, nl_23, nl_24, nl_25, nl_26, nl_27, nl_28, nl_29, nl_30, nl_31, nl_32, nl_40, nl_41, nl_42, nl_43, nl_44, nl_45, nl_47, nl_48, nl_57, nl_59, nl_60, nl_80, nl_91, nl_93, nl_96, nl_97, nl_99, nl_100, nl_122, nl_150, nl_160, nl_200, nl_208, nl_224, nl_238, nl_239, nl_255, nl_600, nl_999, nl_1000, nl_9999, nl_100000, nl_12345, nl_1103515245, nl_32767, lr_64_0, lr_64_1, lr_64_2, lr_64_3, lr_64_4, lr_64_5, lr_64_6, lr_64_7, lr_64_8, lr_64_9, lr_64_10, lr_64_11, lr_65_0, lr_67_0, lr_67_1, lr_67_2, lr_71_0, lr_71_1, lr_71_2, lr_75_0, lr_75_1, lr_75_2, lr_79_0, lr_79_1, lr_79_2, lr_83_0, lr_85_0, lr_87_0, lr_87_1, lr_87_2, lr_87_3, lr_87_4, lr_93_0, lr_93_1, lr_93_2, lr_93_3, lr_96_0, lr_96_1, lr_96_2, lr_96_3, lr_99_0, lr_99_1, lr_102_0, lr_102_1, lr_102_2, lr_102_3, lr_102_4, lr_102_5, lg_64, lp_64, lc_64, lg_65, lp_65, lc_65, lg_67, lp_67, lc_67, lg_71, lp_71, lc_71, lg_75, lp_75, lc_75, lg_79, lp_79, lc_79, lg_83, lp_83, lc_83, lg_85, lp_85, lc_85, lg_87, lp_87, lc_87, lg_93, lp_93, lc_93, lg_96, lp_96, lc_96, lg_99, lp_99, lc_99, lg_102, lp_102, lc_102, ld_1, ll_1, ld_2, ll_2, ld_33, ll_33, ld_34, ll_34, ld_35, ll_35, ld_36, ll_36, ld_37, ll_37, ld_38, ll_38, ld_39, ll_39, ld_40, ll_40, ld_41, ll_41, ld_42, ll_42, ld_43, ll_43, ld_44, ll_44, ld_45, ll_45, ld_46, ll_46, ld_47, ll_47, ld_48, ll_48, ld_49, ll_49, ld_50, ll_50, ld_51, ll_51, ld_66, ls_66, ll_66, ld_68, ls_68, ll_68, ld_69, ls_69, ll_69, ld_70, ls_70, ll_70, ld_72, ls_72, ll_72, ld_73, ls_73, ll_73, ld_74, ls_74, ll_74, ld_76, ls_76, ll_76, ld_77, ls_77, ll_77, ld_78, ls_78, ll_78, ld_80, ls_80, ll_80, ld_81, ls_81, ll_81, ld_82, ls_82, ll_82, ld_84, ls_84, ll_84, ld_86, ls_86, ll_86, ld_88, ls_88, ll_88, ld_89, ls_89, ll_89, ld_90, ls_90, ll_90, ld_91, ls_91, ll_91, ld_92, ls_92, ll_92, ld_94, ls_94, ll_94, ld_95, ls_95, ll_95, ld_97, ls_97, ll_97, ld_98, ls_98, ll_98, ld_100, ls_100, ll_100, ld_101, ls_101, ll_101, ld_103, ls_103, ld_104, ls_104, ld_105, ls_105, ll_105, ld_106, ls_106, ld_107, ls_107, ll_107, lk_0, lk_1, lk_2, lk_3, lk_g, lk_p, lk_c, lk_l1, lk_l2, lk_s1, lk_s2, e4, e1, hlb, h0]
      exact this
    · rw [if_neg (fun e => h0 (g4.mp e))] at q3
      have hdd : dd n wd q r = (true, dd_r n wd r i (dd_w wd (rd_s r) q i 0) (dd_w wd (rd_s r) q i 1) (dd_w wd (rd_s r) q i 2)) := by
        unfold dd
        rw [← q3]
      rw [hdd]
      have q2' : dfr d I (ly_u (ly_u A d 4 (nI (i + 1))) d 7 (r 13 + nI 1)) := dfr_u (dfr_u q2 (by omega)) (by omega)
      have hPB := pg_C_dfr hd hP q2'
      have q1' : dk_C (ly_u (ly_u A d 4 (nI (i + 1))) d 7 (r 13 + nI 1)) d (dd_1 r i) := dk_C_eq (dk_C_u (v := r 13 + nI 1) (dk_C_u (v := nI (i + 1)) q1 (k := 0)).1 (k := 0)).2.2.2.1 (fun k _ => by simp only [rup, dd_1]; by_cases k1 : k = 13 <;> by_cases k2 : k = 11 <;> simp [k1, k2])
      have hr2 : dk_W n wd (dd_1 r i) := dk_Wx (dk_Wa hr hn6 (by omega)) (by omega)
      have es2 : rd_s (dd_1 r i) i = rd_s r i := by unfold dd_1; rw [rd_su, if_neg (by omega), rd_sn (by omega), if_neg (by omega)]
      have hlb2 := rd_leftBits (w := w) (K := K) h hPB hd q1' hr2 hi
      rw [es2] at hlb2
      have w0 := rd_lowest (w := w) (K := K) h hPB hd hi l1 f1
      have w1 := rd_lowest (w := w) (K := K) h hPB hd hi l2 f2
      have w2 := rd_lowest (w := w) (K := K) h hPB hd hi l3 f3
      rw [g1] at w0
      rw [g2] at w1
      rw [g3] at w2
      obtain ⟨I1, d1, d2, d3⟩ := dw_C (w := w) (K := K) h hPB hd q1' hr2 (dd_wl hW hi (s := rd_s r) (k := 0)) (dd_wl hW hi (s := rd_s r) (k := 1)) (dd_wl hW hi (s := rd_s r) (k := 2))
      refine ⟨I1, ?_, d2, dfr_t q2' d3⟩
      unfold X0_doDeed_j38
      simp (disch := first | assumption | omega) only [ly_cI, ly_cIx, ly_cL, ly_cLx, ly_cV, ly_cVx, ly_bI, ly_bL, ly_n0n, ly_n1n, ly_nb, ly_bzn, ly_bon, nI_add, pk_mul, nI_leI, nI_ltI, nI_eq, if_pos, if_neg, ly_uE, ly_b1n, ly_b0n, if_true, if_false, eq_self, Bool.false_eq_true, Bool.true_eq_false, decide_true, decide_false, Nat.zero_add, nl_0, nl_1, nl_2, nl_3, nl_4, nl_5, nl_6, nl_7, nl_8, nl_9, nl_10, nl_11, nl_12, nl_13, nl_14, nl_15, nl_16, nl_17, nl_18, nl_19, nl_20, nl_21, nl_22, nl_23, nl_24, nl_25, nl_26, nl_27, nl_28, nl_29, nl_30, nl_31, nl_32, nl_40, nl_41, nl_42, nl_43, nl_44, nl_45, nl_47, nl_48, nl_57, nl_59, nl_60, nl_80, nl_91, nl_93, nl_96, nl_97, nl_99, nl_100, nl_122, nl_150, nl_160, nl_200, nl_208, nl_224, nl_238, nl_239, nl_255, nl_600, nl_999, nl_1000, nl_9999, nl_100000, nl_12345, nl_1103515245, nl_32767, lr_64_0, lr_64_1, lr_64_2, lr_64_3, lr_64_4, lr_64_5, lr_64_6, lr_64_7, lr_64_8, lr_64_9, lr_64_10, lr_64_11, lr_65_0, lr_67_0, lr_67_1, lr_67_2, lr_71_0, lr_71_1, lr_71_2, lr_75_0, lr_75_1, lr_75_2, lr_79_0, lr_79_1, lr_79_2, lr_83_0, lr_85_0, lr_87_0, lr_87_1, lr_87_2, lr_87_3, lr_87_4, lr_93_0, lr_93_1, lr_93_2, lr_93_3, lr_96_0, lr_96_1, lr_96_2, lr_96_3, lr_99_0, lr_99_1, lr_102_0, lr_102_1, lr_102_2, lr_102_3, lr_102_4, lr_102_5, lg_64, lp_64, lc_64, lg_65, lp_65, lc_65, lg_67, lp_67, lc_67, lg_71, lp_71, lc_71, lg_75, lp_75, lc_75, lg_79, lp_79, lc_79, lg_83, lp_83, lc_83, lg_85, lp_85, lc_85, lg_87, lp_87, lc_87, lg_93, lp_93, lc_93, lg_96, lp_96, lc_96, lg_99, lp_99, lc_99, lg_102, lp_102, lc_102, ld_1, ll_1, ld_2, ll_2, ld_33, ll_33, ld_34, ll_34, ld_35, ll_35, ld_36, ll_36, ld_37, ll_37, ld_38, ll_38, ld_39, ll_39, ld_40, ll_40, ld_41, ll_41, ld_42, ll_42, ld_43, ll_43, ld_44, ll_44, ld_45, ll_45, ld_46, ll_46, ld_47, ll_47, ld_48, ll_48, ld_49, ll_49, ld_50, ll_50, ld_51, ll_51, ld_66, ls_66, ll_66, ld_68, ls_68, ll_68, ld_69, ls_69, ll_69, ld_70, ls_70, ll_70, ld_72, ls_72, ll_72, ld_73, ls_73, ll_73, ld_74, ls_74, ll_74, ld_76, ls_76, ll_76, ld_77, ls_77, ll_77, ld_78, ls_78, ll_78, ld_80, ls_80, ll_80, ld_81, ls_81, ll_81, ld_82, ls_82, ll_82, ld_84, ls_84, ll_84, ld_86, ls_86, ll_86, ld_88, ls_88, ll_88, ld_89, ls_89, ll_89, ld_90, ls_90, ll_90, ld_91, ls_91, ll_91, ld_92, ls_92, ll_92, ld_94, ls_94, ll_94, ld_95, ls_95, ll_95, ld_97, ls_97, ll_97, ld_98, ls_98, ll_98, ld_100, ls_100, ll_100, ld_101, ls_101, ll_101, ld_103, ls_103, ld_104, ls_104, ld_105, ls_105, ll_105, ld_106, ls_106, ld_107, ls_107, ll_107, lk_0, lk_1, lk_2, lk_3, lk_g, lk_p, lk_c, lk_l1, lk_l2, lk_s1, lk_s2, e4, e7, e1, hlb, hlb2, (rd_z2 _ l1).1, (rd_z2 _ l2).1, w0, w1, w2, d1, Nat.reduceEqDiff, and_false]
  · intro again A hQ
    obtain ⟨q1, q2, q3⟩ := hQ
    have hPA := pg_C_dfr hd hP q2
    have e1 := hPA.2.1
    have e4 : A d 4 = nI n := q1.2.2.2.1
    rw [Nat.sub_self] at q3
    have hdd : dd n wd q r = (false, rup r 11 (nI n)) := by
      unfold dd
      rw [← q3]
      rfl
    rw [hdd]
    refine ⟨A, ?_, q1, q2⟩
    unfold X0_doDeed_L0 X0_doDeed_j38
    simp (disch := first | assumption | omega) only [ly_cI, ly_cIx, ly_cL, ly_cLx, ly_cV, ly_cVx, ly_bI, ly_bL, ly_n0n, ly_n1n, ly_nb, ly_bzn, ly_bon, nI_add, pk_mul, nI_leI, nI_ltI, nI_eq, if_pos, if_neg, ly_uE, ly_b1n, ly_b0n, if_true, if_false, eq_self, Bool.false_eq_true, Bool.true_eq_false, decide_true, decide_false, Nat.zero_add, nl_0, nl_1, nl_2, nl_3, nl_4, nl_5, nl_6, nl_7, nl_8, nl_9, nl_10, nl_11, nl_12, nl_13, nl_14, nl_15, nl_16, nl_17, nl_18, nl_19, nl_20, nl_21, nl_22, nl_23, nl_24, nl_25, nl_26, nl_27, nl_28, nl_29, nl_30, nl_31, nl_32, nl_40, nl_41, nl_42, nl_43, nl_44, nl_45, nl_47, nl_48, nl_57, nl_59, nl_60, nl_80, nl_91, nl_93, nl_96, nl_97, nl_99, nl_100, nl_122, nl_150, nl_160, nl_200, nl_208, nl_224, nl_238, nl_239, nl_255, nl_600, nl_999, nl_1000, nl_9999, nl_100000, nl_12345, nl_1103515245, nl_32767, lr_64_0, lr_64_1, lr_64_2, lr_64_3, lr_64_4, lr_64_5, lr_64_6, lr_64_7, lr_64_8, lr_64_9, lr_64_10, lr_64_11, lr_65_0, lr_67_0, lr_67_1, lr_67_2, lr_71_0, lr_71_1, lr_71_2, lr_75_0, lr_75_1, lr_75_2, lr_79_0, lr_79_1, lr_79_2, lr_83_0, lr_85_0, lr_87_0, lr_87_1, lr_87_2, lr_87_3, lr_87_4, lr_93_0, lr_93_1, lr_93_2, lr_93_3, lr_96_0, lr_96_1, lr_96_2, lr_96_3, lr_99_0, lr_99_1, lr_102_0, lr_102_1, lr_102_2, lr_102_3, lr_102_4, lr_102_5, lg_64, lp_64, lc_64, lg_65, lp_65, lc_65, lg_67, lp_67, lc_67, lg_71, lp_71, lc_71, lg_75, lp_75, lc_75, lg_79, lp_79, lc_79, lg_83, lp_83, lc_83, lg_85, lp_85, lc_85, lg_87, lp_87, lc_87, lg_93, lp_93, lc_93, lg_96, lp_96, lc_96, lg_99, lp_99, lc_99, lg_102, lp_102, lc_102, ld_1, ll_1, ld_2, ll_2, ld_33, ll_33, ld_34, ll_34, ld_35, ll_35, ld_36, ll_36, ld_37, ll_37, ld_38, ll_38, ld_39, ll_39, ld_40, ll_40, ld_41, ll_41, ld_42, ll_42, ld_43, ll_43, ld_44, ll_44, ld_45, ll_45, ld_46, ll_46, ld_47, ll_47, ld_48, ll_48, ld_49, ll_49, ld_50, ll_50, ld_51, ll_51, ld_66, ls_66, ll_66, ld_68, ls_68, ll_68, ld_69, ls_69, ll_69, ld_70, ls_70, ll_70, ld_72, ls_72, ll_72, ld_73, ls_73, ll_73, ld_74, ls_74, ll_74, ld_76, ls_76, ll_76, ld_77, ls_77, ll_77, ld_78, ls_78, ll_78, ld_80, ls_80, ll_80, ld_81, ls_81, ll_81, ld_82, ls_82, ll_82, ld_84, ls_84, ll_84, ld_86, ls_86, ll_86, ld_88, ls_88, ll_88, ld_89, ls_89, ll_89, ld_90, ls_90, ll_90, ld_91, ls_91, ll_91, ld_92, ls_92, ll_92, ld_94, ls_94, ll_94, ld_95, ls_95, ll_95, ld_97, ls_97, ll_97, ld_98, ls_98, ll_98, ld_100, ls_100, ll_100, ld_101, ls_101, ll_101, ld_103, ls_103, ld_104, ls_104, ld_105, ls_105, ll_105, ld_106, ls_106, ld_107, ls_107, ll_107, lk_0, lk_1, lk_2, lk_3, lk_g, lk_p, lk_c, lk_l1, lk_l2, lk_s1, lk_s2, e4, e1]
  · simp only [rup]
    split
    · rename_i e
      rw [e]; exact ha.1.symm
    · rfl
end DED
