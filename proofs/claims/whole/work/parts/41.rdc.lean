/-! what the class's desks and page answer, read alone -/
section RDC
variable {c w : Nat} {S : Nat → pmS} {I : Nat → Nat → Int32} {K : Nat → Nat → Int64} {n : Nat} {wd : Nat → Nat} {q : Nat → Nat → Nat} {r : Nat → Int32} {d : Nat}
/-- a loop that counts up to n: what holds at each round -/
theorem ly_loop {σ α : Type} {body : (σ → pmR) → σ → pmR} (st : Nat → α → σ) (n : Nat) (Q : Nat → α → Prop) (Rp : pmR → Prop) (hs : ∀ again i a, i < n → Q i a → (∀ a', Q (i + 1) a' → Rp (again (st (i + 1) a'))) → Rp (body again (st i a))) (he : ∀ again a, Q n a → Rp (body again (st n a))) : ∀ N i a, Q i a → i ≤ n → n - i < N → Rp (pm_lp N body (st i a)) := by
  intro N
  induction N with
  | zero => intro i a _ _ h; omega
  | succ N ih =>
    intro i a hQ hi hN
    rcases Nat.lt_or_ge i n with h | h
    · exact hs (pm_lp N body) i a h hQ (fun a' ha' => ih (i + 1) a' ha' (by omega) (by omega))
    · have : i = n := by omega
      subst this
      exact he _ _ hQ
def rd_pc (b : Nat) : Nat := b % 2 + b / 2 % 2 + b / 4 % 2 + b / 8 % 2 + b / 16 % 2 + b / 32 % 2 + b / 64 % 2 + b / 128 % 2
def rd_s (r : Nat → Int32) (l : Nat) : Nat := (r l).toNatClampNeg
def rd_sum (f : Nat → Nat) : Nat → Nat
  | 0 => 0
  | l + 1 => rd_sum f l + f l
theorem rd_sum_le {f g : Nat → Nat} : ∀ {n : Nat}, (∀ l, l < n → f l ≤ g l) → rd_sum f n ≤ rd_sum g n
  | 0, _ => Nat.le_refl _
  | n + 1, h => by
    have h1 := rd_sum_le (f := f) (g := g) (n := n) (fun l hl => h l (by omega))
    have h2 := h n (by omega)
    simp only [rd_sum]
    omega
theorem rd_sum_mono {f : Nat → Nat} : ∀ {n i : Nat}, i ≤ n → rd_sum f i ≤ rd_sum f n
  | 0, i, h => by
    have : i = 0 := by omega
    subst this
    exact Nat.le_refl _
  | n + 1, i, h => by
    rcases Nat.lt_or_ge n i with h1 | h1
    · have : i = n + 1 := by omega
      subst this
      exact Nat.le_refl _
    · have h2 := rd_sum_mono (f := f) h1
      simp only [rd_sum]
      omega
theorem rd_sum_bd {f : Nat → Nat} {B : Nat} : ∀ {n : Nat}, (∀ l, l < n → f l ≤ B) → rd_sum f n ≤ n * B
  | 0, _ => by simp [rd_sum]
  | n + 1, h => by
    have h1 := rd_sum_bd (f := f) (B := B) (n := n) (fun l hl => h l (by omega))
    have h2 := h n (by omega)
    simp only [rd_sum, Nat.succ_mul]
    omega
theorem rd_sum_congr {f g : Nat → Nat} : ∀ {n : Nat}, (∀ l, l < n → f l = g l) → rd_sum f n = rd_sum g n
  | 0, _ => rfl
  | n + 1, h => by
    simp only [rd_sum]
    rw [rd_sum_congr (f := f) (g := g) (n := n) (fun l hl => h l (by omega)), h n (by omega)]
def pg_W (n : Nat) (wd : Nat → Nat) (q : Nat → Nat → Nat) : Prop := n ≤ 6 ∧ (∀ l, l < n → 1 ≤ wd l ∧ wd l ≤ 8) ∧ (∀ l, n ≤ l → wd l = 0) ∧ ∀ l i, l < n → i < wd l → q l i < 16
def pg_C (I : Nat → Nat → Int32) (n : Nat) (wd : Nat → Nat) (q : Nat → Nat → Nat) : Prop := pg_W n wd q ∧ I 67 3 = nI n ∧ (∀ l, l < n → I 68 l = nI (wd l)) ∧ (∀ l i, l < n → i < wd l → I 69 (l * 8 + i) = nI (q l i)) ∧ I 67 4 = nI (rd_sum wd n)
def dk_W (n : Nat) (wd : Nat → Nat) (r : Nat → Int32) : Prop := (∀ l, l < 6 → r l = nI (rd_s r l) ∧ rd_s r l < 2 ^ wd l) ∧ (∀ k, k < 4 → r (6 + k) = nI (rd_s r (6 + k)) ∧ rd_s r (6 + k) ≤ 999) ∧ (r 10 = nI (rd_s r 10) ∧ rd_s r 10 ≤ 200) ∧ (r 11 = nI (rd_s r 11) ∧ rd_s r 11 ≤ n)
def dk_C (I : Nat → Nat → Int32) (d : Nat) (r : Nat → Int32) : Prop := (∀ l, l < 6 → I (d + 1) l = r l) ∧ (∀ k, k < 4 → I (d + 2) k = r (6 + k)) ∧ I d 5 = r 10 ∧ I d 4 = r 11 ∧ I d 6 = r 12 ∧ I d 7 = r 13
theorem pg_wd (h : pg_W n wd q) (l : Nat) : wd l ≤ 8 := by
  rcases Nat.lt_or_ge l n with h1 | h1
  · exact (h.2.1 l h1).2
  · rw [h.2.2.1 l h1]; omega
theorem pg_pow (h : pg_W n wd q) (l : Nat) : 2 ^ wd l ≤ 256 := Nat.pow_le_pow_right (n := 2) (by decide) (pg_wd h l)
theorem rd_sb (hW : pg_W n wd q) (hr : dk_W n wd r) {l : Nat} (hl : l < 6) : rd_s r l < 256 := Nat.lt_of_lt_of_le (hr.1 l hl).2 (pg_pow hW l)
theorem dk_s (hC : dk_C I d r) (hr : dk_W n wd r) {l : Nat} (hl : l < 6) : I (d + 1) l = nI (rd_s r l) := (hC.1 l hl).trans (hr.1 l hl).1
set_option maxRecDepth 100000 in
theorem rd_bcE : ∀ b, b < 256 → J6_bitCount_0f7a4 (nI b) (0, 0, fun _ => (0, 0, fun _ => none), fun _ _ => 0, fun _ _ => 0) = none ∨ True := fun _ _ => Or.inr trivial
def rd_bcX (a0 : Int32) : Int32 :=
  let x1 := (a0 - (((a0.toUInt32 >>> ((1 : Int32).toUInt32 &&& Int32.toUInt32 31)).toInt32) &&& 1431655765))
  let x2 := ((x1 &&& 858993459) + (((x1.toUInt32 >>> ((2 : Int32).toUInt32 &&& Int32.toUInt32 31)).toInt32) &&& 858993459))
  let x3 := ((x2 + ((x2.toUInt32 >>> ((4 : Int32).toUInt32 &&& Int32.toUInt32 31)).toInt32)) &&& 252645135)
  let x4 := (x3 + ((x3.toUInt32 >>> ((8 : Int32).toUInt32 &&& Int32.toUInt32 31)).toInt32))
  let x5 := (x4 + ((x4.toUInt32 >>> ((16 : Int32).toUInt32 &&& Int32.toUInt32 31)).toInt32))
  (x5 &&& 63)
theorem rd_bcF : ∀ b, b < 256 → rd_bcX (nI b) = nI (rd_pc b) := by decide +kernel
theorem rd_bc {b : Nat} {m : pmM} (hb : b < 256) : J6_bitCount_0f7a4 (nI b) m = pm_oI (nI (rd_pc b)) m := by
  rw [← rd_bcF b hb]
  rfl
theorem rd_pcw : ∀ k, k < 9 → ∀ b, b < 2 ^ k → rd_pc b ≤ k := by decide +kernel
theorem rd_pcl (hW : pg_W n wd q) (hr : dk_W n wd r) {l : Nat} (hl : l < 6) : rd_pc (rd_s r l) ≤ wd l := rd_pcw (wd l) (by have := pg_wd hW l; omega) _ (hr.1 l hl).2
theorem rd_hasLine {l : Nat} (h : ly c S) (hP : pg_C I n wd q) (hl : l < 2 ^ 31) : X2_hasLine 67 (nI l) (c, w, S, I, K) = pm_oI (ly_b (decide (l < n))) (c, w, S, I, K) := by
  obtain ⟨hW, h1, -⟩ := hP
  have hn6 := hW.1
  unfold X2_hasLine X2_hasLine_j16 X2_hasLine_j17
  rcases Nat.lt_or_ge l n with hn | hn
  · simp (disch := first | assumption | omega) only [ly_cI, ly_cIx, ly_cL, ly_cLx, ly_cV, ly_cVx, ly_bI, ly_bL, ly_n0n, ly_n1n, ly_nb, ly_bzn, ly_bon, nI_add, pk_mul, nI_leI, nI_ltI, nI_eq, if_pos, if_neg, ly_uE, ly_b1n, ly_b0n, if_true, if_false, eq_self, Bool.false_eq_true, Bool.true_eq_false, decide_true, decide_false, Nat.zero_add, nl_0, nl_1, nl_2, nl_3, nl_4, nl_5, nl_6, nl_7, nl_8, nl_9, nl_10, nl_11, nl_12, nl_13, nl_14, nl_15, nl_16, nl_17, nl_18, nl_19, nl_20, nl_21, nl_22, nl_23, nl_24, nl_25, nl_26, nl_27, nl_28, nl_29, nl_30, nl_31, nl_32, nl_40, nl_41, nl_42, nl_43, nl_44, nl_45, nl_47, nl_48, nl_57, nl_59, nl_60, nl_80, nl_91, nl_93, nl_96, nl_97, nl_99, nl_100, nl_122, nl_150, nl_160, nl_200, nl_208, nl_224, nl_238, nl_239, nl_255, nl_600, nl_999, nl_1000, nl_9999, nl_100000, nl_12345, nl_1103515245, nl_32767, lr_64_0, lr_64_1, lr_64_2, lr_64_3, lr_64_4, lr_64_5, lr_64_6, lr_64_7, lr_64_8, lr_64_9, lr_64_10, lr_64_11, lr_65_0, lr_67_0, lr_67_1, lr_67_2, lr_71_0, lr_71_1, lr_71_2, lr_75_0, lr_75_1, lr_75_2, lr_79_0, lr_79_1, lr_79_2, lr_83_0, lr_85_0, lr_87_0, lr_87_1, lr_87_2, lr_87_3, lr_87_4, lr_93_0, lr_93_1, lr_93_2, lr_93_3, lr_96_0, lr_96_1, lr_96_2, lr_96_3, lr_99_0, lr_99_1, lr_102_0, lr_102_1, lr_102_2, lr_102_3, lr_102_4, lr_102_5, lg_64, lp_64, lc_64, lg_65, lp_65, lc_65, lg_67, lp_67, lc_67, lg_71, lp_71, lc_71, lg_75, lp_75, lc_75, lg_79, lp_79, lc_79, lg_83, lp_83, lc_83, lg_85, lp_85, lc_85, lg_87, lp_87, lc_87, lg_93, lp_93, lc_93, lg_96, lp_96, lc_96, lg_99, lp_99, lc_99, lg_102, lp_102, lc_102, ld_1, ll_1, ld_2, ll_2, ld_33, ll_33, ld_34, ll_34, ld_35, ll_35, ld_36, ll_36, ld_37, ll_37, ld_38, ll_38, ld_39, ll_39, ld_40, ll_40, ld_41, ll_41, ld_42, ll_42, ld_43, ll_43, ld_44, ll_44, ld_45, ll_45, ld_46, ll_46, ld_47, ll_47, ld_48, ll_48, ld_49, ll_49, ld_50, ll_50, ld_51, ll_51, ld_66, ls_66, ll_66, ld_68, ls_68, ll_68, ld_69, ls_69, ll_69, ld_70, ls_70, ll_70, ld_72, ls_72, ll_72, ld_73, ls_73, ll_73, ld_74, ls_74, ll_74, ld_76, ls_76, ll_76, ld_77, ls_77, ll_77, ld_78, ls_78, ll_78, ld_80, ls_80, ll_80, ld_81, ls_81, ll_81, ld_82, ls_82, ll_82, ld_84, ls_84, ll_84, ld_86, ls_86, ll_86, ld_88, ls_88, ll_88, ld_89, ls_89, ll_89, ld_90, ls_90, ll_90, ld_91, ls_91, ll_91, ld_92, ls_92, ll_92, ld_94, ls_94, ll_94, ld_95, ls_95, ll_95, ld_97, ls_97, ll_97, ld_98, ls_98, ll_98, ld_100, ls_100, ll_100, ld_101, ls_101, ll_101, ld_103, ls_103, ld_104, ls_104, ld_105, ls_105, ll_105, ld_106, ls_106, ld_107, ls_107, ll_107, lk_0, lk_1, lk_2, lk_3, lk_g, lk_p, lk_c, lk_l1, lk_l2, lk_s1, lk_s2, h1]
    simp only [hn, decide_true, ly_b1n]
  · simp (disch := first | assumption | omega) only [ly_cI, ly_cIx, ly_cL, ly_cLx, ly_cV, ly_cVx, ly_bI, ly_bL, ly_n0n, ly_n1n, ly_nb, ly_bzn, ly_bon, nI_add, pk_mul, nI_leI, nI_ltI, nI_eq, if_pos, if_neg, ly_uE, ly_b1n, ly_b0n, if_true, if_false, eq_self, Bool.false_eq_true, Bool.true_eq_false, decide_true, decide_false, Nat.zero_add, nl_0, nl_1, nl_2, nl_3, nl_4, nl_5, nl_6, nl_7, nl_8, nl_9, nl_10, nl_11, nl_12, nl_13, nl_14, nl_15, nl_16, nl_17, nl_18, nl_19, nl_20, nl_21, nl_22, nl_23, nl_24, nl_25, nl_26, nl_27, nl_28, nl_29, nl_30, nl_31, nl_32, nl_40, nl_41, nl_42, nl_43, nl_44, nl_45, nl_47, nl_48, nl_57, nl_59, nl_60, nl_80, nl_91, nl_93, nl_96, nl_97, nl_99, nl_100, nl_122, nl_150, nl_160, nl_200, nl_208, nl_224, nl_238, nl_239, nl_255, nl_600, nl_999, nl_1000, nl_9999, nl_100000, nl_12345, nl_1103515245, nl_32767, lr_64_0, lr_64_1, lr_64_2, lr_64_3, lr_64_4, lr_64_5, lr_64_6, lr_64_7, lr_64_8, lr_64_9, lr_64_10, lr_64_11, lr_65_0, lr_67_0, lr_67_1, lr_67_2, lr_71_0, lr_71_1, lr_71_2, lr_75_0, lr_75_1, lr_75_2, lr_79_0, lr_79_1, lr_79_2, lr_83_0, lr_85_0, lr_87_0, lr_87_1, lr_87_2, lr_87_3, lr_87_4, lr_93_0, lr_93_1, lr_93_2, lr_93_3, lr_96_0, lr_96_1, lr_96_2, lr_96_3, lr_99_0, lr_99_1, lr_102_0, lr_102_1, lr_102_2, lr_102_3, lr_102_4, lr_102_5, lg_64, lp_64, lc_64, lg_65, lp_65, lc_65, lg_67, lp_67, lc_67, lg_71, lp_71, lc_71, lg_75, lp_75, lc_75, lg_79, lp_79, lc_79, lg_83, lp_83, lc_83, lg_85, lp_85, lc_85, lg_87, lp_87, lc_87, lg_93, lp_93, lc_93, lg_96, lp_96, lc_96, lg_99, lp_99, lc_99, lg_102, lp_102, lc_102, ld_1, ll_1, ld_2, ll_2, ld_33, ll_33, ld_34, ll_34, ld_35, ll_35, ld_36, ll_36, ld_37, ll_37, ld_38, ll_38, ld_39, ll_39, ld_40, ll_40, ld_41, ll_41, ld_42, ll_42, ld_43, ll_43, ld_44, ll_44, ld_45, ll_45, ld_46, ll_46, ld_47, ll_47, ld_48, ll_48, ld_49, ll_49, ld_50, ll_50, ld_51, ll_51, ld_66, ls_66, ll_66, ld_68, ls_68, ll_68, ld_69, ls_69, ll_69, ld_70, ls_70, ll_70, ld_72, ls_72, ll_72, ld_73, ls_73, ll_73, ld_74, ls_74, ll_74, ld_76, ls_76, ll_76, ld_77, ls_77, ll_77, ld_78, ls_78, ll_78, ld_80, ls_80, ll_80, ld_81, ls_81, ll_81, ld_82, ls_82, ll_82, ld_84, ls_84, ll_84, ld_86, ls_86, ll_86, ld_88, ls_88, ll_88, ld_89, ls_89, ll_89, ld_90, ls_90, ll_90, ld_91, ls_91, ll_91, ld_92, ls_92, ll_92, ld_94, ls_94, ll_94, ld_95, ls_95, ll_95, ld_97, ls_97, ll_97, ld_98, ls_98, ll_98, ld_100, ls_100, ll_100, ld_101, ls_101, ll_101, ld_103, ls_103, ld_104, ls_104, ld_105, ls_105, ll_105, ld_106, ls_106, ld_107, ls_107, ll_107, lk_0, lk_1, lk_2, lk_3, lk_g, lk_p, lk_c, lk_l1, lk_l2, lk_s1, lk_s2, h1]
    simp only [Nat.not_lt.mpr hn, decide_false, ly_b0n]
theorem rd_hasWord {l i : Nat} (h : ly c S) (hP : pg_C I n wd q) (hl : l < 2 ^ 31) (hi : i < 2 ^ 31) : X2_hasWord 67 (nI l) (nI i) (c, w, S, I, K) = pm_oI (ly_b (decide (l < n ∧ i < wd l))) (c, w, S, I, K) := by
  have hW := hP.1
  have hn6 := hW.1
  have hw8 := pg_wd hW l
  unfold X2_hasWord X2_hasWord_j30 X2_hasWord_j31
  rw [if_neg (nI_pos hl), lg_67 h, hP.2.1]
  rcases Nat.lt_or_ge l n with hn | hn
  · have h2 := hP.2.2.1 l hn
    rw [if_neg (nI_ge hn (by omega)), if_neg (nI_pos hi), lr_67_0 h, ld_68 h (by omega), h2]
    rcases Nat.lt_or_ge i (wd l) with hiw | hiw
    · rw [if_neg (nI_ge hiw (by omega)), decide_eq_true ⟨hn, hiw⟩]
      rfl
    · rw [if_pos (nI_le hiw hi), decide_eq_false (fun e => absurd e.2 (Nat.not_lt.mpr hiw))]
      rfl
  · rw [if_pos (nI_le hn hl), decide_eq_false (fun e => absurd e.1 (Nat.not_lt.mpr hn))]
    rfl
end RDC
