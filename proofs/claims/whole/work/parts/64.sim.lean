/-! small answers: longest, reads -/
section SIQ
variable {c w : Nat} {S : Nat → pmS} {I I1 I2 J : Nat → Nat → Int32} {K K1 : Nat → Nat → Int64} {n : Nat} {wd : Nat → Nat} {q : Nat → Nat → Nat} {r : Nat → Int32} {a : Nat} {se : Nat → Nat} {W G d : Nat}
def oe : Option Nat → Int32
  | none => -1
  | some b => nI b
def lgs (f : Nat → Nat) : Nat → Option Nat
  | 0 => none
  | k + 1 => match lgs f k with
    | none => some k
    | some b => if f k ≤ f b then some b else some k
theorem lgs_l {f : Nat → Nat} : ∀ {k b : Nat}, lgs f k = some b → b < k
  | 0, b, h => by cases h
  | k + 1, b, h => by
    simp only [lgs] at h
    cases e : lgs f k with
    | none => rw [e] at h; simp only [Option.some.injEq] at h; omega
    | some b2 =>
      rw [e] at h
      have := lgs_l e
      simp only at h
      split at h <;> simp only [Option.some.injEq] at h <;> omega
theorem m1n {b : Nat} (hb : b < 2 ^ 31) : ¬ nI b = -1 := fun e => by
  have := (ng_eqp (a := 1) (by omega) hb).mp e
  omega
theorem m1l {b : Nat} (hb : b < 2 ^ 31) : ¬ nI b ≤ -1 := fun e => by
  have := (ng_ple (a := 1) (by omega) hb).mp e
  omega
theorem m11 {A B : pmR} : (if (-1 : Int32) = -1 then A else B) = A := if_pos rfl
theorem bool_no {y : Int32} (hy : ¬ (0 ≤ y ∧ y ≤ 1)) : ¬ y = 0 ∧ ¬ y = 1 := ⟨fun e => hy (by subst e; decide), fun e => hy (by subst e; decide)⟩
theorem ca_longest (y : Int32) (h : ly c S) (hJ : JJ I n wd q r a se W G) : ag isI (I 0) c w S (fun k => k) (X8_longest 64 y (c, w, S, I, K)) (X9_longest 108 y) := by
  obtain ⟨hPC, hPM, hDC, hDM, hr, -⟩ := id hJ
  have hn6 := hPC.1.1
  by_cases hy : 0 ≤ y ∧ y ≤ 1
  · obtain ⟨k, hk, rfl⟩ := nI_of2 (n := 1) rfl (nI_lt0 hy.1) hy.2
    have hkk : k = 0 ∨ k = 1 := by omega
    refine ag_ro (v := .int (if k = 0 then oe (lgs (rd_lf wd (rd_s r)) n) else oe ((lgs (rd_lf wd (rd_s r)) n).map (rd_lf wd (rd_s r))))) (I1 := I) (K1 := K) h hJ ⟨_, rfl⟩ ?_ same_r (fun hJ1 K2 => ⟨ly_u I 108 0 0, K2, ?_, z0', s0, rfl⟩)
    · have e : X8_longest 64 (nI k) (c, w, S, I, K) = pm_lp pm_N (X8_longest_L25 64 (nI k)) (-1, -1, nI 0, (c, w, S, I, K)) := by
        unfold X8_longest X8_longest_j10 X8_longest_j15
        rcases hkk with rfl | rfl
        · rw [n00, lc_64 h, mu_cV1]
          rfl
        · rw [if_neg (show ¬ nI 1 = 0 by decide), if_pos (show nI 1 = 1 from rfl), lc_64 h, mu_cV1]
          rfl
      rw [e]
      refine ly_loop (fun i (_ : Unit) => ((oe ((lgs (rd_lf wd (rd_s r)) i).map (rd_lf wd (rd_s r))), oe (lgs (rd_lf wd (rd_s r)) i), nI i, (c, w, S, I, K)) : Int32 × Int32 × Int32 × pmM)) n (fun i _ => True) (fun R => R = pm_oI (if k = 0 then oe (lgs (rd_lf wd (rd_s r)) n) else oe ((lgs (rd_lf wd (rd_s r)) n).map (rd_lf wd (rd_s r)))) (c, w, S, I, K)) ?_ ?_ pm_N 0 () trivial (by omega) (by rw [pm_NE]; omega)
      · intro again i _ hi _ hn
        have := hn () trivial
        simp only [lgs] at this
        have h8 := rd_lf8 hPC.1 (s := rd_s r) i
        unfold X8_longest_L25 X8_longest_j63
        simp only
        rw [lr_64_1 h, lg_67 h, hPC.2.1, if_neg (nI_ge hi (by omega)), lr_64_8 h, lc_93 h, rd_leftIn h hPC dk_93 hDC hr hi, ly_cI]
        cases hb : lgs (rd_lf wd (rd_s r)) i with
        | none =>
          rw [hb] at this
          rw [if_neg (show ¬ nI (rd_lf wd (rd_s r) i) ≤ oe (Option.map (rd_lf wd (rd_s r)) none) from m1l (by omega)), lr_64_8 h, lc_93 h, rd_leftIn h hPC dk_93 hDC hr hi, ly_cI, ly_bI, nI_1]
          exact this
        | some b =>
          have hb8 := rd_lf8 hPC.1 (s := rd_s r) b
          rw [hb] at this
          simp only at this
          by_cases h0 : rd_lf wd (rd_s r) i ≤ rd_lf wd (rd_s r) b
          · rw [if_pos h0] at this
            rw [if_pos (show nI (rd_lf wd (rd_s r) i) ≤ oe (Option.map (rd_lf wd (rd_s r)) (some b)) from nI_le h0 (by omega)), ly_bI, nI_1]
            exact this
          · rw [if_neg h0] at this
            rw [if_neg (show ¬ nI (rd_lf wd (rd_s r) i) ≤ oe (Option.map (rd_lf wd (rd_s r)) (some b)) from nI_ge (by omega) (by omega)), lr_64_8 h, lc_93 h, rd_leftIn h hPC dk_93 hDC hr hi, ly_cI, ly_bI, nI_1]
            exact this
      · intro again _ _
        unfold X8_longest_L25 X8_longest_j78
        simp only
        rw [lr_64_1 h, lg_67 h, hPC.2.1, if_pos (nI_le (Nat.le_refl _) (by omega))]
        rcases hkk with rfl | rfl
        · rw [n00]; rfl
        · rw [if_neg (show ¬ nI 1 = 0 by decide)]; rfl
    · obtain ⟨hPM2, hDM2⟩ := jm hJ
      unfold X9_longest X9_longest_j20
      rw [lp_108 h, rm_in, ly_cI, decide_eq_true hy, ib1, lc_108 h, bad_z h, ly_cI, i00]
      generalize ly_u I 108 0 0 = J at hPM2 hDM2 ⊢
      refine ly_loop (fun i (_ : Unit) => ((oe (lgs (rd_lf wd (rd_s r)) i), nI i, (c, w, S, J, K2)) : Int32 × Int32 × pmM)) n (fun i _ => True) (fun R => R = pm_oI (if k = 0 then oe (lgs (rd_lf wd (rd_s r)) n) else oe ((lgs (rd_lf wd (rd_s r)) n).map (rd_lf wd (rd_s r)))) (c, w, S, J, K2)) ?_ ?_ pm_N 0 () trivial (by omega) (by rw [pm_NE]; omega)
      · intro again i _ hi _ hn
        have := hn () trivial
        simp only [lgs] at this
        have h8 := rd_lf8 hPM2.1 (s := rd_s r) i
        unfold X9_longest_L34 X9_longest_j68 X9_longest_j73
        simp only
        rw [lg_108 h, hPM2.2.1, if_neg (nI_ge hi (by omega))]
        cases hb : lgs (rd_lf wd (rd_s r)) i with
        | none =>
          rw [hb] at this
          rw [if_pos (show oe none = -1 from rfl), ly_bI, nI_1]
          exact this
        | some b =>
          have hbi := lgs_l hb
          have hb8 := rd_lf8 hPM2.1 (s := rd_s r) b
          rw [hb] at this
          simp only at this
          rw [if_neg (show ¬ oe (some b) = -1 from m1n (by omega)), lr_108_29 h, lc_108 h, rm_leftIn h hPM2 rwa_535 hDM2 hr (by omega), ly_cI, lr_108_29 h, lc_108 h, show oe (some b) = nI b from rfl, rm_leftIn h hPM2 rwa_535 hDM2 hr (by omega), ly_cI]
          by_cases h0 : rd_lf wd (rd_s r) i ≤ rd_lf wd (rd_s r) b
          · rw [if_pos h0] at this
            rw [if_pos (nI_le h0 (by omega)), ly_bI, nI_1]
            exact this
          · rw [if_neg h0] at this
            rw [if_neg (nI_ge (by omega) (by omega)), ly_bI, nI_1]
            exact this
      · intro again _ _
        unfold X9_longest_L34 X9_longest_j89 X9_longest_j102
        simp only
        rw [lg_108 h, hPM2.2.1, if_pos (nI_le (Nat.le_refl _) (by omega))]
        rcases hkk with rfl | rfl
        · rw [n00]; rfl
        · rw [if_neg (show ¬ nI 1 = 0 by decide)]
          cases hb : lgs (rd_lf wd (rd_s r)) n with
          | none => rw [if_pos (show oe none = -1 from rfl)]; rfl
          | some b =>
            have hbi := lgs_l hb
            rw [if_neg (show ¬ oe (some b) = -1 from m1n (by omega)), lr_108_29 h, lc_108 h, show oe (some b) = nI b from rfl, rm_leftIn h hPM2 rwa_535 hDM2 hr (by omega), ly_cI]
            rfl
  · obtain ⟨y0, y1⟩ := bool_no hy
    refine ag_no (K := K) (k := 1) (b := .int 0) h hJ (by omega) ⟨_, rfl⟩ ?_ (fun c1 w1 S1 I1 K2 h1 hI => ?_)
    · unfold X8_longest X8_longest_j15
      rw [if_neg y0, if_neg y1, lc_64 h, mu_cV h]
    · unfold X9_longest X9_longest_j20
      rw [lp_108 h1, rm_in, ly_cI, decide_eq_false hy, ib0, lc_108 h1, bad_11 h1, ly_cI, i10]
/-- how many are left from i on -/
def cnt (b : Nat) : Nat → Nat → Nat
  | 0, _ => 0
  | m + 1, i => (if b.testBit i then 0 else 1) + cnt b m (i + 1)
theorem cnt_lf : ∀ k, k < 9 → ∀ b, b < 2 ^ k → cnt b k 0 = k - rd_pc b := by decide +kernel
theorem pf_sh {b k d : Nat} : ∀ (m i t : Nat), rd_pf b (k + d) m i (t + d) = rd_pf b k m i t
  | 0, _, _ => rfl
  | m + 1, i, t => by
    simp only [rd_pf]
    rw [pf_sh m (i + 1) t, show t + d + 1 = (t + 1) + d by omega, pf_sh m (i + 1) (t + 1)]
    simp only [Nat.add_right_cancel_iff]
theorem pf_cnt {b k : Nat} : ∀ (m i t : Nat), t ≤ k → (k - t < cnt b m i ↔ ∃ p, rd_pf b k m i t = some p)
  | 0, _, _, _ => by simp [rd_pf, cnt]
  | m + 1, i, t, h => by
    simp only [rd_pf, cnt]
    by_cases hb : b.testBit i = true
    · simp only [hb, if_true, Nat.zero_add]
      exact pf_cnt m (i + 1) t h
    · simp only [hb, if_false, Bool.false_eq_true]
      by_cases ht : t = k
      · simp [ht]; omega
      · simp only [if_neg ht]
        have := pf_cnt (b := b) (k := k) m (i + 1) (t + 1) (by omega)
        rw [← this]
        omega
/-- the k-th word that is said, from line l on -/
def rk (wd s : Nat → Nat) (q : Nat → Nat → Nat) : Nat → Nat → Nat → Int32
  | 0, _, _ => -1
  | m + 1, l, k => if k < rd_lf wd s l then rd_lw wd s q l k else rk wd s q m (l + 1) (k - rd_lf wd s l)
theorem ca_reads (y : Int32) (h : ly c S) (hJ : JJ I n wd q r a se W G) : ag isI (I 0) c w S (fun k => k) (X8_reads 64 y (c, w, S, I, K)) (X9_reads 108 y) := by
  obtain ⟨hPC, hPM, hDC, hDM, hr, -⟩ := id hJ
  have hn6 := hPC.1.1
  by_cases hy : y < 0
  · refine ag_no (K := K) (k := 1) (b := .int 0) h hJ (by omega) ⟨_, rfl⟩ ?_ (fun c1 w1 S1 I1 K2 h1 hI => ?_)
    · unfold X8_reads X8_reads_j10
      rw [if_pos hy, lc_64 h, mu_cV h]
    · unfold X9_reads X9_reads_j15
      rw [lp_108 h1, if_neg (Int32.not_le.mpr hy), lc_108 h1, bad_11 h1, ly_cI, i10]
  · obtain ⟨k, hk, rfl⟩ := nI_of hy
    refine ag_ro (v := .int (rk wd (rd_s r) q n 0 k)) (I1 := I) (K1 := K) h hJ ⟨_, rfl⟩ ?_ same_r (fun hJ1 K2 => ⟨ly_u I 108 0 0, K2, ?_, z0', s0, rfl⟩)
    · unfold X8_reads X8_reads_j10
      rw [if_neg hy, lc_64 h, mu_cV1]
      refine ly_loop (fun l (t : Nat) => ((nI t, nI l, (c, w, S, I, K)) : Int32 × Int32 × pmM)) n (fun l t => t ≤ k ∧ t ≤ 8 * l ∧ rk wd (rd_s r) q (n - l) l (k - t) = rk wd (rd_s r) q n 0 k) (fun R => R = pm_oI (rk wd (rd_s r) q n 0 k) (c, w, S, I, K)) ?_ ?_ pm_N 0 0 ⟨by omega, by omega, rfl⟩ (by omega) (by rw [pm_NE]; omega)
      · intro again l t hl hQ hn
        obtain ⟨htk, ht8, hrk⟩ := hQ
        have hw8 := pg_wd hPC.1 l
        have hlf : cnt (rd_s r l) (wd l) 0 = rd_lf wd (rd_s r) l := cnt_lf (wd l) (by omega) _ (hr.1 l (by omega)).2
        rw [show n - l = (n - (l + 1)) + 1 by omega] at hrk
        simp only [rk] at hrk
        have hsh := pf_sh (b := rd_s r l) (k := k - t) (d := t) (wd l) 0 0
        rw [show k - t + t = k by omega, Nat.zero_add] at hsh
        have hpc := pf_cnt (b := rd_s r l) (k := k) (wd l) 0 t htk
        rw [hlf] at hpc
        unfold X8_reads_L17
        simp only
        rw [lr_64_1 h, lg_67 h, hPC.2.1, if_neg (nI_ge hl (by omega))]
        refine ly_loop (fun i (u : Nat) => ((nI u, nI i, (c, w, S, I, K)) : Int32 × Int32 × pmM)) (wd l) (fun i u => u ≤ k ∧ u ≤ 8 * l + i ∧ rd_pf (rd_s r l) k (wd l - i) i u = rd_pf (rd_s r l) k (wd l) 0 t ∧ u + cnt (rd_s r l) (wd l - i) i = t + rd_lf wd (rd_s r) l) (fun R => R = pm_oI (rk wd (rd_s r) q n 0 k) (c, w, S, I, K)) ?_ ?_ pm_N 0 t ⟨htk, by omega, rfl, by rw [Nat.sub_zero, hlf]⟩ (by omega) (by rw [pm_NE]; omega)
        · intro again2 i u hi hQ2 hn2
          obtain ⟨huk, hu8, hpf, hcn⟩ := hQ2
          rw [show wd l - i = (wd l - (i + 1)) + 1 by omega] at hpf hcn
          simp only [rd_pf, cnt] at hpf hcn
          have hil := rd_isLeft (w := w) (K := K) h hPC dk_93 hDC hr (show l < 2 ^ 31 by omega) (show i < 16 by omega)
          unfold X8_reads_L31 X8_reads_j77
          simp only
          rw [lr_64_1 h, lr_67_0 h, ld_68 h (by omega), hPC.2.2.1 l hl, if_neg (nI_ge hi (by omega)), lr_64_8 h, lc_93 h, hil, ly_cI]
          cases hb : (rd_s r l).testBit i
          · rw [hb] at hpf hcn
            simp only [Bool.false_eq_true, if_false] at hpf hcn
            rw [decide_eq_true ⟨hl, hi, rfl⟩, ib1]
            by_cases hu : u = k
            · rw [if_pos hu] at hpf
              have hwa := rd_wordAt (w := w) (K := K) h hPC (show l < 2 ^ 31 by omega) (show i < 2 ^ 31 by omega)
              unfold rd_q at hwa
              rw [if_pos ⟨hl, hi⟩] at hwa
              rw [if_pos (show nI u = nI k by rw [hu]), lr_64_1 h, lc_67 h, hwa, ly_cI, ← hrk, if_pos (hpc.mpr ⟨i, hpf.symm⟩)]
              unfold rd_lw
              rw [← hsh, ← hpf]
            · rw [if_neg hu] at hpf
              rw [if_neg (fun e9 => hu ((nI_eq (by omega) hk).mp e9)), ly_bI, ly_bI, nI_1, nI_1]
              exact hn2 (u + 1) ⟨by omega, by omega, hpf, by omega⟩
          · rw [hb] at hpf hcn
            simp only [if_true] at hpf hcn
            rw [decide_eq_false (by rintro ⟨-, -, e9⟩; cases e9), ib0, ly_bI, nI_1]
            exact hn2 u ⟨huk, by omega, hpf, by omega⟩
        · intro again2 u hQ2
          obtain ⟨huk, hu8, hpf, hcn⟩ := hQ2
          rw [Nat.sub_self] at hpf hcn
          simp only [rd_pf, cnt] at hpf hcn
          have hnl : ¬ k - t < rd_lf wd (rd_s r) l := fun e9 => by
            obtain ⟨p, hp⟩ := hpc.mp e9
            rw [← hpf] at hp
            cases hp
          rw [if_neg hnl] at hrk
          unfold X8_reads_L31
          simp only
          rw [lr_64_1 h, lr_67_0 h, ld_68 h (by omega), hPC.2.2.1 l hl, if_pos (nI_le (Nat.le_refl _) (by omega)), ly_bI, nI_1]
          exact hn u ⟨huk, by omega, by rw [← hrk]; congr 1; omega⟩
      · intro again t hQ
        obtain ⟨-, -, hrk⟩ := hQ
        rw [Nat.sub_self] at hrk
        unfold X8_reads_L17
        simp only
        rw [lr_64_1 h, lg_67 h, hPC.2.1, if_pos (nI_le (Nat.le_refl _) (by omega)), ← hrk]
        rfl
    · obtain ⟨hPM2, hDM2⟩ := jm hJ
      unfold X9_reads X9_reads_j15
      rw [lp_108 h, if_pos (Int32.not_lt.mp hy), lc_108 h, bad_z h, ly_cI, i00]
      generalize ly_u I 108 0 0 = J at hPM2 hDM2 ⊢
      refine ly_loop (fun l (t : Nat) => ((nI t, nI l, (c, w, S, J, K2)) : Int32 × Int32 × pmM)) n (fun l t => t ≤ k ∧ rk wd (rd_s r) q (n - l) l t = rk wd (rd_s r) q n 0 k) (fun R => R = pm_oI (rk wd (rd_s r) q n 0 k) (c, w, S, J, K2)) ?_ ?_ pm_N 0 k ⟨by omega, rfl⟩ (by omega) (by rw [pm_NE]; omega)
      · intro again l t hl hQ hn
        obtain ⟨htk, hrk⟩ := hQ
        have h8 := rd_lf8 hPM2.1 (s := rd_s r) l
        rw [show n - l = (n - (l + 1)) + 1 by omega] at hrk
        simp only [rk] at hrk
        unfold X9_reads_L29
        simp only
        rw [lg_108 h, hPM2.2.1, if_neg (nI_ge hl (by omega)), lr_108_29 h, lc_108 h, rm_leftIn h hPM2 rwa_535 hDM2 hr (by omega), ly_cI]
        by_cases h0 : t < rd_lf wd (rd_s r) l
        · rw [if_pos h0] at hrk
          rw [if_neg (nI_ge h0 (by omega)), lr_108_29 h, lc_108 h, rm_leftWord h hPM2 rwa_535 hDM2 hr hl (by omega), ly_cI, hrk]
        · rw [if_neg h0] at hrk
          rw [if_pos (nI_le (by omega) (by omega)), lr_108_29 h, lc_108 h, rm_leftIn h hPM2 rwa_535 hDM2 hr (by omega), ly_cI, ly_bI, ly_bI, pk_sub (by omega), nI_1]
          exact hn _ ⟨by omega, hrk⟩
      · intro again t hQ
        obtain ⟨-, hrk⟩ := hQ
        rw [Nat.sub_self] at hrk
        unfold X9_reads_L29
        simp only
        rw [lg_108 h, hPM2.2.1, if_pos (nI_le (Nat.le_refl _) (by omega)), ← hrk]
        rfl
end SIQ
