/-! a work: read whole; a step done by the one and by the other -/
section WKD
variable {c w : Nat} {S : Nat → pmS} {I I1 I2 J J1 A B E I0 J0 O : Nat → Nat → Int32} {K K2 : Nat → Nat → Int64} {T : Nat → Nat} {L p g n N m o d : Nat} {s v x : Int32} {wd : Nat → Nat} {q : Nat → Nat → Nat} {r : Nat → Int32} {a : Nat} {lw : (Nat → Int32) → Int32}
def PW0 (i j : Nat) : Prop := (i = 87 ∧ (j = 5 ∨ j = 6)) ∨ (88 ≤ i ∧ i ≤ 92)
def GWf (n : Nat) (I1 J1 : Nat → Nat → Int32) : Prop := ∃ m, m ≤ 30 ∧ I1 87 5 = nI m ∧ J1 108 28 = nI m ∧ (∀ k, k < m → srw n I1 J1 k m) ∧ nst J1 6 0 m
theorem wk_both (h : ly c S) (hjk : jk O) (hO : tB O T N) (hO3 : O 65 3 = nI 0) (hN : N ≤ 150) (hn6 : n ≤ 6) (hJ : ∀ k, k < 600 → J 109 k = nI (T k) ∧ T k < 256) (h13 : J 108 13 = nI n) : ∃ RM, rO c w S K K2 PW0 (QW 0) O (mst J N) (-1) (fun I1 J1 _ => GWf n I1 J1) (X6_readFrom 87 65 (nI n) (c, w, S, O, K)) RM ∧ (pm_cV (X9_starts 108 (nI N) (c, w, S, J, K2)) fun m8 => pm_pI 9 108 28 0 m8 fun m9 => pm_lp pm_N (X9_work_L72 108) m9) = pm_cV RM (X9_work_j101 108) := by
  obtain ⟨m1, m2⟩ := ms_ok (w := w) (K := K2) (I := J) (T := T) (N := N) h (by omega) hJ
  have o1 : only PW0 O (ly_u (ly_u O 87 5 0) 87 6 (nI n)) := only_u (only_u only_r (by unfold PW0; omega)) (by unfold PW0; omega)
  have o2 : only (QW 0) (mst J N) (ly_u (mst J N) 108 28 0) := only_u only_r (by unfold QW; omega)
  have hTO : tB (ly_u (ly_u O 87 5 0) 87 6 (nI n)) T N := tB_o hO o1 (by unfold PW0; omega) (fun k _ => by unfold PW0; omega)
  have hMO : mB (ly_u (mst J N) 108 28 0) T N := QW_T m2 o2
  have hws : WS T N n 0 0 (ly_u (ly_u O 87 5 0) 87 6 (nI n)) (ly_u (mst J N) 108 28 0) 0 := by
    refine ⟨hTO, hMO, jk_o hjk o1 (fun i j hi => by unfold PW0; omega), by omega, ?_, ?_, by omega, ?_, ?_, ?_⟩
    · rw [ly_uE, if_neg (by omega), ly_uE, if_pos ⟨rfl, rfl⟩]; rfl
    · rw [ly_uE, if_pos ⟨rfl, rfl⟩]; rfl
    · rw [ly_uE, if_neg (by omega)]; unfold mst; rw [ly_uE, if_pos ⟨rfl, rfl⟩]
    · rw [ly_uE, if_pos ⟨rfl, rfl⟩]
    · rw [ly_uE, if_neg (by omega)]; unfold mst; simp (disch := omega) only [ly_uE, if_neg]; exact h13
  have e1 : X6_readFrom 87 65 (nI n) (c, w, S, O, K) = (pm_cI (X6_readSteps_N 10 87 65 (nI 0) (c, w, S, tx (ly_u (ly_u O 87 5 0) 87 6 (nI n)) 0 (O 65 4) (O 65 5), K)) fun x4 m3 => if x4 = 0 then (X6_readFrom_j43 m3) else (pm_rc 7 65 m3 <| pm_cI (X7_peek 65 m3) fun x6 m5 => if x6 = (-1) then (X6_readFrom_j39 m5) else (pm_gI 7 65 3 m5 fun x7 => pm_rc 7 65 m5 <| pm_cI (X7_fail 65 1 x7 m5) fun x9 m8 => if x9 = 0 then (X6_readFrom_j43 m8) else (X6_readFrom_j39 m8)))) := by
    have : X6_readFrom 87 65 (nI n) (c, w, S, tx O 0 (O 65 4) (O 65 5), K) = (pm_cI (X6_readSteps_N 10 87 65 (nI 0) (c, w, S, tx (ly_u (ly_u O 87 5 0) 87 6 (nI n)) 0 (O 65 4) (O 65 5), K)) fun x4 m3 => if x4 = 0 then (X6_readFrom_j43 m3) else (pm_rc 7 65 m3 <| pm_cI (X7_peek 65 m3) fun x6 m5 => if x6 = (-1) then (X6_readFrom_j39 m5) else (pm_gI 7 65 3 m5 fun x7 => pm_rc 7 65 m5 <| pm_cI (X7_fail 65 1 x7 m5) fun x9 m8 => if x9 = 0 then (X6_readFrom_j43 m8) else (X6_readFrom_j39 m8)))) := by
      unfold X6_readFrom
      rw [lp_87 h, tx_un (by omega), lp_87 h, tx_un (by omega), lc_87 h]
      rfl
    rw [← tx_in hO3] at this
    exact this
  refine ⟨pm_cV (pm_lp pm_N (LG pm_oV) (c, w, S, mx (ly_u (mst J N) 108 28 0) (tS T N 0) 0 (-1), K2)) pm_oV, ?_, ?_⟩
  · rw [e1]
    refine LI_all (n := n) h hN hn6 10 0 (by omega) (by omega) _ _ 0 0 _ _ PW0 (QW 0) _ O (mst J N) (LG pm_oV) pm_oV pm_oV _ hws (fun ag J1 p1 hM hp hx => ?_) (fun ag J1 p1 hM hp hx => ?_) (fun ag J1 p1 k y hk => ?_) (fun I1 J1 p1 s v o3 o4 hG hx hs => ?_) (fun e => absurd rfl e) (fun I1 J1 p1 p2 s v k q o3 o4 hk => ?_)
    · have hp1 : p1 = N := by
        rcases hx with ⟨-, a⟩ | ⟨a, -⟩
        · exact a
        · exact absurd rfl a
      unfold LG
      rw [lg_108 h, mx5, n00, lg_108 h, mx4, lg_108 h, mx_nj (by omega), hM.1, if_pos (nI_le (by omega) (by omega))]
    · unfold LG
      have : p1 ≠ N := fun e => hx (Or.inl ⟨rfl, e⟩)
      rw [lg_108 h, mx5, n00, lg_108 h, mx4, lg_108 h, mx_nj (by omega), hM.1, if_neg (nI_ge (by omega) (by omega))]
    · unfold LG
      rw [lg_108 h, mx5, nk0 hk]
    · have hp1 : p1 = N := by
        rcases hx with ⟨-, a⟩ | ⟨a, -⟩
        · exact a
        · exact absurd rfl a
      have hT1 := PW_T hTO o3
      obtain ⟨q1, q2, q3, mm, q4, q5, q6, q7, q8, q9⟩ := hG
      rw [i10, lc_65 h, tx_peek h hT1 q2, hs, ly_cI, if_pos ((tb_end (fun k hk => (hT1.2.2 k hk).2) hT1.2.1 q2).mpr hp1), ly_cV]
      unfold X6_readFrom_j39 X6_readFrom_j44
      exact rO_ok (only_t o1 (only_m o3 (fun i j e => by unfold PW at e; unfold PW0; omega))) (only_t o2 o4) ⟨mm, by omega, q6, q7, fun k hk => q8 k (by omega) hk, q9⟩
    · rw [i00, ly_cV]
      unfold X6_readFrom_j43 X6_readFrom_j44
      exact rO_no hk (only_t o1 (only_m o3 (fun i j e => by unfold PW at e; unfold PW0; omega))) (only_t o2 o4)
  · rw [m1, ly_cV, lp_108 h, mx_unj (by omega), ly_cvv]
    exact LG_E pm_N _
theorem lb_or (b1 b2 : Bool) : ly_b b1 ||| ly_b b2 = ly_b (b1 || b2) := by cases b1 <;> cases b2 <;> rfl
/-- more ink -/
theorem fl_R {f : Nat} (h : ly c S) (hC : dk_C I 93 r) (hM : dk_M J 535 r) (hr : dk_W n wd r) (hf : 1 ≤ f ∧ f ≤ 99) : ∃ bb r' I' J', X0_fillUp 93 (nI f) (c, w, S, I, K) = pm_oI (ly_b bb) (c, w, S, I', K) ∧ (pm_cI (X9_less 200 (J 535 10 + nI f) (c, w, S, J, K2)) fun x15 m14 => X9_becomes 535 10 x15 m14) = pm_oI (ly_b bb) (c, w, S, J', K2) ∧ dk_C I' 93 r' ∧ dk_M J' 535 r' ∧ dk_W n wd r' ∧ only (PD 93) I I' ∧ only (PR 535) J J' := by
  obtain ⟨hi1, hi2⟩ := hr.2.2.1
  have e5 : I 93 5 = nI (rd_s r 10) := hC.2.2.1.trans hi1
  have e10 : J 535 10 = nI (rd_s r 10) := (hM 10 (by omega)).trans hi1
  unfold X0_fillUp
  rw [lg_93 h, e5, e10, nI_add, rm_less, ly_cI]
  unfold X9_becomes
  by_cases hk : rd_s r 10 < 200
  · rw [if_pos (show nI (rd_s r 10) < 200 from nI_lt (b := 200) hk (by omega)), lg_93 h, e5, nI_add]
    have hmin : (if nI (rd_s r 10 + f) < 200 then nI (rd_s r 10 + f) else 200) = nI (min 200 (rd_s r 10 + f)) := by
      by_cases e : rd_s r 10 + f < 200
      · rw [if_pos (show nI (rd_s r 10 + f) < 200 from nI_lt (b := 200) e (by omega)), Nat.min_eq_right (by omega)]
      · rw [if_neg (show ¬ nI (rd_s r 10 + f) < 200 from nI_nlt (b := 200) (by omega) (by omega)), Nat.min_eq_left (by omega)]; rfl
    have hmin2 : (if nI (rd_s r 10 + f) ≤ 200 then nI (rd_s r 10 + f) else 200) = nI (min 200 (rd_s r 10 + f)) := by
      by_cases e : rd_s r 10 + f ≤ 200
      · rw [if_pos (show nI (rd_s r 10 + f) ≤ 200 from nI_le (b := 200) e (by omega)), Nat.min_eq_right (by omega)]
      · rw [if_neg (show ¬ nI (rd_s r 10 + f) ≤ 200 from nI_ge (a := 200) (by omega) (by omega)), Nat.min_eq_left (by omega)]; rfl
    rw [hmin, lp_93 h, hmin2, ld_i (i := 10) 10 rfl, ld_535 h (by omega), e10, if_neg (fun e => by
      have := (nI_eq (by omega) (by omega)).mp e
      omega), st_i (i := 10) 10 rfl, ls_535 h (by omega)]
    exact ⟨true, rup r 10 (nI (min 200 (rd_s r 10 + f))), _, _, rfl, rfl, (dk_C_u (k := 0) hC).2.1, dm_u hM, dk_Wi hr (by omega), only_u only_r (by unfold PD; omega), only_u only_r (by unfold PR; omega)⟩
  · have e2 : rd_s r 10 = 200 := by omega
    have hmin2 : (if nI (rd_s r 10 + f) ≤ 200 then nI (rd_s r 10 + f) else 200) = nI 200 := by
      rw [if_neg (show ¬ nI (rd_s r 10 + f) ≤ 200 from nI_ge (a := 200) (by omega) (by omega))]; rfl
    rw [if_neg (show ¬ nI (rd_s r 10) < 200 from nI_nlt (b := 200) (by omega) (by omega)), hmin2, ld_i (i := 10) 10 rfl, ld_535 h (by omega), e10, e2, if_pos rfl]
    exact ⟨false, r, _, _, rfl, rfl, hC, hM, hr, only_r, only_r⟩
/-- a cell set -/
theorem sc_R {f u : Nat} (h : ly c S) (hC : dk_C I 93 r) (hM : dk_M J 535 r) (hr : dk_W n wd r) (hf : f ≤ 3) (hu : u ≤ 999) : ∃ bb r' I' J', X0_setCell 93 (nI f) (nI u) (c, w, S, I, K) = pm_oI (ly_b bb) (c, w, S, I', K) ∧ X9_becomes 535 ((6 : Int32) + nI f) (nI u) (c, w, S, J, K2) = pm_oI (ly_b bb) (c, w, S, J', K2) ∧ dk_C I' 93 r' ∧ dk_M J' 535 r' ∧ dk_W n wd r' ∧ only (PD 93) I I' ∧ only (PR 535) J J' := by
  obtain ⟨hi1, hi2⟩ := hr.2.1 f (by omega)
  have e5 : I 95 f = nI (rd_s r (6 + f)) := (hC.2.1 f (by omega)).trans hi1
  have e10 : J 535 (6 + f) = nI (rd_s r (6 + f)) := (hM (6 + f) (by omega)).trans hi1
  unfold X0_setCell X0_setCell_j19 X9_becomes
  rw [if_neg (nI_pos (by omega)), if_neg (show ¬ (4 : Int32) ≤ nI f from nI_ge (b := 4) (by omega) (by omega)), lr_93_3 h, ld_95 h (by omega), e5, show (6 : Int32) + nI f = nI (6 + f) from nI_add 6 f, ld_535 h (by omega), e10]
  by_cases e : rd_s r (6 + f) = u
  · rw [if_pos (by rw [e]), if_pos (by rw [e])]
    exact ⟨false, r, _, _, rfl, rfl, hC, hM, hr, only_r, only_r⟩
  · have e' : ¬ nI (rd_s r (6 + f)) = nI u := fun e2 => e ((nI_eq (by omega) (by omega)).mp e2)
    rw [if_neg e', if_neg e', lr_93_3 h, ls_95 h (by omega), ls_535 h (by omega)]
    exact ⟨true, rup r (6 + f) (nI u), _, _, rfl, rfl, (dk_C_u hC).2.2.2.2.2 (by omega), dm_u hM, dk_Wc hr (by omega) hu, only_u only_r (by unfold PD; omega), only_u only_r (by unfold PR; omega)⟩
/-- all wiped -/
def wany (r : Nat → Int32) : Nat → Bool
  | 0 => false
  | l + 1 => wany r l || decide (rd_s r l ≠ 0)
def wrow (r : Nat → Int32) (l : Nat) : Nat → Int32 := fun k => if k < l then nI 0 else r k
theorem wrow_W (hr : dk_W n wd r) : dk_W n wd (wrow r 6) := by
  have hs : ∀ k, 6 ≤ k → rd_s (wrow r 6) k = rd_s r k := fun k hk => by unfold rd_s wrow; rw [if_neg (by omega)]
  have hk0 : ∀ k, 6 ≤ k → wrow r 6 k = r k := fun k hk => by unfold wrow; rw [if_neg (by omega)]
  refine ⟨fun l hl => ?_, fun k hk => ?_, ?_, ?_⟩
  · have e : wrow r 6 l = nI 0 := by unfold wrow; rw [if_pos hl]
    have e2 : rd_s (wrow r 6) l = 0 := by unfold rd_s; rw [e]; rfl
    rw [e2]; exact ⟨e, Nat.two_pow_pos _⟩
  · rw [hs _ (by omega), hk0 _ (by omega)]; exact hr.2.1 k hk
  · rw [hs _ (by omega), hk0 _ (by omega)]; exact hr.2.2.1
  · rw [hs _ (by omega), hk0 _ (by omega)]; exact hr.2.2.2
theorem wp_C (h : ly c S) (hC : dk_C I 93 r) (hr : dk_W n wd r) : ∃ I', X0_wipeAll 93 (c, w, S, I, K) = pm_oI (ly_b (wany r 6)) (c, w, S, I', K) ∧ dk_C I' 93 (wrow r 6) ∧ only (PD 93) I I' := by
  unfold X0_wipeAll
  refine ly_loop (fun l (A : Nat → Nat → Int32) => ((ly_b (wany r l), nI l, (c, w, S, A, K)) : Int32 × Int32 × pmM)) 6 (fun l A => (∀ k, k < 6 → A 94 k = wrow r l k) ∧ only (fun i _ => i = 94) I A) (fun R => ∃ I', R = pm_oI (ly_b (wany r 6)) (c, w, S, I', K) ∧ dk_C I' 93 (wrow r 6) ∧ only (PD 93) I I') ?_ ?_ pm_N 0 I ⟨fun k hk => by unfold wrow; rw [if_neg (by omega)]; exact hC.1 k hk, only_r⟩ (by omega) (by rw [pm_NE]; omega)
  · intro again l A hl hQ hn
    have e1 : A 94 l = nI (rd_s r l) := by rw [hQ.1 l hl]; unfold wrow; rw [if_neg (by omega)]; exact (hr.1 l hl).1
    have hb : rd_s r l < 2 ^ 31 := by
      rcases Nat.lt_or_ge (rd_s r l) (2 ^ 31) with a | a
      · exact a
      · exact absurd (show rd_s r l < 2 ^ 31 by unfold rd_s; exact Int32.toNatClampNeg_lt _) (by omega)
    have hnx := hn (ly_u A 94 l (nI 0)) ⟨fun k hk => by
      rw [ly_uE]
      unfold wrow
      by_cases e : k = l
      · rw [if_pos ⟨rfl, e⟩, if_pos (by omega)]
      · rw [if_neg (fun e2 => e e2.2), hQ.1 k hk]
        unfold wrow
        by_cases e3 : k < l
        · rw [if_pos e3, if_pos (by omega)]
        · rw [if_neg e3, if_neg (by omega)], only_u hQ.2 rfl⟩
    have fin : ∀ b2 : Bool, b2 = decide (rd_s r l ≠ 0) → ∃ I', X0_wipeAll_j25 again 93 (nI l) (ly_b b2) (ly_b (wany r l)) (c, w, S, A, K) = pm_oI (ly_b (wany r 6)) (c, w, S, I', K) ∧ dk_C I' 93 (wrow r 6) ∧ only (PD 93) I I' := fun b2 hb2 => by
      unfold X0_wipeAll_j25
      rw [lb_or, ly_bI, lr_93_2 h, ls_94 h hl, ly_bI, nI_1, hb2]
      exact hnx
    unfold X0_wipeAll_L4
    simp only
    rw [if_neg (show ¬ (6 : Int32) ≤ nI l from nI_ge (b := 6) hl (by omega)), lr_93_2 h, ld_94 h hl, e1]
    by_cases e : rd_s r l = 0
    · rw [e, n00]
      exact fin false (by rw [e]; rfl)
    · rw [if_neg (nI_ne0 (by omega) hb)]
      exact fin true (by rw [decide_eq_true e])
  · intro again A hQ
    unfold X0_wipeAll_L4
    simp only
    rw [if_pos (show (6 : Int32) ≤ nI 6 by decide), ly_nb]
    have ho : ∀ i j, i ≠ 94 → A i j = I i j := fun i j hi => hQ.2 i j hi
    refine ⟨A, rfl, ⟨fun l hl => hQ.1 l hl, fun k hk => ?_, ?_, ?_, ?_, ?_⟩, only_m hQ.2 (fun i j e => by unfold PD; omega)⟩
    · rw [ho _ _ (by omega), hC.2.1 k hk]; unfold wrow; rw [if_neg (by omega)]
    · rw [ho _ _ (by omega), hC.2.2.1]; unfold wrow; rw [if_neg (by omega)]
    · rw [ho _ _ (by omega), hC.2.2.2.1]; unfold wrow; rw [if_neg (by omega)]
    · rw [ho _ _ (by omega), hC.2.2.2.2.1]; unfold wrow; rw [if_neg (by omega)]
    · rw [ho _ _ (by omega), hC.2.2.2.2.2]; unfold wrow; rw [if_neg (by omega)]
theorem wp_M (h : ly c S) (hP : pg_M J n wd q) (hM : dk_M J 535 r) (hr : dk_W n wd r) : ∃ J', X9_wipes 108 535 (c, w, S, J, K2) = pm_oI (ly_b (wany r 6)) (c, w, S, J', K2) ∧ dk_M J' 535 (wrow r 6) ∧ only (PR 535) J J' := by
  have hW := hP.1
  have hn6 := hW.1
  have h0 : ∀ l, n ≤ l → l < 6 → rd_s r l = 0 := fun l h1 h2 => by
    have := (hr.1 l h2).2
    rw [hW.2.2.1 l h1] at this
    omega
  have hany : ∀ t, n + t ≤ 6 → wany r (n + t) = wany r n := by
    intro t
    induction t with
    | zero => intro _; rfl
    | succ t ih =>
      intro ht
      show (wany r (n + t) || decide (rd_s r (n + t) ≠ 0)) = _
      rw [ih (by omega), h0 (n + t) (by omega) (by omega)]
      simp
  have hany6 : wany r 6 = wany r n := by
    have := hany (6 - n) (by omega)
    rw [show n + (6 - n) = 6 by omega] at this
    exact this
  unfold X9_wipes
  refine ly_loop (fun l (A : Nat → Nat → Int32) => ((ly_b (wany r l), nI l, (c, w, S, A, K2)) : Int32 × Int32 × pmM)) n (fun l A => (∀ k, k < 14 → A 535 k = wrow r l k) ∧ only (fun i _ => i = 535) J A) (fun R => ∃ J', R = pm_oI (ly_b (wany r 6)) (c, w, S, J', K2) ∧ dk_M J' 535 (wrow r 6) ∧ only (PR 535) J J') ?_ ?_ pm_N 0 J ⟨fun k hk => by unfold wrow; rw [if_neg (by omega)]; exact hM k hk, only_r⟩ (by omega) (by rw [pm_NE]; omega)
  · intro again l A hl hQ hn
    have e1 : A 535 l = nI (rd_s r l) := by rw [hQ.1 l (by omega)]; unfold wrow; rw [if_neg (by omega)]; exact (hr.1 l (by omega)).1
    have hb := rd_sb hW hr (l := l) (by omega)
    have hnx := hn (ly_u A 535 l (nI 0)) ⟨fun k hk => by
      rw [ly_uE]
      unfold wrow
      by_cases e : k = l
      · rw [if_pos ⟨rfl, e⟩, if_pos (by omega)]
      · rw [if_neg (fun e2 => e e2.2), hQ.1 k hk]
        unfold wrow
        by_cases e3 : k < l
        · rw [if_pos e3, if_pos (by omega)]
        · rw [if_neg e3, if_neg (by omega)], only_u hQ.2 rfl⟩
    have fin : ∀ b2 : Bool, b2 = decide (rd_s r l ≠ 0) → ∃ J', X9_wipes_j26 again 108 535 (nI l) (ly_b b2) (ly_b (wany r l)) (c, w, S, A, K2) = pm_oI (ly_b (wany r 6)) (c, w, S, J', K2) ∧ dk_M J' 535 (wrow r 6) ∧ only (PR 535) J J' := fun b2 hb2 => by
      unfold X9_wipes_j26
      rw [lb_or, ly_bI, show (0 : Int32) + nI l = nI l from Int32.zero_add _, ls_535 h (by omega), ly_bI, nI_1, hb2]
      exact hnx
    unfold X9_wipes_L4
    simp only
    rw [lg_108 h, hQ.2 108 13 (by omega), hP.2.1, if_neg (nI_ge hl (by omega)), show (0 : Int32) + nI l = nI l from Int32.zero_add _, ld_535 h (by omega), e1]
    by_cases e : rd_s r l = 0
    · rw [e, n00]
      exact fin false (by rw [e]; rfl)
    · rw [if_neg (nI_ne0 (by omega) (by omega))]
      exact fin true (by rw [decide_eq_true e])
  · intro again A hQ
    unfold X9_wipes_L4
    simp only
    rw [lg_108 h, hQ.2 108 13 (by omega), hP.2.1, if_pos (nI_le (Nat.le_refl _) (by omega)), ly_nb, hany6]
    refine ⟨A, rfl, fun k hk => ?_, only_m hQ.2 (fun i j e => by unfold PR; omega)⟩
    rw [hQ.1 k hk]
    unfold wrow
    by_cases e : k < n
    · rw [if_pos e, if_pos (by omega)]
    · rw [if_neg e]
      by_cases e6 : k < 6
      · rw [if_pos e6, (hr.1 k e6).1, h0 k (by omega) e6]
      · rw [if_neg e6]
/-- a step is done -/
theorem do_R {k : Nat} (h : ly c S) (hE : eC I n wd q lw) (hE2 : eM J n wd q lw) (hC : dk_C I 93 r) (hM : dk_M J 535 r) (hr : dk_W n wd r) (hk : k < 30) {kd : Nat} (e88 : I 88 k = nI kd) (e0 : J (455 + k) 0 = nI kd) (hkd : kd ≤ 5) (ha : arw n I J kd k) : ∃ bb r' I' J', X6_doStep 87 93 (nI k) (c, w, S, I, K) = pm_oI (ly_b bb) (c, w, S, I', K) ∧ X9_does 108 535 (455 + k) (c, w, S, J, K2) = pm_oI (ly_b bb) (c, w, S, J', K2) ∧ dk_C I' 93 r' ∧ dk_M J' 535 r' ∧ dk_W n wd r' ∧ only (PD 93) I I' ∧ only (PR 535) J J' := by
  have hn6 := hE.1.1.1
  unfold X6_doStep X9_does
  rw [lr_87_1 h, ld_89 h hk, lr_87_0 h, ld_88 h hk, e88, ld_i (i := 0) 0 rfl, ld_455 h (by omega) (by omega), e0]
  rcases ha with ha | ⟨f, a1, a2, ha⟩
  · rcases ha with rfl | rfl
    · obtain ⟨I', c1, c2, c3⟩ := bg_C (w := w) (K := K) h hE dk_93 hC hr
      obtain ⟨J', d1, d2, d3⟩ := bg_M (w := w) (K := K2) h hE2 rwa_535 hM hr
      rw [if_neg (show ¬ nI 2 = 0 by decide), if_neg (show ¬ nI 2 = 1 by decide), if_pos (show nI 2 = 2 from rfl), lc_93 h, c1, ly_cI, ly_nb, if_neg (show ¬ nI 2 = 0 by decide), if_neg (show ¬ nI 2 = 1 by decide), if_pos (show nI 2 = 2 from rfl), lc_108 h, d1, ly_cI, ly_nb]
      exact ⟨_, _, I', J', rfl, rfl, c2, d2, rbg_W hr hn6, c3, d3⟩
    · obtain ⟨I', c1, c2, c3⟩ := wp_C (w := w) (K := K) h hC hr
      obtain ⟨J', d1, d2, d3⟩ := wp_M (w := w) (K2 := K2) h hE2.1 hM hr
      rw [if_neg (show ¬ nI 4 = 0 by decide), if_neg (show ¬ nI 4 = 1 by decide), if_neg (show ¬ nI 4 = 2 by decide), if_neg (show ¬ nI 4 = 3 by decide), if_pos (show nI 4 = 4 from rfl), lc_93 h, c1, ly_cI, ly_nb, if_neg (show ¬ nI 4 = 0 by decide), if_neg (show ¬ nI 4 = 1 by decide), if_neg (show ¬ nI 4 = 2 by decide), if_neg (show ¬ nI 4 = 3 by decide), if_pos (show nI 4 = 4 from rfl), lc_108 h, d1, ly_cI, ly_nb]
      exact ⟨_, _, I', J', rfl, rfl, c2, d2, wrow_W hr, c3, d3⟩
  · rw [a1]
    rcases ha with ⟨hk13, hf1, hf⟩ | ⟨rfl, -⟩ | ⟨rfl, hf, u, b1, b2, hu⟩ | ⟨rfl, hf, ⟨u, b1, b2, hu⟩, z, b3, b4, hz⟩
    · rcases hk13 with rfl | rfl
      · obtain ⟨I', c1, c2, c3⟩ := rn_C (w := w) (K := K) (k := f) h hE dk_93 hC hr (by omega)
        obtain ⟨J', d1, d2, d3⟩ := rn_M (w := w) (K := K2) (k := f) h hE2 rwa_535 hM hr (by omega)
        rw [if_neg (show ¬ nI 1 = 0 by decide), if_pos (show nI 1 = 1 from rfl), lc_93 h, c1, ly_cI, ly_nb, if_neg (show ¬ nI 1 = 0 by decide), if_pos (show nI 1 = 1 from rfl), ld_i (i := 1) 1 rfl, ld_455 h (by omega) (by omega), a2, lc_108 h, d1, ly_cI, ly_nb]
        exact ⟨_, _, I', J', rfl, rfl, c2, d2, rdk_W hE.1.1 hr, c3, d3⟩
      · obtain ⟨bb, r', I', J', c1, c2, c3, c4, c5, c6, c7⟩ := fl_R (w := w) (K := K) (K2 := K2) h hC hM hr ⟨hf1, hf⟩
        rw [if_neg (show ¬ nI 3 = 0 by decide), if_neg (show ¬ nI 3 = 1 by decide), if_neg (show ¬ nI 3 = 2 by decide), if_pos (show nI 3 = 3 from rfl), lc_93 h, c1, ly_cI, ly_nb, if_neg (show ¬ nI 3 = 0 by decide), if_neg (show ¬ nI 3 = 1 by decide), if_neg (show ¬ nI 3 = 2 by decide), if_pos (show nI 3 = 3 from rfl), ld_i (i := 10) 10 rfl, ld_535 h (by omega), ld_i (i := 1) 1 rfl, ld_455 h (by omega) (by omega), a2]
        have := congrArg (fun R => pm_cI R fun x17 m16 => pm_oI (vp_nar .boolean x17) m16) c2
        simp only [ly_cc, ly_cI, ly_nb] at this
        rw [this]
        exact ⟨bb, r', I', J', rfl, rfl, c3, c4, c5, c6, c7⟩
    · omega
    · obtain ⟨bb, r', I', J', c1, c2, c3, c4, c5, c6, c7⟩ := sc_R (w := w) (K := K) (K2 := K2) h hC hM hr hf hu
      rw [if_neg (show ¬ nI 5 = 0 by decide), if_neg (show ¬ nI 5 = 1 by decide), if_neg (show ¬ nI 5 = 2 by decide), if_neg (show ¬ nI 5 = 3 by decide), if_neg (show ¬ nI 5 = 4 by decide), lr_87_2 h, ld_90 h hk, b1, lc_93 h, c1, ly_cI, ly_nb, if_neg (show ¬ nI 5 = 0 by decide), if_neg (show ¬ nI 5 = 1 by decide), if_neg (show ¬ nI 5 = 2 by decide), if_neg (show ¬ nI 5 = 3 by decide), if_neg (show ¬ nI 5 = 4 by decide), ld_i (i := 1) 1 rfl, ld_455 h (by omega) (by omega), a2, ld_i (i := 2) 2 rfl, ld_455 h (by omega) (by omega), b2, c2, ly_cI, ly_nb]
      exact ⟨bb, r', I', J', rfl, rfl, c3, c4, c5, c6, c7⟩
    · obtain ⟨I', c1, c2, c3⟩ := sk_C (w := w) (K := K) (i := u) (j := z) h hE dk_93 hC hr hf (by omega) (by omega)
      obtain ⟨J', d1, d2, d3⟩ := sk_M (w := w) (K := K2) (i := u) (j := z) h hE2 rwa_535 hM hr hf (by omega) (by omega)
      rw [if_pos (show nI 0 = 0 from rfl), lr_87_2 h, ld_90 h hk, b1, lr_87_3 h, ld_91 h hk, b3, lc_93 h, c1, ly_cI, ly_nb, if_pos (show nI 0 = 0 from rfl), ld_i (i := 1) 1 rfl, ld_455 h (by omega) (by omega), a2, ld_i (i := 2) 2 rfl, ld_455 h (by omega) (by omega), b2, ld_i (i := 3) 3 rfl, ld_455 h (by omega) (by omega), b4, lc_108 h, d1, ly_cI, ly_nb]
      exact ⟨_, _, I', J', rfl, rfl, c2, d2, rsk_W hE.1.1 hr hf, c3, d3⟩
end WKD
