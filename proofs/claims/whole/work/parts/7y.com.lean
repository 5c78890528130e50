/-! common -/
section COM
variable {c w : Nat} {S : Nat → pmS} {I I1 I2 J A D : Nat → Nat → Int32} {K K1 : Nat → Nat → Int64} {n : Nat} {wd : Nat → Nat} {q : Nat → Nat → Nat} {r : Nat → Int32} {a : Nat} {se : Nat → Nat} {W G d : Nat} {s : Nat → Nat}
def lcg (x : Nat) (f : List Nat → Nat) : List Nat → Nat
  | [] => 0
  | y :: ys => if x = y then 1 + f ys else max (f (y :: ys)) (lcg x f ys)
def lcs : List Nat → List Nat → Nat
  | [] => fun _ => 0
  | x :: xs => lcg x (lcs xs)
theorem lcs_c {x y : Nat} {xs ys : List Nat} : lcs (x :: xs) (y :: ys) = if x = y then 1 + lcs xs ys else max (lcs xs (y :: ys)) (lcs (x :: xs) ys) := rfl
theorem lcs_n : ∀ {xs : List Nat}, lcs xs [] = 0
  | [] => rfl
  | _ :: _ => rfl
theorem lcs_le : ∀ (xs ys zs : List Nat), List.Sublist zs xs → List.Sublist zs ys → zs.length ≤ lcs xs ys := by
  intro xs
  induction xs with
  | nil => intro ys zs h1 _; rw [List.sublist_nil.mp h1]; exact Nat.zero_le _
  | cons x xs ih =>
    intro ys
    induction ys with
    | nil => intro zs _ h2; rw [List.sublist_nil.mp h2]; exact Nat.zero_le _
    | cons y ys ih2 =>
      intro zs h1 h2
      rw [lcs_c]
      by_cases e : x = y
      · rw [if_pos e]
        cases zs with
        | nil => exact Nat.zero_le _
        | cons z zs =>
          have := ih ys zs (List.Sublist.tail h1) (List.Sublist.tail h2)
          rw [List.length_cons]
          omega
      · rw [if_neg e]
        rcases List.sublist_cons_iff.mp h1 with h3 | ⟨r1, h3, h4⟩
        · exact Nat.le_trans (ih (y :: ys) zs h3 h2) (Nat.le_max_left _ _)
        · rcases List.sublist_cons_iff.mp h2 with h5 | ⟨r2, h5, h6⟩
          · exact Nat.le_trans (ih2 zs h1 h5) (Nat.le_max_right _ _)
          · rw [h3] at h5
            exact absurd (List.cons.inj h5).1 e
theorem lcs_ex : ∀ (xs ys : List Nat), ∃ zs, List.Sublist zs xs ∧ List.Sublist zs ys ∧ zs.length = lcs xs ys := by
  intro xs
  induction xs with
  | nil => intro ys; exact ⟨[], List.nil_sublist _, List.nil_sublist _, rfl⟩
  | cons x xs ih =>
    intro ys
    induction ys with
    | nil => exact ⟨[], List.nil_sublist _, List.nil_sublist _, rfl⟩
    | cons y ys ih2 =>
      rw [lcs_c]
      by_cases e : x = y
      · obtain ⟨zs, h1, h2, h3⟩ := ih ys
        rw [if_pos e]
        subst e
        exact ⟨x :: zs, List.Sublist.cons_cons x h1, List.Sublist.cons_cons x h2, by rw [List.length_cons, h3]; omega⟩
      · rw [if_neg e]
        rcases Nat.le_total (lcs xs (y :: ys)) (lcs (x :: xs) ys) with h | h
        · obtain ⟨zs, h1, h2, h3⟩ := ih2
          exact ⟨zs, h1, List.Sublist.cons y h2, by rw [h3, Nat.max_eq_right h]⟩
        · obtain ⟨zs, h1, h2, h3⟩ := ih (y :: ys)
          exact ⟨zs, List.Sublist.cons x h1, h2, by rw [h3, Nat.max_eq_left h]⟩
theorem lcs_r (xs ys : List Nat) : lcs xs.reverse ys.reverse = lcs xs ys := by
  refine Nat.le_antisymm ?_ ?_
  · obtain ⟨zs, h1, h2, h3⟩ := lcs_ex xs.reverse ys.reverse
    rw [← h3, ← List.length_reverse]
    exact lcs_le xs ys zs.reverse (by have := h1.reverse; rwa [List.reverse_reverse] at this) (by have := h2.reverse; rwa [List.reverse_reverse] at this)
  · obtain ⟨zs, h1, h2, h3⟩ := lcs_ex xs ys
    rw [← h3, ← List.length_reverse]
    exact lcs_le _ _ _ h1.reverse h2.reverse
theorem lcs_l (xs ys : List Nat) : lcs xs ys ≤ xs.length := by
  obtain ⟨zs, h1, h2, h3⟩ := lcs_ex xs ys
  rw [← h3]; exact h1.length_le
theorem lcs_m (x : Nat) (xs ys : List Nat) : lcs xs ys ≤ lcs (x :: xs) ys := by
  obtain ⟨zs, h1, h2, h3⟩ := lcs_ex xs ys
  rw [← h3]; exact lcs_le _ _ _ (List.Sublist.cons x h1) h2
theorem lcs_x (x : Nat) (xs ys : List Nat) : lcs (x :: xs) ys ≤ 1 + lcs xs ys := by
  obtain ⟨zs, h1, h2, h3⟩ := lcs_ex (x :: xs) ys
  rw [← h3]
  cases zs with
  | nil => exact Nat.zero_le _
  | cons z zs =>
    have := lcs_le xs ys zs h1.tail ((List.Sublist.cons z (List.Sublist.refl zs)).trans h2)
    rw [List.length_cons]; omega
theorem lcs_y (y : Nat) (xs ys : List Nat) : lcs xs (y :: ys) ≤ 1 + lcs xs ys := by
  obtain ⟨zs, h1, h2, h3⟩ := lcs_ex xs (y :: ys)
  rw [← h3]
  cases zs with
  | nil => exact Nat.zero_le _
  | cons z zs =>
    have := lcs_le xs ys zs ((List.Sublist.cons z (List.Sublist.refl zs)).trans h1) h2.tail
    rw [List.length_cons]; omega
/-- the places that are left among the first so many, the last first -/
def pw (m b : Nat) : Nat → List Nat
  | 0 => []
  | i + 1 => if i < m ∧ b.testBit i = false then i :: pw m b i else pw m b i
theorem pw_f : ∀ m, m < 9 → ∀ b, b < 2 ^ m → (pw m b 8).length = m - rd_pc b ∧ ∀ k, k < 9 → rd_pf b k m 0 0 = (pw m b 8).reverse[k]? := by decide +kernel
def rl (wd s : Nat → Nat) (q : Nat → Nat → Nat) (l i : Nat) : List Nat := (pw (wd l) (s l) i).map (q l)
theorem rl_1 {l i : Nat} (h : i < wd l ∧ (s l).testBit i = false) : rl wd s q l (i + 1) = q l i :: rl wd s q l i := by
  unfold rl
  rw [show pw (wd l) (s l) (i + 1) = if i < wd l ∧ (s l).testBit i = false then i :: pw (wd l) (s l) i else pw (wd l) (s l) i from rfl, if_pos h, List.map_cons]
theorem rl_0 {l i : Nat} (h : ¬ (i < wd l ∧ (s l).testBit i = false)) : rl wd s q l (i + 1) = rl wd s q l i := by
  unfold rl
  rw [show pw (wd l) (s l) (i + 1) = if i < wd l ∧ (s l).testBit i = false then i :: pw (wd l) (s l) i else pw (wd l) (s l) i from rfl, if_neg h]
theorem rl_l (hW : pg_W n wd q) (hr : dk_W n wd r) {l : Nat} (hl : l < 6) : (rl wd (rd_s r) q l 8).length = rd_lf wd (rd_s r) l := by
  unfold rl
  rw [List.length_map, (pw_f (wd l) (by have := pg_wd hW l; omega) _ (hr.1 l hl).2).1]
  rfl
theorem rl_w (hW : pg_W n wd q) (hr : dk_W n wd r) {l k : Nat} (hl : l < 6) (hk : k < (rl wd (rd_s r) q l 8).reverse.length) : rd_lw wd (rd_s r) q l k = nI ((rl wd (rd_s r) q l 8).reverse[k]) := by
  have h1 := rl_l hW hr hl
  have h2 := rd_lf8 hW (s := rd_s r) l
  have h3 := (pw_f (wd l) (by have := pg_wd hW l; omega) _ (hr.1 l hl).2).2 k (by rw [List.length_reverse] at hk; omega)
  have h4 : k < (pw (wd l) (rd_s r l) 8).reverse.length := by
    unfold rl at hk
    rw [List.length_reverse, List.length_map] at hk
    rw [List.length_reverse]; exact hk
  unfold rd_lw
  rw [h3, List.getElem?_eq_getElem h4]
  simp only [rl, ← List.map_reverse, List.getElem_map]
theorem cm_1 {x : Nat} {xs ys : List Nat} : max (lcs xs ys + 1) (max (lcs xs (x :: ys)) (lcs (x :: xs) ys)) = lcs (x :: xs) (x :: ys) := by
  have h1 := lcs_x x xs ys
  have h2 := lcs_y x xs ys
  rw [lcs_c, if_pos rfl]
  omega
theorem cm_2 {x y : Nat} {xs ys : List Nat} (h : ¬ y = x) : max 0 (max (lcs xs (y :: ys)) (lcs (x :: xs) ys)) = lcs (x :: xs) (y :: ys) := by
  rw [lcs_c, if_neg (fun e => h e.symm)]
  omega
theorem cm_3 {x : Nat} {xs ys : List Nat} : max 0 (max (lcs xs ys) (lcs (x :: xs) ys)) = lcs (x :: xs) ys := by
  have := lcs_m x xs ys
  omega
def PBq (i _j : Nat) : Prop := i = 107
theorem PB_s (h : only PBq I I1) : same I I1 := fun i j hn => h i j (fun e => hn (by unfold PBq at e; unfold sc; omega))
/-- a word of the one line goes through the other: the class -/
theorem pi_C {l2 x : Nat} {xs : List Nat} (h : ly c S) (hP : pg_C A n wd q) (hC : dk_C A 93 r) (hr : dk_W n wd r) (hl : l2 < n) (hx : x < 16) (hxs : xs.length ≤ 8) (hF : ∀ j, j ≤ 8 → A 107 j = nI (lcs xs (rl wd (rd_s r) q l2 j))) : ∃ B, X4_passInBoth 102 93 (nI x) (nI l2) (c, w, S, A, K) = pm_oV (c, w, S, B, K) ∧ only PBq A B ∧ ∀ j, j ≤ 8 → B 107 j = nI (lcs (x :: xs) (rl wd (rd_s r) q l2 j)) := by
  have hW := hP.1
  have hn6 := hW.1
  have bx : ∀ ys, lcs xs ys ≤ 8 := fun ys => Nat.le_trans (lcs_l _ _) hxs
  have by1 : ∀ ys, lcs (x :: xs) ys ≤ 9 := fun ys => Nat.le_trans (lcs_l _ _) (by rw [List.length_cons]; omega)
  unfold X4_passInBoth
  rw [show ((0, 0, (c, w, S, A, K)) : Int32 × Int32 × pmM) = (nI (lcs xs (rl wd (rd_s r) q l2 0)), nI 0, (c, w, S, A, K)) by
    rw [show lcs xs (rl wd (rd_s r) q l2 0) = 0 from lcs_n]; rfl]
  refine ly_loop (fun j (B : Nat → Nat → Int32) => ((nI (lcs xs (rl wd (rd_s r) q l2 j)), nI j, (c, w, S, B, K)) : Int32 × Int32 × pmM)) 8 (fun j B => only PBq A B ∧ ∀ i, i ≤ 8 → B 107 i = nI (if i ≤ j then lcs (x :: xs) (rl wd (rd_s r) q l2 i) else lcs xs (rl wd (rd_s r) q l2 i))) (fun R => ∃ B, R = pm_oV (c, w, S, B, K) ∧ only PBq A B ∧ ∀ j, j ≤ 8 → B 107 j = nI (lcs (x :: xs) (rl wd (rd_s r) q l2 j))) ?_ ?_ pm_N 0 A ⟨only_r, fun i hi => ?_⟩ (by omega) (by rw [pm_NE]; omega)
  · intro again j B hj hQ hn
    obtain ⟨q1, q2⟩ := hQ
    have hsB := PB_s q1
    have hPB := pg_C_same hP hsB
    have hCB := dk_C_same hC hsB
    have e1 : B 107 (j + 1) = nI (lcs xs (rl wd (rd_s r) q l2 (j + 1))) := by rw [q2 _ (by omega), if_neg (by omega)]
    have e2 : B 107 j = nI (lcs (x :: xs) (rl wd (rd_s r) q l2 j)) := by rw [q2 _ (by omega), if_pos (by omega)]
    have b1 := bx (rl wd (rd_s r) q l2 (j + 1))
    have b2 := by1 (rl wd (rd_s r) q l2 j)
    have b3 := bx (rl wd (rd_s r) q l2 j)
    have fin : ∀ z : Nat, z < 100 → max z (max (lcs xs (rl wd (rd_s r) q l2 (j + 1))) (lcs (x :: xs) (rl wd (rd_s r) q l2 j))) = lcs (x :: xs) (rl wd (rd_s r) q l2 (j + 1)) → ∃ B', X4_passInBoth_j56 again 102 93 (nI x) (nI l2) (nI j) (nI (lcs xs (rl wd (rd_s r) q l2 (j + 1)))) (nI z) (c, w, S, B, K) = pm_oV (c, w, S, B', K) ∧ only PBq A B' ∧ ∀ j, j ≤ 8 → B' 107 j = nI (lcs (x :: xs) (rl wd (rd_s r) q l2 j)) := fun z hz he => by
      unfold X4_passInBoth_j56
      rw [lr_102_5 h, lr_102_5 h, ld_107 h (by omega), e2, nI_1, (mn_C (i := lcs xs (rl wd (rd_s r) q l2 (j + 1))) (j := lcs (x :: xs) (rl wd (rd_s r) q l2 j)) (by omega) (by omega)).2, (mn_C (i := z) (j := max (lcs xs (rl wd (rd_s r) q l2 (j + 1))) (lcs (x :: xs) (rl wd (rd_s r) q l2 j))) (by omega) (by omega)).2, he, ls_107 h (by omega), ly_bI]
      refine hn _ ⟨only_u q1 rfl, fun i hi => ?_⟩
      rw [ly_uE]
      by_cases ei : i = j + 1
      · rw [if_pos ⟨rfl, ei⟩, if_pos (by omega), ei]
      · rw [if_neg (fun e => ei e.2), q2 i hi]
        by_cases e : i ≤ j
        · rw [if_pos e, if_pos (by omega)]
        · rw [if_neg e, if_neg (by omega)]
    unfold X4_passInBoth_L6
    simp only
    rw [if_neg (show ¬ (8 : Int32) ≤ nI j from nI_ge (b := 8) hj (by omega)), lr_102_5 h, nI_1, ld_107 h (by omega), e1, lc_93 h, rd_isLeft h hPB dk_93 hCB hr (by omega) (by omega), ly_cI]
    by_cases hL : j < wd l2 ∧ (rd_s r l2).testBit j = false
    · have hrl := rl_1 (q := q) hL
      have hq16 := hW.2.2.2 l2 j hl hL.1
      rw [decide_eq_true ⟨hl, hL⟩, ib1, lr_102_0 h, lc_67 h, rd_wordAt h hPB (by omega) (by omega), ly_cI, show rd_q n wd q l2 j = q l2 j from if_pos ⟨hl, hL.1⟩]
      by_cases hq : q l2 j = x
      · rw [if_pos (by rw [hq]), nI_1]
        exact fin _ (by omega) (by rw [hrl, hq]; exact cm_1)
      · rw [if_neg (fun e => hq ((nI_eq (by omega) (by omega)).mp e))]
        unfold X4_passInBoth_j55
        exact fin 0 (by omega) (by rw [hrl]; exact cm_2 hq)
    · have hrl := rl_0 (q := q) hL
      rw [decide_eq_false (fun e => hL e.2), ib0]
      unfold X4_passInBoth_j55
      exact fin 0 (by omega) (by rw [hrl]; exact cm_3)
  · intro again B hQ
    unfold X4_passInBoth_L6
    simp only
    rw [if_pos (show (8 : Int32) ≤ nI 8 from by decide)]
    exact ⟨B, rfl, hQ.1, fun j hj => by rw [hQ.2 j hj, if_pos hj]⟩
  · rw [hF i hi]
    by_cases e : i ≤ 0
    · have : i = 0 := by omega
      subst this
      rw [if_pos (Nat.le_refl _)]
      show nI (lcs xs []) = nI (lcs (x :: xs) [])
      rw [lcs_n, lcs_n]
    · rw [if_neg e]
theorem pw_l (m b : Nat) : ∀ i, (pw m b i).length ≤ i
  | 0 => Nat.le_refl _
  | i + 1 => by
    show (if i < m ∧ b.testBit i = false then i :: pw m b i else pw m b i).length ≤ _
    have := pw_l m b i
    split
    · rw [List.length_cons]; omega
    · omega
theorem lb_C {l1 l2 : Nat} (h : ly c S) (hP : pg_C A n wd q) (hC : dk_C A 93 r) (hr : dk_W n wd r) (hl1 : l1 < n) (hl : l2 < n) : ∃ B, X4_longestInBoth 102 93 (nI l1) (nI l2) (c, w, S, A, K) = pm_oI (nI (lcs (rl wd (rd_s r) q l1 8) (rl wd (rd_s r) q l2 8))) (c, w, S, B, K) ∧ only PBq A B := by
  have hW := hP.1
  have hn6 := hW.1
  unfold X4_longestInBoth
  refine ly_loop (fun i (B : Nat → Nat → Int32) => ((nI i, (c, w, S, B, K)) : Int32 × pmM)) 9 (fun i B => only PBq A B ∧ ∀ j, j < i → B 107 j = 0) (fun R => ∃ B, R = pm_oI (nI (lcs (rl wd (rd_s r) q l1 8) (rl wd (rd_s r) q l2 8))) (c, w, S, B, K) ∧ only PBq A B) ?_ ?_ pm_N 0 A ⟨only_r, fun j hj => by omega⟩ (by omega) (by rw [pm_NE]; omega)
  · intro again i B hi hQ hn
    unfold X4_longestInBoth_L3
    simp only
    rw [if_neg (show ¬ (8 : Int32) < nI i from nI_nlt (a := 8) (by omega) (by omega)), lr_102_5 h, ls_107 h (by omega), ly_bI, nI_1]
    refine hn _ ⟨only_u hQ.1 rfl, fun j hj => ?_⟩
    rw [ly_uE]
    by_cases e : j = i
    · rw [if_pos ⟨rfl, e⟩]
    · rw [if_neg (fun e2 => e e2.2)]; exact hQ.2 j (by omega)
  · intro again B hQ
    unfold X4_longestInBoth_L3
    simp only
    rw [if_pos (show (8 : Int32) < nI 9 from by decide)]
    refine ly_loop (fun i (B : Nat → Nat → Int32) => ((nI i, (c, w, S, B, K)) : Int32 × pmM)) 8 (fun i B => only PBq A B ∧ ∀ j, j ≤ 8 → B 107 j = nI (lcs (rl wd (rd_s r) q l1 i) (rl wd (rd_s r) q l2 j))) (fun R => ∃ B, R = pm_oI (nI (lcs (rl wd (rd_s r) q l1 8) (rl wd (rd_s r) q l2 8))) (c, w, S, B, K) ∧ only PBq A B) ?_ ?_ pm_N 0 B ⟨hQ.1, fun j hj => hQ.2 j (by omega)⟩ (by omega) (by rw [pm_NE]; omega)
    · intro again2 i B hi hQ2 hn
      obtain ⟨q1, q2⟩ := hQ2
      have hsB := PB_s q1
      have hPB := pg_C_same hP hsB
      have hCB := dk_C_same hC hsB
      unfold X4_longestInBoth_L27
      simp only
      rw [if_neg (show ¬ (8 : Int32) ≤ nI i from nI_ge (b := 8) hi (by omega)), lc_93 h, rd_isLeft h hPB dk_93 hCB hr (by omega) (by omega), ly_cI]
      unfold X4_longestInBoth_j60
      by_cases hL : i < wd l1 ∧ (rd_s r l1).testBit i = false
      · have hrl := rl_1 (q := q) hL
        have hq16 := hW.2.2.2 l1 i hl1 hL.1
        obtain ⟨D, d1, d2, d3⟩ := pi_C (w := w) (K := K) (x := q l1 i) (xs := rl wd (rd_s r) q l1 i) h hPB hCB hr hl hq16 (by unfold rl; rw [List.length_map]; exact Nat.le_trans (pw_l _ _ _) (by omega)) q2
        rw [decide_eq_true ⟨hl1, hL⟩, ib1, lr_102_0 h, lc_67 h, rd_wordAt h hPB (by omega) (by omega), ly_cI, show rd_q n wd q l1 i = q l1 i from if_pos ⟨hl1, hL.1⟩, lc_102 h, d1, ly_cV, ly_bI, nI_1]
        refine hn D ⟨only_t q1 d2, fun j hj => ?_⟩
        rw [hrl]; exact d3 j hj
      · have hrl := rl_0 (q := q) hL
        rw [decide_eq_false (fun e => hL e.2), ib0, ly_bI, nI_1]
        refine hn B ⟨q1, fun j hj => ?_⟩
        rw [hrl]; exact q2 j hj
    · intro again2 B hQ2
      unfold X4_longestInBoth_L27
      simp only
      rw [if_pos (show (8 : Int32) ≤ nI 8 from by decide), lr_102_5 h, ld_i (i := 8) 8 rfl, ld_107 h (by omega), hQ2.2 8 (by omega)]
      exact ⟨B, rfl, hQ2.1⟩
def dn (a t : Nat) : Int32 := if t ≤ a then nI (a - t) else -1
theorem dn_i {a t : Nat} (h : t ≤ a) : dn a t = nI (a - t) := if_pos h
theorem dn_s {a t : Nat} (h : t ≤ a) : nI (a - t) + (-1) = dn a (t + 1) := by
  unfold dn
  by_cases e : t + 1 ≤ a
  · rw [if_pos e, show a - t = (a - (t + 1)) + 1 by omega, nI_dn]
  · rw [if_neg e, show a - t = 0 by omega]; decide
theorem dn_e {a : Nat} : dn a (a + 1) = -1 := if_neg (by omega)
def PC3 (i _j : Nat) : Prop := 583 ≤ i ∧ i ≤ 591
theorem PC3_s (h : only PC3 I I1) : same I I1 := fun i j hn => h i j (fun e => hn (by unfold PC3 at e; unfold sc; omega))
theorem dr_c {xs : List Nat} {i : Nat} (h : i < xs.length) : xs.drop i = xs[i] :: xs.drop (i + 1) := List.drop_eq_getElem_cons h
theorem cm_M {l1 l2 : Nat} {xs ys : List Nat} (h : ly c S) (hP : pg_M A n wd q) (hC : dk_M A 535 r) (hr : dk_W n wd r) (hl1 : l1 < n) (hl : l2 < n) (hxs : xs = (rl wd (rd_s r) q l1 8).reverse) (hys : ys = (rl wd (rd_s r) q l2 8).reverse) : ∃ E, pm_lp pm_N (X9_common_L61 108 (nI l1) (nI l2) (nI xs.length) (nI ys.length)) (nI xs.length, (c, w, S, A, K)) = pm_oI (nI (lcs xs ys)) (c, w, S, E, K) ∧ only PC3 A E := by
  have hW := hP.1
  have hn6 := hW.1
  have lx : xs.length ≤ 8 := by rw [hxs, List.length_reverse, rl_l hW hr (by omega)]; exact rd_lf8 hW l1
  have l_y : ys.length ≤ 8 := by rw [hys, List.length_reverse, rl_l hW hr (by omega)]; exact rd_lf8 hW l2
  have wx : ∀ k (hk : k < xs.length), rd_lw wd (rd_s r) q l1 k = nI xs[k] := by subst hxs; exact fun k hk => rl_w hW hr (by omega) hk
  have wy : ∀ k (hk : k < ys.length), rd_lw wd (rd_s r) q l2 k = nI ys[k] := by subst hys; exact fun k hk => rl_w hW hr (by omega) hk
  have b16 : ∀ (l k : Nat) (zs : List Nat) (hk : k < zs.length), l < n → zs = (rl wd (rd_s r) q l 8).reverse → zs[k] < 16 := by
    intro l k zs hk hl hz
    have hm : zs[k] ∈ zs := List.getElem_mem hk
    generalize zs[k] = e0 at hm ⊢
    rw [hz, List.mem_reverse] at hm
    unfold rl at hm
    obtain ⟨p, hp, he⟩ := List.mem_map.mp hm
    have hpw : ∀ i p, p ∈ pw (wd l) (rd_s r l) i → p < wd l := by
      intro i
      induction i with
      | zero => intro p hp; exact absurd hp (List.not_mem_nil)
      | succ i ih =>
        intro p hp
        rw [show pw (wd l) (rd_s r l) (i + 1) = if i < wd l ∧ (rd_s r l).testBit i = false then i :: pw (wd l) (rd_s r l) i else pw (wd l) (rd_s r l) i from rfl] at hp
        split at hp
        · rename_i hc
          rcases List.mem_cons.mp hp with e | e
          · rw [e]; exact hc.1
          · exact ih p e
        · exact ih p hp
    rw [← he]
    exact hW.2.2.2 l p hl (hpw 8 p hp)
  have bT : ∀ i j, lcs (xs.drop i) (ys.drop j) ≤ 8 := fun i j => Nat.le_trans (lcs_l _ _) (by rw [List.length_drop]; omega)
  have hst : ((nI xs.length, (c, w, S, A, K)) : Int32 × pmM) = (dn xs.length 0, (c, w, S, A, K)) := rfl
  rw [hst]
  refine ly_loop (fun t (E : Nat → Nat → Int32) => ((dn xs.length t, (c, w, S, E, K)) : Int32 × pmM)) (xs.length + 1) (fun t E => only PC3 A E ∧ ∀ i, i ≤ xs.length → xs.length < i + t → ∀ j, j ≤ ys.length → E (583 + i) j = nI (lcs (xs.drop i) (ys.drop j))) (fun R => ∃ E, R = pm_oI (nI (lcs xs ys)) (c, w, S, E, K) ∧ only PC3 A E) ?_ ?_ pm_N 0 A ⟨only_r, fun i hi h2 => by omega⟩ (by omega) (by rw [pm_NE]; omega)
  · intro again t E ht hQ hn
    obtain ⟨q1, q2⟩ := hQ
    obtain ⟨i, hi⟩ : ∃ i, i = xs.length - t := ⟨_, rfl⟩
    unfold X9_common_L61
    simp only
    rw [dn_i (by omega), ← hi, if_neg (nI_pos (by omega)), show ((nI ys.length, (c, w, S, E, K)) : Int32 × pmM) = (dn ys.length 0, (c, w, S, E, K)) from rfl]
    refine ly_loop (fun u (E : Nat → Nat → Int32) => ((dn ys.length u, (c, w, S, E, K)) : Int32 × pmM)) (ys.length + 1) (fun u E => only PC3 A E ∧ (∀ i, i ≤ xs.length → xs.length < i + t → ∀ j, j ≤ ys.length → E (583 + i) j = nI (lcs (xs.drop i) (ys.drop j))) ∧ ∀ j, j ≤ ys.length → ys.length < j + u → E (583 + i) j = nI (lcs (xs.drop i) (ys.drop j))) (fun R => ∃ E, R = pm_oI (nI (lcs xs ys)) (c, w, S, E, K) ∧ only PC3 A E) ?_ ?_ pm_N 0 E ⟨q1, q2, fun j hj h2 => by omega⟩ (by omega) (by rw [pm_NE]; omega)
    · intro again2 u F hu hQ2 hn2
      obtain ⟨p1, p2, p3⟩ := hQ2
      have hsF := PC3_s p1
      have hPF := pg_M_same hP hsF
      have hCF := dk_M_same hC hsF
      obtain ⟨j, hj⟩ : ∃ j, j = ys.length - u := ⟨_, rfl⟩
      have fin : ∀ z : Nat, z = lcs (xs.drop i) (ys.drop j) → ∃ E', X9_common_j193 again again2 108 (nI l1) (nI l2) (nI xs.length) (nI ys.length) (nI i) (nI j) (c, w, S, ly_u F (583 + i) j (nI z), K) = pm_oI (nI (lcs xs ys)) (c, w, S, E', K) ∧ only PC3 A E' := fun z hz => by
        unfold X9_common_j193
        have hs1 : nI j + (-1) = dn ys.length (u + 1) := by rw [hj]; exact dn_s (by omega)
        rw [ly_bI, hs1]
        refine hn2 _ ⟨only_u p1 (by unfold PC3; omega), fun i2 hi2 h3 j2 hj2 => ?_, fun j2 hj2 h3 => ?_⟩
        · rw [ly_uE, if_neg (by omega)]; exact p2 i2 hi2 h3 j2 hj2
        · rw [ly_uE]
          by_cases e : j2 = j
          · rw [if_pos ⟨rfl, e⟩, hz, e]
          · rw [if_neg (fun e2 => e e2.2)]; exact p3 j2 hj2 (by omega)
      have j88 : lcs (xs.drop i) (ys.drop j) = 0 → ∃ E', X9_common_j88 again again2 108 (nI l1) (nI l2) (nI xs.length) (nI ys.length) (nI i) (nI j) (c, w, S, F, K) = pm_oI (nI (lcs xs ys)) (c, w, S, E', K) ∧ only PC3 A E' := fun hz => by
        unfold X9_common_j88
        rw [lr_108_51 h, lr_582 h (by omega), ls_583 h (by omega) (by omega)]
        exact fin 0 hz.symm
      unfold X9_common_L70
      simp only
      rw [dn_i (by omega), ← hj, if_neg (nI_pos (by omega))]
      by_cases ei : i = xs.length
      · rw [if_pos (by rw [ei])]
        exact j88 (by rw [ei, List.drop_length]; rfl)
      · rw [if_neg (fun e => ei ((nI_eq (by omega) (by omega)).mp e))]
        by_cases ej : j = ys.length
        · rw [if_pos (by rw [ej])]
          exact j88 (by rw [ej, List.drop_length]; exact lcs_n)
        · have hix : i < xs.length := by omega
          have hjy : j < ys.length := by omega
          have ea : F (583 + (i + 1)) (j + 1) = nI (lcs (xs.drop (i + 1)) (ys.drop (j + 1))) := p2 (i + 1) (by omega) (by omega) (j + 1) (by omega)
          have eb : F (583 + (i + 1)) j = nI (lcs (xs.drop (i + 1)) (ys.drop j)) := p2 (i + 1) (by omega) (by omega) j (by omega)
          have ec : F (583 + i) (j + 1) = nI (lcs (xs.drop i) (ys.drop (j + 1))) := p3 (j + 1) (by omega) (by omega)
          have hT : lcs (xs.drop i) (ys.drop j) = if xs[i] = ys[j] then 1 + lcs (xs.drop (i + 1)) (ys.drop (j + 1)) else max (lcs (xs.drop (i + 1)) (ys.drop j)) (lcs (xs.drop i) (ys.drop (j + 1))) := by
            rw [dr_c hix, dr_c hjy, lcs_c, ← dr_c hix, ← dr_c hjy]
          have c1 := bT (i + 1) j
          have c2 := bT i (j + 1)
          rw [if_neg (fun e => ej ((nI_eq (by omega) (by omega)).mp e)), lr_108_29 h, lc_108 h, rm_leftWord h hPF rwa_535 hCF hr hl1 (by omega), ly_cI, wx i hix, lr_108_29 h, lc_108 h, rm_leftWord h hPF rwa_535 hCF hr hl (by omega), ly_cI, wy j hjy]
          by_cases eq : xs[i] = ys[j]
          · rw [if_pos eq] at hT
            rw [if_pos (by rw [eq]), lr_108_51 h, lr_582 h (by omega), lr_108_51 h, nI_1, lr_582 h (by omega), nI_1, ld_583 h (by omega) (by omega), ea, show (1 : Int32) + nI (lcs (xs.drop (i + 1)) (ys.drop (j + 1))) = nI (1 + lcs (xs.drop (i + 1)) (ys.drop (j + 1))) from nI_add 1 _, ls_583 h (by omega) (by omega)]
            exact fin _ hT.symm
          · rw [if_neg eq] at hT
            have b1 := b16 l1 i xs hix hl1 hxs
            have b2 := b16 l2 j ys hjy hl hys
            rw [if_neg (fun e => eq ((nI_eq (by omega) (by omega)).mp e)), lr_108_51 h, lr_582 h (by omega), lr_108_51 h, nI_1, lr_582 h (by omega), ld_583 h (by omega) (by omega), eb, lr_108_51 h, lr_582 h (by omega), nI_1, ld_583 h (by omega) (by omega), ec, mr_max (by omega) (by omega), ly_cI, ls_583 h (by omega) (by omega)]
            exact fin _ hT.symm
    · intro again2 F hQ2
      obtain ⟨p1, p2, p3⟩ := hQ2
      unfold X9_common_L70
      simp only
      have hs1 : nI i + (-1) = dn xs.length (t + 1) := by rw [hi]; exact dn_s (by omega)
      rw [dn_e, if_pos (by decide), ly_bI, hs1]
      refine hn F ⟨p1, fun i2 hi2 h3 j2 hj2 => ?_⟩
      by_cases e : i2 = i
      · rw [e]; exact p3 j2 hj2 (by omega)
      · exact p2 i2 hi2 (by omega) j2 hj2
  · intro again E hQ
    unfold X9_common_L61
    simp only
    have e0 : E 583 0 = nI (lcs xs ys) := hQ.2 0 (by omega) (by omega) 0 (by omega)
    rw [dn_e, if_pos (by decide), lr_108_51 h, show pm_ldR 103 582 0 (c, w, S, E, K) = pm_ldR 103 582 (nI 0) (c, w, S, E, K) from rfl, lr_582 h (by omega), ld_i (i := 0) 0 rfl, ld_583 h (by omega) (by omega)]
    exact ⟨E, by rw [e0], hQ.1⟩
theorem ca_common (y z : Int32) (h : ly c S) (hJ : JJ I n wd q r a se W G) : ag isI (I 0) c w S (fun k => 1 - k) (X8_common 64 y z (c, w, S, I, K)) (X9_common 108 y z) := by
  obtain ⟨hPC, hPM, hDC, hDM, hr, hT, hS, hH, hc, hk, hL⟩ := id hJ
  have hW := hPC.1
  have hn6 := hW.1
  by_cases ok : ¬ (y < 0 ∨ nI n ≤ y) ∧ ¬ (z < 0 ∨ nI n ≤ z)
  case neg =>
    refine ag_no (K := K) (k := 0) (b := .int 0) h hJ (by omega) ⟨_, rfl⟩ ?_ (fun c1 w1 S1 I1 K2 h1 hI => ?_)
    · unfold X8_common
      rw [lc_64 h]
      by_cases e1 : y < 0 ∨ nI n ≤ y
      · rw [ml_no h hPC e1, rx_cV]
      · have e2 : z < 0 ∨ nI n ≤ z := Classical.byContradiction fun e => ok ⟨e1, e⟩
        obtain ⟨l, hl31, rfl⟩ := nI_of (fun e => e1 (Or.inl e))
        have hl : l < n := by
          rcases Nat.lt_or_ge l n with e | e
          · exact e
          · exact absurd (Or.inr (nI_le e (by omega))) e1
        rw [ml_ok h hPC hl, ly_cV, lc_64 h, ml_no h hPC e2, rx_cV]
    · have e13 : ly_u I1 108 0 0 108 13 = nI n := by rw [u0 (by omega), hI 108 13 (by omega) (by omega)]; exact hPM.2.1
      have e : X9_common_j22 108 y z 108 (c1, w1, S1, ly_u I1 108 0 0, K2) = pm_oI 0 (c1, w1, S1, bI I1 1 0, K2) := by
        unfold X9_common_j22 X9_common_j27
        rw [lc_108 h1, bad_10 h1, ly_cI, i10]
      unfold X9_common
      rw [lp_108 h1, lc_108 h1]
      by_cases e1 : y < 0 ∨ nI n ≤ y
      · rw [il_no h1 e13 hn6 e1, ly_cI, i00, e]
      · have e2 : z < 0 ∨ nI n ≤ z := Classical.byContradiction fun e => ok ⟨e1, e⟩
        obtain ⟨l, hl31, rfl⟩ := nI_of (fun e => e1 (Or.inl e))
        have hl : l < n := by
          rcases Nat.lt_or_ge l n with e | e
          · exact e
          · exact absurd (Or.inr (nI_le e (by omega))) e1
        rw [il_ok h1 e13 hn6 hl, ly_cI, i10, lc_108 h1, il_no h1 e13 hn6 e2, ly_cI, i00, e]
  obtain ⟨hy, hz⟩ := ok
  obtain ⟨l1, hl31, rfl⟩ := nI_of (fun e => hy (Or.inl e))
  obtain ⟨l2, hl32, rfl⟩ := nI_of (fun e => hz (Or.inl e))
  have hl1 : l1 < n := by
    rcases Nat.lt_or_ge l1 n with e | e
    · exact e
    · exact absurd (Or.inr (nI_le e (by omega))) hy
  have hl2 : l2 < n := by
    rcases Nat.lt_or_ge l2 n with e | e
    · exact e
    · exact absurd (Or.inr (nI_le e (by omega))) hz
  obtain ⟨B, b1, b2⟩ := lb_C (w := w) (K := K) h hPC hDC hr hl1 hl2
  refine ag_ro (v := .int (nI (lcs (rl wd (rd_s r) q l1 8) (rl wd (rd_s r) q l2 8)))) (I1 := B) (K1 := K) h hJ ⟨_, rfl⟩ ?_ (PB_s b2) (fun hJ1 K2 => ?_)
  · unfold X8_common
    rw [lc_64 h, ml_ok h hPC hl1, ly_cV, lc_64 h, ml_ok h hPC hl2, ly_cV, lr_64_11 h, lr_64_8 h, lc_102 h, b1, ly_cI]
  · obtain ⟨hPM2, hDM2⟩ := jm hJ1
    obtain ⟨E, k1, k2⟩ := cm_M (w := w) (K := K2) h hPM2 hDM2 hr hl1 hl2 rfl rfl
    rw [List.length_reverse, List.length_reverse, rl_l hW hr (by omega), rl_l hW hr (by omega), lcs_r] at k1
    refine ⟨E, K2, ?_, by rw [k2 108 0 (by unfold PC3; omega)]; exact z0', same_t s0 (PC3_s k2), rfl⟩
    unfold X9_common X9_common_j27
    rw [lp_108 h, lc_108 h, il_ok h hPM2.2.1 hn6 hl1, ly_cI, i10, lc_108 h, il_ok h hPM2.2.1 hn6 hl2, ly_cI, i10, lc_108 h, bad_z h, ly_cI, i00, lr_108_29 h, lc_108 h, rm_leftIn h hPM2 rwa_535 hDM2 hr (by omega), ly_cI, lr_108_29 h, lc_108 h, rm_leftIn h hPM2 rwa_535 hDM2 hr (by omega), ly_cI, k1]
end COM
