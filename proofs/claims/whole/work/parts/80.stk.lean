/-! strokes, best: the class -/
section STK
variable {c w : Nat} {S : Nat → pmS} {I I1 I2 J A D : Nat → Nat → Int32} {K K1 K2 : Nat → Nat → Int64} {n : Nat} {wd : Nat → Nat} {q : Nat → Nat → Nat} {r : Nat → Int32} {a : Nat} {se : Nat → Nat} {W G d : Nat} {N b ai ak : Nat}
/-- so many strokes, in so many ways; or none -/
abbrev vS : Type := Option (Nat × Int64)
def jn : vS → vS → vS
  | none, v => v
  | some p, none => some p
  | some p, some t => if t.1 < p.1 then some t else if t.1 = p.1 then some (p.1, p.2 + t.2) else some p
def upv (e : Nat) : vS → vS
  | none => none
  | some p => some (p.1 + e, p.2)
theorem jn_n {v : vS} : jn v none = v := by cases v <;> rfl
theorem upv_0 {v : vS} : upv 0 v = v := by cases v <;> rfl
theorem upv_j {e : Nat} {u v : vS} : upv e (jn u v) = jn (upv e u) (upv e v) := by
  rcases u with _ | ⟨k, s⟩
  · rfl
  · rcases v with _ | ⟨z, t⟩
    · rfl
    · simp only [jn, upv]
      by_cases h1 : z < k
      · rw [if_pos h1, if_pos (show z + e < k + e by omega)]
      · rw [if_neg h1, if_neg (show ¬ z + e < k + e by omega)]
        by_cases h2 : z = k
        · rw [if_pos h2, if_pos (show z + e = k + e by omega)]
        · rw [if_neg h2, if_neg (show ¬ z + e = k + e by omega)]
def cE (N b : Nat) (v : vS) (x : Int32) (s : Int64) : Prop := match v with
  | none => x = nI N
  | some p => p.1 ≤ b ∧ x = nI p.1 ∧ s = p.2
theorem cE_m {b2 : Nat} {v : vS} {x : Int32} {s : Int64} (h : cE N b v x s) (hb : b ≤ b2) : cE N b2 v x s := by
  cases v with
  | none => exact h
  | some p => exact ⟨Nat.le_trans h.1 hb, h.2⟩
def TT (N ai ak : Nat) (f : Nat → vS) (b : Nat) (I : Nat → Nat → Int32) (K : Nat → Nat → Int64) : Prop := ∀ j, j < 26 → cE N b (f j) (I ai j) (K ak j)
def fu (f : Nat → vS) (j : Nat) (v : vS) : Nat → vS := fun i => if i = j then v else f i
theorem fu_s {f : Nat → vS} {j : Nat} {v : vS} : fu f j v j = v := if_pos rfl
theorem fu_n {f : Nat → vS} {i j : Nat} {v : vS} (h : i ≠ j) : fu f j v i = f i := if_neg h
theorem TT_c {f g : Nat → vS} (h : TT N ai ak f b I K) (he : ∀ j, j < 26 → g j = f j) : TT N ai ak g b I K := fun j hj => by rw [he j hj]; exact h j hj
theorem TT_m {f : Nat → vS} {b2 : Nat} (h : TT N ai ak f b I K) (hb : b ≤ b2) : TT N ai ak f b2 I K := fun j hj => cE_m (h j hj) hb
theorem TT_u {f : Nat → vS} {j : Nat} {v : vS} {x : Int32} {s : Int64} (h : TT N ai ak f b I K) (hv : cE N b v x s) : TT N ai ak (fu f j v) b (ly_u I ai j x) (ly_v K ak j s) := by
  intro i hi
  rw [ly_uE, ly_vE]
  by_cases e : i = j
  · rw [if_pos ⟨rfl, e⟩, if_pos ⟨rfl, e⟩, e, fu_s]; exact hv
  · rw [if_neg (fun e2 => e e2.2), if_neg (fun e2 => e e2.2), fu_n e]; exact h i hi
theorem TT_u2 {f : Nat → vS} {j : Nat} {p : Nat × Int64} {s : Int64} (h : TT N ai ak f b I K) (hf : I ai j = nI p.1 ∧ p.1 ≤ b) (hs : s = p.2) : TT N ai ak (fu f j (some p)) b I (ly_v K ak j s) := by
  intro i hi
  rw [ly_vE]
  by_cases e : i = j
  · rw [if_pos ⟨rfl, e⟩, e, fu_s]; exact ⟨hf.2, hf.1, hs⟩
  · rw [if_neg (fun e2 => e e2.2), fu_n e]; exact h i hi
/-- what is brought to a place -/
def aE (b : Nat) (v : vS) (z : Int32) (s : Int64) : Prop := match v with
  | none => z = nI 1000 ∨ z = nI 1001
  | some p => p.1 ≤ b ∧ z = nI p.1 ∧ s = p.2
theorem aE_u {v : vS} {x : Int32} {s : Int64} {e : Nat} (h : cE 1000 b v x s) (he : e ≤ 1) : aE (b + 1) (upv e v) (x + nI e) s := by
  cases v with
  | none =>
    have h1 : x = nI 1000 := h
    show x + nI e = nI 1000 ∨ x + nI e = nI 1001
    rw [h1]
    rcases (show e = 0 ∨ e = 1 by omega) with rfl | rfl
    · exact Or.inl (by decide)
    · exact Or.inr (by decide)
  | some p =>
    obtain ⟨h1, h2, h3⟩ := h
    exact ⟨by show p.1 + e ≤ b + 1; omega, by rw [h2, nI_add], h3⟩
theorem aE_0 {v : vS} {x : Int32} {s : Int64} (h : cE 1000 b v x s) : aE b v x s := by
  cases v with
  | none => exact Or.inl h
  | some p => exact h
def PJ (i _j : Nat) : Prop := i = 105
theorem jo_C {f : Nat → vS} {j : Nat} {v : vS} {z : Int32} {s : Int64} (h : ly c S) (hj : j < 26) (hf : TT 1000 105 106 f b I K) (hv : aE b v z s) (hb : b ≤ 60) : ∃ I' K', X4_join 102 (nI j) z s (c, w, S, I, K) = pm_oV (c, w, S, I', K') ∧ TT 1000 105 106 (fu f j (jn (f j) v)) b I' K' ∧ only PJ I I' := by
  have hc := hf j hj
  have same : ∀ u, f j = u → TT 1000 105 106 (fu f j u) b I K := fun u hu => TT_c hf (fun i hi => by
    by_cases e : i = j
    · rw [e, fu_s, hu]
    · rw [fu_n e])
  unfold X4_join X4_join_j54
  rw [lr_102_3 h, ld_105 h hj]
  cases hu : f j with
  | none =>
    rw [hu] at hc
    have hc : I 105 j = nI 1000 := hc
    rw [hc]
    cases v with
    | none =>
      have hv : z = nI 1000 ∨ z = nI 1001 := hv
      refine ⟨I, K, ?_, same none hu, only_r⟩
      rcases hv with rfl | rfl
      · rw [if_pos (show nI 1000 ≤ nI 1000 by decide), lr_102_3 h, ld_105 h hj, hc, if_pos rfl, if_pos (show (1000 : Int32) ≤ nI 1000 by decide)]
      · rw [if_pos (show nI 1000 ≤ nI 1001 by decide), lr_102_3 h, ld_105 h hj, hc, if_neg (show ¬ nI 1001 = nI 1000 by decide)]
    | some p =>
      obtain ⟨v1, v2, v3⟩ := hv
      rw [v2, if_neg (nI_ge (by omega) (by omega)), lr_102_3 h, ls_105 h hj, lr_102_4 h, ls_106 h hj]
      exact ⟨_, _, rfl, TT_u hf ⟨v1, rfl, v3⟩, only_u only_r rfl⟩
  | some p =>
    rw [hu] at hc
    obtain ⟨c1, c2, c3⟩ := hc
    rw [c2]
    cases v with
    | none =>
      have hv : z = nI 1000 ∨ z = nI 1001 := hv
      refine ⟨I, K, ?_, same (some p) hu, only_r⟩
      obtain ⟨y, hy, hz⟩ : ∃ y, (1000 ≤ y ∧ y ≤ 1001) ∧ z = nI y := by
        rcases hv with rfl | rfl
        · exact ⟨1000, by omega, rfl⟩
        · exact ⟨1001, by omega, rfl⟩
      rw [hz, if_pos (nI_le (by omega) (by omega)), lr_102_3 h, ld_105 h hj, c2, if_neg (fun e => by
        have := (nI_eq (by omega) (by omega)).mp e
        omega)]
    | some t =>
      obtain ⟨v1, v2, v3⟩ := hv
      rw [v2]
      simp only [jn]
      by_cases h1 : t.1 < p.1
      · rw [if_neg (nI_ge h1 (by omega)), if_pos h1, lr_102_3 h, ls_105 h hj, lr_102_4 h, ls_106 h hj]
        exact ⟨_, _, rfl, TT_u hf ⟨v1, rfl, v3⟩, only_u only_r rfl⟩
      · rw [if_pos (nI_le (by omega) (by omega)), if_neg h1, lr_102_3 h, ld_105 h hj, c2]
        by_cases h2 : t.1 = p.1
        · rw [if_pos (by rw [h2]), if_pos h2, if_neg (show ¬ (1000 : Int32) ≤ nI t.1 from nI_ge (b := 1000) (by omega) (by omega)), lr_102_4 h, ld_106 h hj, ls_106 h hj]
          refine ⟨_, _, rfl, TT_u2 (p := (p.1, p.2 + t.2)) hf ⟨c2, c1⟩ ?_, only_r⟩
          rw [c3, v3]
        · rw [if_neg (fun e => h2 ((nI_eq (by omega) (by omega)).mp e)), if_neg h2]
          exact ⟨I, K, rfl, same (some p) hu, only_r⟩
/-- one word: what a table becomes -/
def fs (se : Nat → Nat) (a y t : Nat) (f : Nat → vS) (j : Nat) : vS := if j / 2 ≤ a then (if j % 2 = t then jn (upv t (f (2 * (j / 2)))) (f (2 * (j / 2) + 1)) else if 1 ≤ j / 2 ∧ se (j / 2 - 1) = y then jn (upv (1 - t) (f (2 * (j / 2 - 1)))) (f (2 * (j / 2 - 1) + 1)) else none) else f j
theorem fs_a {y t m : Nat} {f : Nat → vS} (ht : t ≤ 1) (hm : m ≤ a) : fs se a y t f (2 * m + t) = jn (upv t (f (2 * m))) (f (2 * m + 1)) := by
  unfold fs
  rw [show (2 * m + t) / 2 = m by omega, show (2 * m + t) % 2 = t by omega, if_pos hm, if_pos rfl]
theorem fs_b {y t m : Nat} {f : Nat → vS} (ht : t ≤ 1) (hm : m ≤ a) : fs se a y t f (2 * m + (1 - t)) = if 1 ≤ m ∧ se (m - 1) = y then jn (upv (1 - t) (f (2 * (m - 1)))) (f (2 * (m - 1) + 1)) else none := by
  unfold fs
  rw [show (2 * m + (1 - t)) / 2 = m by omega, if_pos hm, if_neg (by omega)]
theorem fs_c {y t j : Nat} {f : Nat → vS} (hm : ¬ j / 2 ≤ a) : fs se a y t f j = f j := if_neg hm
def gt (se : Nat → Nat) (a y t : Nat) (f : Nat → vS) (u j : Nat) : vS := if a < j / 2 + u then fs se a y t f j else f j
theorem sk_105 (h : only PJ I I1) : same I I1 := fun i j hn => h i j (fun e => hn (by unfold PJ at e; unfold sc; omega))
theorem dbl (m : Nat) : (2 : Int32) * nI m = nI (2 * m) := pk_mul 2 m
theorem pwd_C {f : Nat → vS} {y t : Nat} (h : ly c S) (hS : js I a se) (hf : TT 1000 105 106 f b I K) (hb : b < 60) (hy : y < 16) (ht : t ≤ 1) : ∃ I' K', X4_passWord_j9 102 83 (nI y) (nI t) (c, w, S, I, K) = pm_oV (c, w, S, I', K') ∧ TT 1000 105 106 (fs se a y t f) (b + 1) I' K' ∧ only PJ I I' := by
  have ha12 := hS.1
  unfold X4_passWord_j9
  rw [lg_83 h, hS.2.1, show ((nI a, (c, w, S, I, K)) : Int32 × pmM) = (dn a 0, (c, w, S, I, K)) from rfl]
  refine ly_loop (fun u (p : (Nat → Nat → Int32) × (Nat → Nat → Int64)) => ((dn a u, (c, w, S, p.1, p.2)) : Int32 × pmM)) (a + 1) (fun u p => TT 1000 105 106 (gt se a y t f u) (b + 1) p.1 p.2 ∧ only PJ I p.1) (fun R => ∃ I' K', R = pm_oV (c, w, S, I', K') ∧ TT 1000 105 106 (fs se a y t f) (b + 1) I' K' ∧ only PJ I I') ?_ ?_ pm_N 0 (I, K) ⟨TT_c (TT_m hf (by omega)) (fun j hj => ?_), only_r⟩ (by omega) (by rw [pm_NE]; omega)
  · intro again u p hu hQ hn
    obtain ⟨B, L⟩ := p
    obtain ⟨q1, q2⟩ := hQ
    simp only at q1 q2
    obtain ⟨m, hm⟩ : ∃ m, m = a - u := ⟨_, rfl⟩
    generalize hg : gt se a y t f u = g at q1
    have g0 : ∀ j, j < 26 → j / 2 ≤ m → g j = f j := fun j hj hjm => by rw [← hg]; exact if_neg (by omega)
    have c0 := q1 (2 * m) (by omega)
    have c1 := q1 (2 * m + 1) (by omega)
    rw [g0 (2 * m) (by omega) (by omega)] at c0
    rw [g0 (2 * m + 1) (by omega) (by omega)] at c1
    -- the bound of what was there: b
    have k0 : cE 1000 b (f (2 * m)) (B 105 (2 * m)) (L 106 (2 * m)) := by
      have hh := hf (2 * m) (by omega)
      cases e : f (2 * m) with
      | none => rw [e] at c0; exact c0
      | some p => rw [e] at c0 hh; exact ⟨hh.1, c0.2⟩
    have k1 := c1
    unfold X4_passWord_L17
    simp only
    rw [dn_i (by omega), ← hm, if_neg (nI_pos (by omega)), dbl, ly_bI, lr_102_3 h, ld_105 h (by omega), lr_102_4 h, ld_106 h (by omega), lr_102_3 h, nI_1, ld_105 h (by omega), lr_102_4 h, ld_106 h (by omega), lr_102_3 h, ls_105 h (by omega), lr_102_4 h, ls_106 h (by omega), lr_102_3 h, ls_105 h (by omega), lr_102_4 h, ls_106 h (by omega), nI_add, lc_102 h]
    have t1 : TT 1000 105 106 (fu (fu g (2 * m) none) (2 * m + 1) none) (b + 1) (ly_u (ly_u B 105 (2 * m) 1000) 105 (2 * m + 1) 1000) (ly_v (ly_v L 106 (2 * m) 0) 106 (2 * m + 1) 0) := TT_u (v := none) (TT_u (v := none) q1 (show (1000 : Int32) = nI 1000 from rfl)) (show (1000 : Int32) = nI 1000 from rfl)
    obtain ⟨B2, L2, j1, j2, j3⟩ := jo_C (w := w) (j := 2 * m + t) (v := upv t (f (2 * m))) h (by omega) t1 (aE_u k0 ht) (by omega)
    obtain ⟨B3, L3, l1, l2, l3⟩ := jo_C (w := w) (j := 2 * m + t) (v := f (2 * m + 1)) h (by omega) j2 (aE_0 k1) (by omega)
    have o3 : only PJ I B3 := only_t (only_t (only_u (only_u q2 rfl) rfl) j3) l3
    generalize hg3 : fu (fu (fu (fu g (2 * m) none) (2 * m + 1) none) (2 * m + t) _) (2 * m + t) _ = g3 at l2
    have v1 : g3 (2 * m + t) = fs se a y t f (2 * m + t) := by
      rw [← hg3, fu_s, fu_s, fs_a ht (by omega)]
      have : fu (fu g (2 * m) none) (2 * m + 1) none (2 * m + t) = none := by
        rcases (show t = 0 ∨ t = 1 by omega) with rfl | rfl
        · rw [fu_n (by omega)]; exact fu_s
        · exact fu_s
      rw [this]; rfl
    have v2 : g3 (2 * m + (1 - t)) = none := by
      rw [← hg3, fu_n (by omega), fu_n (by omega)]
      rcases (show t = 0 ∨ t = 1 by omega) with rfl | rfl
      · exact fu_s
      · rw [fu_n (by omega)]; exact fu_s
    have v3 : ∀ j, j / 2 ≠ m → g3 j = g j := fun j hj => by
      rw [← hg3, fu_n (by omega), fu_n (by omega), fu_n (by omega), fu_n (by omega)]
    have nx : ∀ g' B' L', TT 1000 105 106 g' (b + 1) B' L' → only PJ I B' → g' (2 * m + t) = fs se a y t f (2 * m + t) → g' (2 * m + (1 - t)) = fs se a y t f (2 * m + (1 - t)) → (∀ j, j / 2 ≠ m → g' j = g j) → ∃ I' K', X4_passWord_j218 again 102 83 (nI y) (nI t) (nI m) (c, w, S, B', L') = pm_oV (c, w, S, I', K') ∧ TT 1000 105 106 (fs se a y t f) (b + 1) I' K' ∧ only PJ I I' := by
      intro g' B' L' a1 a2 a3 a4 a5
      unfold X4_passWord_j218
      have hs : nI m + (-1) = dn a (u + 1) := by rw [hm]; exact dn_s (by omega)
      rw [ly_bI, hs]
      refine hn (B', L') ⟨TT_c a1 (fun j hj => ?_), a2⟩
      by_cases e : j / 2 = m
      · have ej : j = 2 * m + t ∨ j = 2 * m + (1 - t) := by omega
        unfold gt
        rw [if_pos (by omega)]
        rcases ej with e2 | e2
        · rw [e2, a3]
        · rw [e2, a4]
      · rw [a5 j e, ← hg]
        unfold gt
        by_cases e3 : a < j / 2 + u
        · rw [if_pos (by omega), if_pos e3]
        · rw [if_neg (by omega), if_neg e3]
    rw [j1, ly_cV, lc_102 h, l1, ly_cV]
    by_cases hm0 : m = 0
    · rw [if_pos (show nI m ≤ 0 by rw [hm0]; decide)]
      exact nx g3 B3 L3 l2 o3 v1 (by rw [v2, fs_b ht (by omega), if_neg (by omega)]) v3
    · have hse := (hS.2.2.2 (m - 1) (by omega))
      have e84 : B3 84 (m - 1) = nI (se (m - 1)) := by rw [o3 84 _ (by unfold PJ; omega)]; exact hse.1
      rw [if_neg (show ¬ nI m ≤ 0 from (show ¬ nI m ≤ nI 0 from nI_ge (by omega) (by omega))), lr_83_0 h, show nI m - 1 = nI (m - 1) from pk_sub (a := m) (b := 1) (by omega), ld_84 h (by omega), e84]
      by_cases hq : se (m - 1) = y
      · have d0 := l2 (2 * (m - 1)) (by omega)
        rw [v3 _ (by omega), g0 _ (by omega) (by omega)] at d0
        have kk0 : cE 1000 b (f (2 * (m - 1))) (B3 105 (2 * (m - 1))) (L3 106 (2 * (m - 1))) := by
          have hh := hf (2 * (m - 1)) (by omega)
          cases e : f (2 * (m - 1)) with
          | none => rw [e] at d0; exact d0
          | some p => rw [e] at d0 hh; exact ⟨hh.1, d0.2⟩
        obtain ⟨B4, L4, m1, m2, m3⟩ := jo_C (w := w) (j := 2 * m + (1 - t)) (v := upv (1 - t) (f (2 * (m - 1)))) h (by omega) l2 (aE_u kk0 (by omega)) (by omega)
        have d1 := m2 (2 * (m - 1) + 1) (by omega)
        rw [fu_n (by omega), v3 _ (by omega), g0 _ (by omega) (by omega)] at d1
        obtain ⟨B5, L5, n1, n2, n3⟩ := jo_C (w := w) (j := 2 * m + (1 - t)) (v := f (2 * (m - 1) + 1)) h (by omega) m2 (aE_0 d1) (by omega)
        rw [if_pos (by rw [hq]), show (1 : Int32) - nI t = nI (1 - t) from pk_sub (a := 1) (b := t) ht, ly_bI, lr_102_3 h, show nI (2 * m) - 2 = nI (2 * (m - 1)) from (pk_sub (a := 2 * m) (b := 2) (by omega)).trans (by rw [show 2 * m - 2 = 2 * (m - 1) by omega]), ld_105 h (by omega), lr_102_4 h, ld_106 h (by omega), nI_add, lc_102 h, m1, ly_cV, lr_102_3 h, show nI (2 * m) - 1 = nI (2 * (m - 1) + 1) from (pk_sub (a := 2 * m) (b := 1) (by omega)).trans (by rw [show 2 * m - 1 = 2 * (m - 1) + 1 by omega]), ld_105 h (by omega), lr_102_4 h, ld_106 h (by omega), lc_102 h, n1, ly_cV]
        refine nx _ B5 L5 n2 (only_t (only_t o3 m3) n3) ?_ ?_ (fun j hj => ?_)
        · rw [fu_n (by omega), fu_n (by omega), v1]
        · rw [fu_s, fu_s, v2, fs_b ht (by omega), if_pos ⟨by omega, hq⟩]; rfl
        · rw [fu_n (by omega), fu_n (by omega), v3 j hj]
      · rw [if_neg (fun e => hq ((nI_eq (by omega) (by omega)).mp e))]
        exact nx g3 B3 L3 l2 o3 v1 (by rw [v2, fs_b ht (by omega), if_neg (fun e => hq e.2)]) v3
  · intro again p hQ
    unfold X4_passWord_L17
    simp only
    rw [dn_e, if_pos (by decide)]
    refine ⟨p.1, p.2, rfl, TT_c hQ.1 (fun j hj => ?_), hQ.2⟩
    unfold gt
    rw [if_pos (by omega)]
  · unfold gt
    by_cases e : a < j / 2 + 0
    · rw [if_pos e, fs_c (by omega)]
    · rw [if_neg e]
/-- a line ends: what a table becomes -/
def en (a : Nat) (f : Nat → vS) (j : Nat) : vS := if j / 2 ≤ a then (if j % 2 = 0 then jn (f j) (f (j + 1)) else none) else f j
theorem ens_C {f : Nat → vS} (h : ly c S) (ha : a ≤ 12) (hf : TT 1000 105 106 f b I K) (hb : b ≤ 60) : ∃ I' K', X4_endStrokes 102 (nI a) (c, w, S, I, K) = pm_oV (c, w, S, I', K') ∧ TT 1000 105 106 (en a f) b I' K' ∧ only PJ I I' := by
  unfold X4_endStrokes
  refine ly_loop (fun m (p : (Nat → Nat → Int32) × (Nat → Nat → Int64)) => ((nI m, (c, w, S, p.1, p.2)) : Int32 × pmM)) (a + 1) (fun m p => TT 1000 105 106 (fun j => if j / 2 < m then en a f j else f j) b p.1 p.2 ∧ only PJ I p.1) (fun R => ∃ I' K', R = pm_oV (c, w, S, I', K') ∧ TT 1000 105 106 (en a f) b I' K' ∧ only PJ I I') ?_ ?_ pm_N 0 (I, K) ⟨TT_c hf (fun j hj => if_neg (by omega)), only_r⟩ (by omega) (by rw [pm_NE]; omega)
  · intro again m p hm hQ hn
    obtain ⟨B, L⟩ := p
    obtain ⟨q1, q2⟩ := hQ
    simp only at q1 q2
    have c1 := q1 (2 * m + 1) (by omega)
    simp only at c1
    rw [if_neg (by omega)] at c1
    obtain ⟨B2, L2, j1, j2, j3⟩ := jo_C (w := w) (j := 2 * m) (v := f (2 * m + 1)) h (by omega) q1 (aE_0 c1) hb
    unfold X4_endStrokes_L2
    simp only
    rw [if_neg (nI_nlt (by omega) (by omega)), lr_102_3 h, dbl, nI_1, ld_105 h (by omega), lr_102_4 h, ld_106 h (by omega), lc_102 h, j1, ly_cV, lr_102_3 h, ls_105 h (by omega), lr_102_4 h, ls_106 h (by omega), ly_bI, nI_1]
    refine hn (_, _) ⟨TT_c (TT_u (v := none) j2 (show (1000 : Int32) = nI 1000 from rfl)) (fun j hj => ?_), only_u (only_t q2 j3) rfl⟩
    by_cases e1 : j = 2 * m + 1
    · rw [e1, fu_s]
      rw [if_pos (by omega)]
      unfold en
      rw [if_pos (by omega), if_neg (by omega)]
    · rw [fu_n e1]
      by_cases e2 : j = 2 * m
      · rw [e2, fu_s]
        rw [if_pos (by omega), if_neg (by omega)]
        unfold en
        rw [if_pos (by omega), if_pos (by omega)]
      · rw [fu_n e2]
        by_cases e3 : j / 2 < m
        · rw [if_pos (by omega), if_pos e3]
        · rw [if_neg (by omega), if_neg e3]
  · intro again p hQ
    unfold X4_endStrokes_L2
    simp only
    rw [if_pos (nI_lt (by omega) (by omega))]
    refine ⟨p.1, p.2, rfl, TT_c hQ.1 (fun j hj => ?_), hQ.2⟩
    by_cases e : j / 2 < a + 1
    · rw [if_pos e]
    · rw [if_neg e]; exact if_neg (by omega)
def T0 : Nat → vS := fun j => if j = 0 then some (0, 1) else none
def tb0 (s : Nat → Nat) (l i : Nat) : Nat := if (s l).testBit i then 0 else 1
def gw (se : Nat → Nat) (a : Nat) (q : Nat → Nat → Nat) (s : Nat → Nat) (T : Nat → vS) (l : Nat) : Nat → Nat → vS
  | 0 => T
  | i + 1 => fs se a (q l i) (tb0 s l i) (gw se a q s T l i)
def gl (se : Nat → Nat) (a : Nat) (wd : Nat → Nat) (q : Nat → Nat → Nat) (s : Nat → Nat) : Nat → Nat → vS
  | 0 => T0
  | l + 1 => en a (gw se a q s (gl se a wd q s l) l (wd l))
theorem sf_C (h : ly c S) (hP : pg_C I n wd q) (hC : dk_C I 93 r) (hr : dk_W n wd r) (hS : js I a se) : ∃ I' K', X4_seekFewest 102 93 83 (c, w, S, I, K) = pm_oV (c, w, S, I', K') ∧ TT 1000 105 106 (gl se a wd q (rd_s r) n) 48 I' K' ∧ only PJ I I' := by
  have hW := hP.1
  have hn6 := hW.1
  have ha12 := hS.1
  have hsm := sum_48 hW (Nat.le_refl n)
  unfold X4_seekFewest
  refine ly_loop (fun i (p : (Nat → Nat → Int32) × (Nat → Nat → Int64)) => ((nI i, (c, w, S, p.1, p.2)) : Int32 × pmM)) 26 (fun i p => (∀ j, j < i → p.1 105 j = 1000) ∧ only PJ I p.1) (fun R => ∃ I' K', R = pm_oV (c, w, S, I', K') ∧ TT 1000 105 106 (gl se a wd q (rd_s r) n) 48 I' K' ∧ only PJ I I') ?_ ?_ pm_N 0 (I, K) ⟨fun j hj => by omega, only_r⟩ (by omega) (by rw [pm_NE]; omega)
  · intro again i p hi hQ hn
    unfold X4_seekFewest_L2
    simp only
    rw [if_neg (show ¬ (26 : Int32) ≤ nI i from nI_ge (b := 26) hi (by omega)), lr_102_3 h, ls_105 h hi, lr_102_4 h, ls_106 h hi, ly_bI, nI_1]
    refine hn (ly_u p.1 105 i 1000, ly_v p.2 106 i 0) ⟨fun j hj => ?_, only_u hQ.2 rfl⟩
    show ly_u p.1 105 i 1000 105 j = 1000
    rw [ly_uE]
    by_cases e : j = i
    · rw [if_pos ⟨rfl, e⟩]
    · rw [if_neg (fun e2 => e e2.2)]; exact hQ.1 j (by omega)
  · intro again p hQ
    obtain ⟨B, L⟩ := p
    obtain ⟨q1, q2⟩ := hQ
    simp only at q1 q2
    unfold X4_seekFewest_L2
    simp only
    rw [if_pos (show (26 : Int32) ≤ nI 26 by decide), lr_102_3 h, st_i (i := 0) 0 rfl, ls_105 h (by omega), lr_102_4 h, show pm_stL 106 0 1 (c, w, S, ly_u B 105 0 0, L) = pm_stL 106 (nI 0) 1 (c, w, S, ly_u B 105 0 0, L) from rfl, ls_106 h (by omega)]
    have t0 : TT 1000 105 106 T0 0 (ly_u B 105 0 0) (ly_v L 106 0 1) := by
      intro j hj
      unfold T0
      by_cases e : j = 0
      · rw [if_pos e, e]; exact ⟨Nat.le_refl _, by rw [ly_uE, if_pos ⟨rfl, rfl⟩]; rfl, by rw [ly_vE, if_pos ⟨rfl, rfl⟩]⟩
      · rw [if_neg e, ly_uE, if_neg (fun e2 => e e2.2)]; exact q1 j hj
    refine ly_loop (fun l (p : (Nat → Nat → Int32) × (Nat → Nat → Int64)) => ((nI l, (c, w, S, p.1, p.2)) : Int32 × pmM)) n (fun l p => TT 1000 105 106 (gl se a wd q (rd_s r) l) (rd_sum wd l) p.1 p.2 ∧ only PJ I p.1) (fun R => ∃ I' K', R = pm_oV (c, w, S, I', K') ∧ TT 1000 105 106 (gl se a wd q (rd_s r) n) 48 I' K' ∧ only PJ I I') ?_ ?_ pm_N 0 (_, _) ⟨t0, only_u q2 rfl⟩ (by omega) (by rw [pm_NE]; omega)
    · intro again2 l p hl hQ2 hn2
      obtain ⟨B, L⟩ := p
      obtain ⟨q1, q2⟩ := hQ2
      simp only at q1 q2
      have hw := hW.2.1 l hl
      have e3 : ∀ B, only PJ I B → B 67 3 = nI n := fun B hB => by rw [hB 67 3 (by unfold PJ; omega)]; exact hP.2.1
      unfold X4_seekFewest_L46
      simp only
      rw [lr_102_0 h, lg_67 h, e3 B q2, if_neg (nI_ge hl (by omega))]
      refine ly_loop (fun i (p : (Nat → Nat → Int32) × (Nat → Nat → Int64)) => ((nI i, (c, w, S, p.1, p.2)) : Int32 × pmM)) (wd l) (fun i p => TT 1000 105 106 (gw se a q (rd_s r) (gl se a wd q (rd_s r) l) l i) (rd_sum wd l + i) p.1 p.2 ∧ only PJ I p.1) (fun R => ∃ I' K', R = pm_oV (c, w, S, I', K') ∧ TT 1000 105 106 (gl se a wd q (rd_s r) n) 48 I' K' ∧ only PJ I I') ?_ ?_ pm_N 0 (B, L) ⟨q1, q2⟩ (by omega) (by rw [pm_NE]; omega)
      · intro again3 i p hi hQ3 hn3
        obtain ⟨B, L⟩ := p
        obtain ⟨q1, q2⟩ := hQ3
        simp only at q1 q2
        have hsB := sk_105 q2
        have hPB := pg_C_same hP hsB
        have hat := sum_at hl hi
        have hq16 := hW.2.2.2 l i hl hi
        obtain ⟨B2, L2, j1, j2, j3⟩ := pwd_C (w := w) (y := q l i) (t := tb0 (rd_s r) l i) h (js_same hS hsB) q1 (by omega) hq16 (by unfold tb0; split <;> omega)
        have ew : X4_passWord 102 83 (nI (q l i)) (ly_b (decide (l < n ∧ i < wd l ∧ (rd_s r l).testBit i = false))) (c, w, S, B, L) = X4_passWord_j9 102 83 (nI (q l i)) (nI (tb0 (rd_s r) l i)) (c, w, S, B, L) := by
          unfold X4_passWord tb0
          cases hb : (rd_s r l).testBit i
          · rw [decide_eq_true ⟨hl, hi, rfl⟩, ib1]; rfl
          · rw [decide_eq_false (fun e => absurd e.2.2 (by decide)), ib0]; rfl
        unfold X4_seekFewest_L60
        simp only
        rw [lr_102_0 h, lr_67_0 h, ld_68 h (by omega), hPB.2.2.1 l hl, if_neg (nI_ge hi (by omega)), lr_102_0 h, lc_67 h, rd_wordAt h hPB (by omega) (by omega), ly_cI, show rd_q n wd q l i = q l i from if_pos ⟨hl, hi⟩, lc_93 h, rd_isLeft h hPB dk_93 (dk_C_same hC hsB) hr (by omega) (by omega), ly_cI, lc_102 h, ew, j1, ly_cV, ly_bI, nI_1]
        exact hn3 (B2, L2) ⟨j2, only_t q2 j3⟩
      · intro again3 p hQ3
        obtain ⟨B, L⟩ := p
        obtain ⟨q1, q2⟩ := hQ3
        simp only at q1 q2
        have hsB := sk_105 q2
        have hPB := pg_C_same hP hsB
        have hle : rd_sum wd (l + 1) ≤ rd_sum wd n := rd_sum_mono (by omega)
        have hle2 : rd_sum wd (l + 1) = rd_sum wd l + wd l := rfl
        obtain ⟨B2, L2, j1, j2, j3⟩ := ens_C (w := w) h ha12 q1 (by omega)
        unfold X4_seekFewest_L60
        simp only
        rw [lr_102_0 h, lr_67_0 h, ld_68 h (by omega), hPB.2.2.1 l hl, if_pos (nI_le (Nat.le_refl _) (by omega)), lg_83 h, (js_same hS hsB).2.1, lc_102 h, j1, ly_cV, ly_bI, nI_1]
        exact hn2 (B2, L2) ⟨j2, only_t q2 j3⟩
    · intro again2 p hQ2
      unfold X4_seekFewest_L46
      simp only
      rw [lr_102_0 h, lg_67 h, show p.1 67 3 = nI n by rw [hQ2.2 67 3 (by unfold PJ; omega)]; exact hP.2.1, if_pos (nI_le (Nat.le_refl _) (by omega))]
      exact ⟨p.1, p.2, rfl, TT_m hQ2.1 (by omega), hQ2.2⟩
end STK
