/-! the constructors: how the memory stands once class and model are made. Written by wip/whole/gen/gen8b.py -/
section INI
variable {L : Nat} {xs : Nat → Int32} {c w : Nat} {rs : List (Nat × Nat × Nat)} {es : List (Nat × Nat × Int32)} {m : pmM} (Q : pmR → Prop)
def st_S (L : Nat) (k : Nat) : pmS := if k = 0 then (100, L, fun _ => none) else if k = 1 then (100, 5, fun _ => none) else if k = 2 then (100, 9, fun _ => none) else if 33 ≤ k ∧ k < 52 then (105, (st_bytes.getD (k - 33) []).length, fun _ => none) else (199, 0, fun _ => none)
def st_I (xs : Nat → Int32) (k j : Nat) : Int32 := if k = 0 then xs j else if k = 1 then ([1, -1, 2, -11, -8] : List Int32).getD j 0 else if k = 2 then ([0, 1, 2, 3, 1, 4, 3, 2, 1] : List Int32).getD j 0 else if 33 ≤ k ∧ k < 52 then (st_bytes.getD (k - 33) []).getD j 0 else 0
def pm_m0 (L : Nat) (xs : Nat → Int32) : pmM := (64, 0, st_S L, st_I xs, fun _ _ => 0)
abbrev qz_no (a : Nat) : Prop := a ≠ 114 ∧ a ≠ 121 ∧ a ≠ 128 ∧ a ≠ 289 ∧ a ≠ 454 ∧ a ≠ 537 ∧ a ≠ 554 ∧ a ≠ 566 ∧ a ≠ 582
def qz_r (rs : List (Nat × Nat × Nat)) (a j : Nat) : Option Nat := if a = 114 then (if j < 6 then some (115 + j) else none) else if a = 121 then (if j < 6 then some (122 + j) else none) else if a = 128 then (if j < 160 then some (129 + j) else none) else if a = 289 then (if j < 160 then some (290 + j) else none) else if a = 454 then (if j < 80 then some (455 + j) else none) else if a = 537 then (if j < 16 then some (538 + j) else none) else if a = 554 then (if j < 3 then some (555 + j) else none) else if a = 566 then (if j < 13 then some (567 + j) else none) else if a = 582 then (if j < 9 then some (583 + j) else none) else (rs.find? (fun t => Nat.beq t.1 a && Nat.beq t.2.1 j)).map (fun t => t.2.2)
def qz_e (xs : Nat → Int32) (es : List (Nat × Nat × Int32)) (i j : Nat) : Int32 := match es.find? (fun t => Nat.beq t.1 i && Nat.beq t.2.1 j) with
  | some t => t.2.2
  | none => st_I xs i j
def qz (L : Nat) (xs : Nat → Int32) (c w : Nat) (rs : List (Nat × Nat × Nat)) (es : List (Nat × Nat × Int32)) (m : pmM) : Prop := m.1 = c ∧ m.2.1 = w ∧ 64 ≤ c ∧ m.2.2.1 0 = (100, L, fun _ => none) ∧ (∀ a, 0 < a → a < c → m.2.2.1 a = ((ly_f a).1, (ly_f a).2, qz_r rs a)) ∧ (∀ i j, i < c → m.2.2.2.1 i j = qz_e xs es i j) ∧ (∀ t ∈ rs, t.1 < c) ∧ (∀ t ∈ es, 64 ≤ t.1 ∧ t.1 < c)
theorem beqn {a b : Nat} (h : a ≠ b) : Nat.beq a b = false := by
  cases e : Nat.beq a b with
  | false => rfl
  | true => exact absurd (Nat.eq_of_beq_eq_true e) h
theorem beqs {a : Nat} : Nat.beq a a = true := Nat.beq_refl a
theorem qz_rE {a j : Nat} (h : qz_no a) : qz_r rs a j = (rs.find? (fun t => Nat.beq t.1 a && Nat.beq t.2.1 j)).map (fun t => t.2.2) := by
  obtain ⟨h1, h2, h3, h4, h5, h6, h7, h8, h9⟩ := h
  unfold qz_r
  rw [if_neg h1, if_neg h2, if_neg h3, if_neg h4, if_neg h5, if_neg h6, if_neg h7, if_neg h8, if_neg h9]
theorem qz_rN {a : Nat} (h : ∀ t ∈ rs, t.1 < c) (ha : c ≤ a) (hn : qz_no a) : qz_r rs a = fun _ => none := by
  funext j
  rw [qz_rE hn, List.find?_eq_none.mpr (fun t ht => by
    have := h t ht
    rw [beqn (show t.1 ≠ a by omega)]; simp)]
  rfl
theorem qz_rC {a k b i : Nat} (hi : i ≠ a) : qz_r ((a, k, b) :: rs) i = qz_r rs i := by
  funext j
  unfold qz_r
  rw [List.find?_cons_of_neg (by rw [beqn (Ne.symm hi)]; simp)]
theorem qz_eN {i j : Nat} (h : ∀ t ∈ es, 64 ≤ t.1 ∧ t.1 < c) (hi : c ≤ i) (hc : 64 ≤ c) : qz_e xs es i j = 0 := by
  unfold qz_e
  rw [List.find?_eq_none.mpr (fun t ht => by
    have := h t ht
    rw [beqn (show t.1 ≠ i by omega)]; simp)]
  unfold st_I
  rw [if_neg (by omega), if_neg (by omega), if_neg (by omega), if_neg (by omega)]
theorem qz_eZ {i j : Nat} (h : (es.all fun t => !(Nat.beq t.1 i)) = true) (hc : 64 ≤ i) : qz_e xs es i j = 0 := by
  unfold qz_e
  rw [List.find?_eq_none.mpr (fun t ht => by
    have := List.all_eq_true.mp h t ht
    revert this
    cases Nat.beq t.1 i <;> simp)]
  unfold st_I
  rw [if_neg (by omega), if_neg (by omega), if_neg (by omega), if_neg (by omega)]
theorem qz_al {ci n k c' w' : Nat} (h : qz L xs c w rs es m) (hf : ly_f c = (ci, k)) (ho : qz_no c) (hc : c' = c + 1) (hw : w' = w + n) : qz L xs c' w' rs es (pm_al m (ci, k, fun _ => none) n) := by
  obtain ⟨h1, h2, h3, h4, h5, h6, h7, h8⟩ := h
  subst hc hw
  refine ⟨by show m.1 + 1 = _; rw [h1], by show m.2.1 + n = _; rw [h2], by omega, ?_, fun a h0 ha => ?_, fun i j hi => ?_, fun t ht => by have := h7 t ht; omega, fun t ht => by have := h8 t ht; omega⟩
  · show (if 0 = m.1 then _ else m.2.2.1 0) = _
    rw [if_neg (by omega), h4]
  · show (if a = m.1 then (ci, k, fun _ => none) else m.2.2.1 a) = _
    by_cases e : a = m.1
    · rw [if_pos e]
      have e2 : a = c := by omega
      rw [e2, hf, qz_rN h7 (Nat.le_refl _) ho]
    · rw [if_neg e]; exact h5 a h0 (by omega)
  · show (if i = m.1 then 0 else m.2.2.2.1 i j) = _
    by_cases e : i = m.1
    · rw [if_pos e]; exact (qz_eN h8 (by omega) h3).symm
    · rw [if_neg e]; exact h6 i j (by omega)
theorem qz_nw {ci n c' w' : Nat} {f : Nat → pmM → pmR} (h : qz L xs c w rs es m) (hf : ly_f c = (ci, 0)) (ho : qz_no c) (hc : c' = c + 1) (hw : w' = w + n) (k : ∀ m', qz L xs c' w' rs es m' → Q (f c m')) : Q (pm_nw ci n m f) := by
  unfold pm_nw
  rw [h.1]
  exact k _ (qz_al h hf ho hc hw)
theorem qz_na {kd : Nat} (N : Nat) {n : Int32} {c' w' : Nat} {f : Nat → pmM → pmR} (h : qz L xs c w rs es m) (hf : ly_f c = (kd, N)) (ho : qz_no c) (hc : c' = c + 1) (hw : w' = w + N) (hn : n = nI N) (hN : N ≤ 1000000) (k : ∀ m', qz L xs c' w' rs es m' → Q (f c m')) : Q (pm_na kd n m f) := by
  subst hn
  unfold pm_na
  rw [nI_clamp (by omega), if_neg (by
    rintro (h9 | h9)
    · exact nI_pos (by omega) h9
    · omega), h.1]
  exact k _ (qz_al h hf ho hc hw)
theorem qz_nm {kd ik : Nat} (N K : Nat) {n n2 : Int32} {c1 c' w' : Nat} {f : Nat → pmM → pmR} (h : qz L xs c w rs es m) (hf : ly_f c = (kd, N)) (hc1 : c1 = c + 1) (ho : ∀ rs j, qz_r rs c j = if j < N then some (c1 + j) else none) (hi : ∀ i, i < N → ly_f (c1 + i) = (ik, K) ∧ qz_no (c1 + i)) (hc : c' = c1 + N) (hw : w' = w + (N + N * K)) (hn : n = nI N) (hn2 : n2 = nI K) (hN : N ≤ 10000) (hK : K ≤ 10000) (k : ∀ m', qz L xs c' w' rs es m' → Q (f c m')) : Q (pm_nm kd ik n n2 m f) := by
  subst hn hn2
  unfold pm_nm
  rw [nI_clamp (n := N) (by omega), nI_clamp (n := K) (by omega), if_neg (by
    rintro (h9 | h9 | h9 | h9)
    · exact nI_pos (by omega) h9
    · exact nI_pos (by omega) h9
    · omega
    · omega), h.1]
  refine k _ ?_
  obtain ⟨h1, h2, h3, h4, h5, h6, h7, h8⟩ := h
  subst hc hw hc1
  refine ⟨by show m.1 + (1 + N) = _; omega, by show m.2.1 + (N + N * K) = _; rw [h2], by omega, ?_, fun a h0 ha => ?_, fun i j hi => ?_, fun t ht => by have := h7 t ht; omega, fun t ht => by have := h8 t ht; omega⟩
  · show (if 0 = m.1 then _ else if m.1 < 0 then _ else m.2.2.1 0) = _
    rw [if_neg (by omega), if_neg (by omega), h4]
  · show (if a = m.1 then (kd, N, fun j => if j < N then some (m.1 + 1 + j) else none) else if m.1 < a then (ik, K, fun _ => none) else m.2.2.1 a) = _
    by_cases e : a = m.1
    · rw [if_pos e]
      have e2 : a = c := by omega
      rw [e2, hf, h1]
      exact congrArg (fun z => (kd, N, z)) (funext fun j => (ho rs j).symm)
    · rw [if_neg e]
      by_cases e2 : m.1 < a
      · rw [if_pos e2]
        obtain ⟨g1, g2⟩ := hi (a - (c + 1)) (by omega)
        rw [show c + 1 + (a - (c + 1)) = a by omega] at g1 g2
        rw [g1, qz_rN h7 (by omega) g2]
      · rw [if_neg e2]; exact h5 a h0 (by omega)
  · show (if m.1 ≤ i then 0 else m.2.2.2.1 i j) = _
    by_cases e : m.1 ≤ i
    · rw [if_pos e]; exact (qz_eN h8 (by omega) h3).symm
    · rw [if_neg e]; exact h6 i j (by omega)
theorem qz_is {ci a : Nat} (h : qz L xs c w rs es m) (hf : (ly_f a).1 = ci) (h0 : 0 < a) (ha : a < c) : a < m.1 ∧ (m.2.2.1 a).1 = ci := by
  obtain ⟨h1, h2, h3, h4, h5, h6, h7, h8⟩ := h
  rw [h5 a h0 ha]
  exact ⟨by omega, hf⟩
theorem qz_pR {ci a k b : Nat} {f : pmM → pmR} (h : qz L xs c w rs es m) (hf : (ly_f a).1 = ci) (h64 : 64 ≤ a) (ha : a < c) (hn : qz_no a) (kk : ∀ m', qz L xs c w ((a, k, b) :: rs) es m' → Q (f m')) : Q (pm_pR ci a k b m f) := by
  have hq := qz_is h hf (by omega) ha
  unfold pm_pR
  rw [if_pos ⟨⟨h64, hq.1⟩, hq.2⟩]
  clear hq
  refine kk _ ?_
  obtain ⟨h1, h2, h3, h4, h5, h6, h7, h8⟩ := h
  refine ⟨h1, h2, h3, ?_, fun i h0 hi => ?_, h6, fun t ht => ?_, h8⟩
  · show (if 0 = a then _ else m.2.2.1 0) = _
    rw [if_neg (by omega), h4]
  · show (if i = a then ((m.2.2.1 a).1, (m.2.2.1 a).2.1, fun j => if j = k then some b else (m.2.2.1 a).2.2 j) else m.2.2.1 i) = _
    by_cases e : i = a
    · subst e
      rw [if_pos rfl, h5 i h0 hi]
      refine congrArg (fun z => ((ly_f i).1, (ly_f i).2, z)) (funext fun j => ?_)
      show (if j = k then some b else qz_r rs i j) = _
      rw [qz_rE hn, qz_rE hn]
      by_cases e : j = k
      · subst e
        rw [if_pos rfl, List.find?_cons_of_pos (by simp [beqs])]
        rfl
      · rw [if_neg e, List.find?_cons_of_neg (by rw [beqn (Ne.symm e)]; simp)]
    · rw [if_neg e, qz_rC e]; exact h5 i h0 hi
  · rcases List.mem_cons.mp ht with rfl | ht
    · exact ha
    · exact h7 t ht
theorem qz_wI {a k : Nat} {v : Int32} (h : qz L xs c w rs es m) (h64 : 64 ≤ a) (ha : a < c) : qz L xs c w rs ((a, k, v) :: es) (pm_wI m a k v) := by
  obtain ⟨h1, h2, h3, h4, h5, h6, h7, h8⟩ := h
  refine ⟨h1, h2, h3, h4, h5, fun i j hi => ?_, h7, fun t ht => ?_⟩
  · show (if i = a ∧ j = k then v else m.2.2.2.1 i j) = _
    rw [h6 i j hi]
    unfold qz_e
    by_cases e : i = a ∧ j = k
    · obtain ⟨rfl, rfl⟩ := e
      rw [if_pos ⟨rfl, rfl⟩, List.find?_cons_of_pos (by simp [beqs])]
    · rw [if_neg e, List.find?_cons_of_neg (by
        intro h9
        rw [Bool.and_eq_true] at h9
        exact e ⟨(Nat.eq_of_beq_eq_true h9.1).symm, (Nat.eq_of_beq_eq_true h9.2).symm⟩)]
  · rcases List.mem_cons.mp ht with rfl | ht
    · exact ⟨h64, ha⟩
    · exact h8 t ht
theorem qz_wS {a k : Nat} {v : Int32} (h : qz L xs c w rs es m) (ha : a < c) (hv : qz_e xs es a k = v) : qz L xs c w rs es (pm_wI m a k v) := by
  obtain ⟨h1, h2, h3, h4, h5, h6, h7, h8⟩ := h
  refine ⟨h1, h2, h3, h4, h5, fun i j hi => ?_, h7, h8⟩
  show (if i = a ∧ j = k then v else m.2.2.2.1 i j) = _
  by_cases e : i = a ∧ j = k
  · obtain ⟨rfl, rfl⟩ := e
    rw [if_pos ⟨rfl, rfl⟩, hv]
  · rw [if_neg e]; exact h6 i j hi
theorem qz_pI {ci a k : Nat} {v : Int32} {f : pmM → pmR} (h : qz L xs c w rs es m) (hf : (ly_f a).1 = ci) (h64 : 64 ≤ a) (ha : a < c) (kk : ∀ m', qz L xs c w rs ((a, k, v) :: es) m' → Q (f m')) : Q (pm_pI ci a k v m f) := by
  have hi := qz_is h hf (by omega) ha
  unfold pm_pI
  rw [if_pos ⟨⟨h64, hi.1⟩, hi.2⟩]
  exact kk _ (qz_wI h h64 ha)
theorem qz_pS {ci a k : Nat} {v : Int32} {f : pmM → pmR} (h : qz L xs c w rs es m) (hf : (ly_f a).1 = ci) (h64 : 64 ≤ a) (ha : a < c) (hv : qz_e xs es a k = v) (kk : ∀ m', qz L xs c w rs es m' → Q (f m')) : Q (pm_pI ci a k v m f) := by
  have hi := qz_is h hf (by omega) ha
  unfold pm_pI
  rw [if_pos ⟨⟨h64, hi.1⟩, hi.2⟩]
  exact kk _ (qz_wS h ha hv)
theorem qz_gI {ci a k : Nat} {v : Int32} {f : Int32 → pmR} (h : qz L xs c w rs es m) (hf : (ly_f a).1 = ci) (h0 : 0 < a) (ha : a < c) (hv : qz_e xs es a k = v) (kk : Q (f v)) : Q (pm_gI ci a k m f) := by
  unfold pm_gI
  rw [if_pos (qz_is h hf h0 ha), h.2.2.2.2.2.1 a k ha, hv]
  exact kk
theorem qz_gR {ci a k b : Nat} {f : Nat → pmR} (h : qz L xs c w rs es m) (hf : (ly_f a).1 = ci) (h0 : 0 < a) (ha : a < c) (hv : qz_r rs a k = some b) (kk : Q (f b)) : Q (pm_gR ci a k m f) := by
  unfold pm_gR
  rw [if_pos (qz_is h hf h0 ha), h.2.2.2.2.1 a h0 ha]
  simp only [hv]
  exact kk
theorem qz_rc {ci a : Nat} {r : pmR} (h : qz L xs c w rs es m) (hf : (ly_f a).1 = ci) (h0 : 0 < a) (ha : a < c) (kk : Q r) : Q (pm_rc ci a m r) := by
  unfold pm_rc
  rw [if_pos (qz_is h hf h0 ha)]
  exact kk
theorem qz_len {kd a n : Nat} {f : Int32 → pmR} (h : qz L xs c w rs es m) (hf : ly_f a = (kd, n)) (h0 : 0 < a) (ha : a < c) (kk : Q (f (nI n))) : Q (pm_len kd a m f) := by
  unfold pm_len
  rw [if_pos (qz_is h (by rw [hf]) h0 ha), h.2.2.2.2.1 a h0 ha, hf]
  exact kk
theorem qz_cV {f : pmM → pmR} (kk : Q (f m)) : Q (pm_cV (pm_oV m) f) := kk
theorem qz_st {kd a i : Nat} (N : Nat) {v : Int32} {f : pmM → pmR} (h : qz L xs c w rs es m) (hf : ly_f a = (kd, N)) (h64 : 64 ≤ a) (ha : a < c) (hN : N < 2 ^ 31) (hi : i < N) (kk : ∀ m', qz L xs c w rs ((a, i, v) :: es) m' → Q (f m')) : Q (pm_st kd a (nI i) v m f) := by
  have hh := qz_is h (ci := kd) (by rw [hf]) (by omega) ha
  unfold pm_st
  rw [if_pos ⟨⟨h64, hh.1⟩, hh.2⟩, h.2.2.2.2.1 a (by omega) ha, hf]
  simp only []
  rw [if_neg (nI_in hi hN), nI_clamp (by omega)]
  exact kk _ (qz_wI h h64 ha)
theorem qz_sS {kd a i : Nat} (N : Nat) {v : Int32} {f : pmM → pmR} (h : qz L xs c w rs es m) (hf : ly_f a = (kd, N)) (h64 : 64 ≤ a) (ha : a < c) (hN : N < 2 ^ 31) (hi : i < N) (hv : qz_e xs es a i = v) (kk : ∀ m', qz L xs c w rs es m' → Q (f m')) : Q (pm_st kd a (nI i) v m f) := by
  have hh := qz_is h (ci := kd) (by rw [hf]) (by omega) ha
  unfold pm_st
  rw [if_pos ⟨⟨h64, hh.1⟩, hh.2⟩, h.2.2.2.2.1 a (by omega) ha, hf]
  simp only []
  rw [if_neg (nI_in hi hN), nI_clamp (by omega)]
  exact kk _ (qz_wS h ha hv)
theorem qz_ld {kd a i : Nat} (N : Nat) {v : Int32} {f : Int32 → pmR} (h : qz L xs c w rs es m) (hf : ly_f a = (kd, N)) (h0 : 0 < a) (ha : a < c) (hN : N < 2 ^ 31) (hi : i < N) (hv : qz_e xs es a i = v) (kk : Q (f v)) : Q (pm_ld kd a (nI i) m f) := by
  have hh := qz_is h (ci := kd) (by rw [hf]) h0 ha
  unfold pm_ld
  rw [if_pos hh, h.2.2.2.2.1 a h0 ha, hf]
  simp only []
  rw [if_neg (nI_in hi hN), nI_clamp (by omega), h.2.2.2.2.2.1 a i ha, hv]
  exact kk
theorem qz_lp {body : ((Int32 × pmM) → pmR) → (Int32 × pmM) → pmR} (n : Nat) (P : pmM → Prop) (hs : ∀ again i m, i < n → P m → (∀ m', P m' → Q (again (nI (i + 1), m'))) → Q (body again (nI i, m))) (he : ∀ again m, P m → Q (body again (nI n, m))) : ∀ N k i m, P m → i + k = n → k < N → Q (pm_lp N body (nI i, m)) := by
  intro N
  induction N with
  | zero => intro k i m _ _ h; omega
  | succ N ih =>
    intro k i m hP hk hN
    cases k with
    | zero =>
      have : i = n := by omega
      subst this
      exact he _ m hP
    | succ k => exact hs (pm_lp N body) i m (by omega) hP (fun m' hP' => ih k (i + 1) m' hP' (by omega) (by omega))
theorem qz_cp {a1 : Nat} {f : pmM → pmR} (h : qz L xs c w rs es m) (hf : ly_f a1 = (100, 150)) (h64 : 64 ≤ a1) (ha : a1 < c) (kk : ∀ m', qz L xs c w rs ((a1, 4, -8) :: (a1, 3, -11) :: (a1, 2, 2) :: (a1, 1, -1) :: (a1, 0, 1) :: es) m' → Q (f m')) : Q (pm_cp 1 0 a1 0 (nI 5) m f) := by
  have hh := qz_is h (ci := 100) (by rw [hf]) (by omega) ha
  have h3 := h.2.2.1
  have h1 := qz_is h (a := 1) (ci := 100) rfl (by omega) (by omega)
  show Q (pm_cp 1 (nI 0) a1 (nI 0) (nI 5) m f)
  unfold pm_cp
  rw [nI_clamp (n := 0) (by omega), nI_clamp (n := 5) (by omega), if_pos ⟨⟨h1, ⟨h64, hh.1⟩, hh.2⟩, ⟨nI_pos (by omega), nI_pos (by omega), nI_pos (by omega)⟩, by rw [h.2.2.2.2.1 1 (by omega) (by omega)]; show 0 + 5 ≤ (ly_f 1).2; decide, by rw [h.2.2.2.2.1 a1 (by omega) ha, hf]; show 0 + 5 ≤ 150; omega⟩]
  have hv : ∀ j, qz_e xs es 1 j = ([1, -1, 2, -11, -8] : List Int32).getD j 0 := by
    intro j
    unfold qz_e
    rw [List.find?_eq_none.mpr (fun t ht => by
      have := h.2.2.2.2.2.2.2 t ht
      rw [beqn (show t.1 ≠ 1 by omega)]; simp)]
    rfl
  have e : pm_wC m 1 0 a1 0 5 = pm_wI (pm_wI (pm_wI (pm_wI (pm_wI m a1 0 1) a1 1 (-1)) a1 2 2) a1 3 (-11)) a1 4 (-8) := by
    show (m.1, m.2.1, m.2.2.1, _, m.2.2.2.2) = (m.1, m.2.1, m.2.2.1, _, m.2.2.2.2)
    refine congrArg (fun z => (m.1, m.2.1, m.2.2.1, z, m.2.2.2.2)) (funext fun i => funext fun j => ?_)
    show (if i = a1 ∧ 0 ≤ j ∧ j < 0 + 5 then m.2.2.2.1 1 (0 + (j - 0)) else m.2.2.2.1 i j) = (if i = a1 ∧ j = 4 then (-8 : Int32) else if i = a1 ∧ j = 3 then -11 else if i = a1 ∧ j = 2 then 2 else if i = a1 ∧ j = 1 then -1 else if i = a1 ∧ j = 0 then 1 else m.2.2.2.1 i j)
    by_cases e1 : i = a1
    · subst e1
      rcases (by omega : j = 0 ∨ j = 1 ∨ j = 2 ∨ j = 3 ∨ j = 4 ∨ 5 ≤ j) with rfl | rfl | rfl | rfl | rfl | hj
      · rw [if_pos ⟨rfl, by omega, by omega⟩, h.2.2.2.2.2.1 1 _ (by omega), hv]; simp
      · rw [if_pos ⟨rfl, by omega, by omega⟩, h.2.2.2.2.2.1 1 _ (by omega), hv]; simp
      · rw [if_pos ⟨rfl, by omega, by omega⟩, h.2.2.2.2.2.1 1 _ (by omega), hv]; simp
      · rw [if_pos ⟨rfl, by omega, by omega⟩, h.2.2.2.2.2.1 1 _ (by omega), hv]; simp
      · rw [if_pos ⟨rfl, by omega, by omega⟩, h.2.2.2.2.2.1 1 _ (by omega), hv]; simp
      · rw [if_neg (by omega), if_neg (by omega), if_neg (by omega), if_neg (by omega), if_neg (by omega), if_neg (by omega)]
    · rw [if_neg (by omega), if_neg (by omega), if_neg (by omega), if_neg (by omega), if_neg (by omega), if_neg (by omega)]
  rw [e]
  exact kk _ (qz_wI (qz_wI (qz_wI (qz_wI (qz_wI h h64 ha) h64 ha) h64 ha) h64 ha) h64 ha)
set_option maxRecDepth 20000 in
theorem nz_X7_init_65 (h : qz L xs 66 23 rs es m) (k : ∀ m', qz L xs 67 623 ((65, 0, 66) :: rs) ((65, 7, (-1)) :: es) m' → Q (pm_oV m')) : Q (X7_init 65 m) := by
  unfold X7_init
  refine qz_na Q 600 (c' := 67) (w' := 623) h rfl (by decide) rfl rfl rfl (by decide) (fun m h => ?_)
  refine qz_pR Q h rfl (by decide) (by decide) (by decide) (fun m h => ?_)
  refine qz_pI Q h rfl (by decide) (by decide) (fun m h => ?_)
  exact k m h
set_option maxRecDepth 20000 in
theorem nz_X2_init_67 (h : qz L xs 68 629 rs es m) (k : ∀ m', qz L xs 71 687 ((67, 2, 70) :: (67, 1, 69) :: (67, 0, 68) :: rs) ((67, 5, 60) :: es) m' → Q (pm_oV m')) : Q (X2_init 67 m) := by
  unfold X2_init
  refine qz_na Q 6 (c' := 69) (w' := 635) h rfl (by decide) rfl rfl rfl (by decide) (fun m h => ?_)
  refine qz_pR Q h rfl (by decide) (by decide) (by decide) (fun m h => ?_)
  refine qz_na Q 48 (c' := 70) (w' := 683) h rfl (by decide) rfl rfl rfl (by decide) (fun m h => ?_)
  refine qz_pR Q h rfl (by decide) (by decide) (by decide) (fun m h => ?_)
  refine qz_na Q 4 (c' := 71) (w' := 687) h rfl (by decide) rfl rfl rfl (by decide) (fun m h => ?_)
  refine qz_pR Q h rfl (by decide) (by decide) (by decide) (fun m h => ?_)
  refine qz_pI Q h rfl (by decide) (by decide) (fun m h => ?_)
  exact k m h
set_option maxRecDepth 20000 in
theorem nz_X2_init_71 (h : qz L xs 72 693 rs es m) (k : ∀ m', qz L xs 75 751 ((71, 2, 74) :: (71, 1, 73) :: (71, 0, 72) :: rs) ((71, 5, 60) :: es) m' → Q (pm_oV m')) : Q (X2_init 71 m) := by
  unfold X2_init
  refine qz_na Q 6 (c' := 73) (w' := 699) h rfl (by decide) rfl rfl rfl (by decide) (fun m h => ?_)
  refine qz_pR Q h rfl (by decide) (by decide) (by decide) (fun m h => ?_)
  refine qz_na Q 48 (c' := 74) (w' := 747) h rfl (by decide) rfl rfl rfl (by decide) (fun m h => ?_)
  refine qz_pR Q h rfl (by decide) (by decide) (by decide) (fun m h => ?_)
  refine qz_na Q 4 (c' := 75) (w' := 751) h rfl (by decide) rfl rfl rfl (by decide) (fun m h => ?_)
  refine qz_pR Q h rfl (by decide) (by decide) (by decide) (fun m h => ?_)
  refine qz_pI Q h rfl (by decide) (by decide) (fun m h => ?_)
  exact k m h
set_option maxRecDepth 20000 in
theorem nz_X1_makePlain_75 (hr : qz_r rs 75 0 = some 76) (h : qz L xs 79 934 rs es m) (k : ∀ m', qz L xs 79 934 (rs) ((75, 3, nI 5) :: (76, 4, (-8)) :: (76, 3, (-11)) :: (76, 2, 2) :: (76, 1, (-1)) :: (76, 0, 1) :: es) m' → Q (pm_oV m')) : Q (X1_makePlain 75 m) := by
  unfold X1_makePlain
  refine qz_gR Q (b := 76) h rfl (by decide) (by decide) hr ?_
  refine qz_len Q (n := 5) h rfl (by decide) (by decide) ?_
  refine qz_cp Q h rfl (by decide) (by decide) (fun m h => ?_)
  refine qz_len Q (n := 5) h rfl (by decide) (by decide) ?_
  refine qz_pI Q h rfl (by decide) (by decide) (fun m h => ?_)
  exact k m h
set_option maxRecDepth 20000 in
theorem nz_X1_init_75 (h : qz L xs 76 755 rs es m) (k : ∀ m', qz L xs 79 934 ((75, 2, 78) :: (75, 1, 77) :: (75, 0, 76) :: rs) ((75, 3, nI 5) :: (76, 4, (-8)) :: (76, 3, (-11)) :: (76, 2, 2) :: (76, 1, (-1)) :: (76, 0, 1) :: es) m' → Q (pm_oV m')) : Q (X1_init 75 m) := by
  unfold X1_init
  refine qz_na Q 150 (c' := 77) (w' := 905) h rfl (by decide) rfl rfl rfl (by decide) (fun m h => ?_)
  refine qz_pR Q h rfl (by decide) (by decide) (by decide) (fun m h => ?_)
  refine qz_na Q 22 (c' := 78) (w' := 927) h rfl (by decide) rfl rfl rfl (by decide) (fun m h => ?_)
  refine qz_pR Q h rfl (by decide) (by decide) (by decide) (fun m h => ?_)
  refine qz_na Q 7 (c' := 79) (w' := 934) h rfl (by decide) rfl rfl rfl (by decide) (fun m h => ?_)
  refine qz_pR Q h rfl (by decide) (by decide) (by decide) (fun m h => ?_)
  refine qz_rc Q h rfl (by decide) (by decide) ?_
  refine nz_X1_makePlain_75 (fun r => Q (pm_cV r _)) rfl h (fun m h => ?_)
  refine qz_cV Q ?_
  exact k m h
set_option maxRecDepth 20000 in
theorem nz_X1_makePlain_79 (hr : qz_r rs 79 0 = some 80) (h : qz L xs 83 1117 rs es m) (k : ∀ m', qz L xs 83 1117 (rs) ((79, 3, nI 5) :: (80, 4, (-8)) :: (80, 3, (-11)) :: (80, 2, 2) :: (80, 1, (-1)) :: (80, 0, 1) :: es) m' → Q (pm_oV m')) : Q (X1_makePlain 79 m) := by
  unfold X1_makePlain
  refine qz_gR Q (b := 80) h rfl (by decide) (by decide) hr ?_
  refine qz_len Q (n := 5) h rfl (by decide) (by decide) ?_
  refine qz_cp Q h rfl (by decide) (by decide) (fun m h => ?_)
  refine qz_len Q (n := 5) h rfl (by decide) (by decide) ?_
  refine qz_pI Q h rfl (by decide) (by decide) (fun m h => ?_)
  exact k m h
set_option maxRecDepth 20000 in
theorem nz_X1_init_79 (h : qz L xs 80 938 rs es m) (k : ∀ m', qz L xs 83 1117 ((79, 2, 82) :: (79, 1, 81) :: (79, 0, 80) :: rs) ((79, 3, nI 5) :: (80, 4, (-8)) :: (80, 3, (-11)) :: (80, 2, 2) :: (80, 1, (-1)) :: (80, 0, 1) :: es) m' → Q (pm_oV m')) : Q (X1_init 79 m) := by
  unfold X1_init
  refine qz_na Q 150 (c' := 81) (w' := 1088) h rfl (by decide) rfl rfl rfl (by decide) (fun m h => ?_)
  refine qz_pR Q h rfl (by decide) (by decide) (by decide) (fun m h => ?_)
  refine qz_na Q 22 (c' := 82) (w' := 1110) h rfl (by decide) rfl rfl rfl (by decide) (fun m h => ?_)
  refine qz_pR Q h rfl (by decide) (by decide) (by decide) (fun m h => ?_)
  refine qz_na Q 7 (c' := 83) (w' := 1117) h rfl (by decide) rfl rfl rfl (by decide) (fun m h => ?_)
  refine qz_pR Q h rfl (by decide) (by decide) (by decide) (fun m h => ?_)
  refine qz_rc Q h rfl (by decide) (by decide) ?_
  refine nz_X1_makePlain_79 (fun r => Q (pm_cV r _)) rfl h (fun m h => ?_)
  refine qz_cV Q ?_
  exact k m h
set_option maxRecDepth 20000 in
theorem nz_X3_init_83 (h : qz L xs 84 1119 rs es m) (k : ∀ m', qz L xs 85 1131 ((83, 0, 84) :: rs) (es) m' → Q (pm_oV m')) : Q (X3_init 83 m) := by
  unfold X3_init
  refine qz_na Q 12 (c' := 85) (w' := 1131) h rfl (by decide) rfl rfl rfl (by decide) (fun m h => ?_)
  refine qz_pR Q h rfl (by decide) (by decide) (by decide) (fun m h => ?_)
  exact k m h
set_option maxRecDepth 20000 in
theorem nz_X3_init_85 (h : qz L xs 86 1133 rs es m) (k : ∀ m', qz L xs 87 1145 ((85, 0, 86) :: rs) (es) m' → Q (pm_oV m')) : Q (X3_init 85 m) := by
  unfold X3_init
  refine qz_na Q 12 (c' := 87) (w' := 1145) h rfl (by decide) rfl rfl rfl (by decide) (fun m h => ?_)
  refine qz_pR Q h rfl (by decide) (by decide) (by decide) (fun m h => ?_)
  exact k m h
set_option maxRecDepth 20000 in
theorem nz_X6_init_87 (h : qz L xs 88 1155 rs es m) (k : ∀ m', qz L xs 93 1305 ((87, 4, 92) :: (87, 3, 91) :: (87, 2, 90) :: (87, 1, 89) :: (87, 0, 88) :: rs) (es) m' → Q (pm_oV m')) : Q (X6_init 87 m) := by
  unfold X6_init
  refine qz_na Q 30 (c' := 89) (w' := 1185) h rfl (by decide) rfl rfl rfl (by decide) (fun m h => ?_)
  refine qz_pR Q h rfl (by decide) (by decide) (by decide) (fun m h => ?_)
  refine qz_na Q 30 (c' := 90) (w' := 1215) h rfl (by decide) rfl rfl rfl (by decide) (fun m h => ?_)
  refine qz_pR Q h rfl (by decide) (by decide) (by decide) (fun m h => ?_)
  refine qz_na Q 30 (c' := 91) (w' := 1245) h rfl (by decide) rfl rfl rfl (by decide) (fun m h => ?_)
  refine qz_pR Q h rfl (by decide) (by decide) (by decide) (fun m h => ?_)
  refine qz_na Q 30 (c' := 92) (w' := 1275) h rfl (by decide) rfl rfl rfl (by decide) (fun m h => ?_)
  refine qz_pR Q h rfl (by decide) (by decide) (by decide) (fun m h => ?_)
  refine qz_na Q 30 (c' := 93) (w' := 1305) h rfl (by decide) rfl rfl rfl (by decide) (fun m h => ?_)
  refine qz_pR Q h rfl (by decide) (by decide) (by decide) (fun m h => ?_)
  exact k m h
set_option maxRecDepth 20000 in
theorem nz_X0_init_93 (h : qz L xs 94 1314 rs es m) (k : ∀ m', qz L xs 96 1324 ((93, 1, 75) :: (93, 0, 67) :: (93, 3, 95) :: (93, 2, 94) :: rs) ((93, 5, 60) :: es) m' → Q (pm_oV m')) : Q (X0_init 93 67 75 m) := by
  unfold X0_init
  refine qz_na Q 6 (c' := 95) (w' := 1320) h rfl (by decide) rfl rfl rfl (by decide) (fun m h => ?_)
  refine qz_pR Q h rfl (by decide) (by decide) (by decide) (fun m h => ?_)
  refine qz_na Q 4 (c' := 96) (w' := 1324) h rfl (by decide) rfl rfl rfl (by decide) (fun m h => ?_)
  refine qz_pR Q h rfl (by decide) (by decide) (by decide) (fun m h => ?_)
  refine qz_pI Q h rfl (by decide) (by decide) (fun m h => ?_)
  refine qz_pR Q h rfl (by decide) (by decide) (by decide) (fun m h => ?_)
  refine qz_pR Q h rfl (by decide) (by decide) (by decide) (fun m h => ?_)
  exact k m h
set_option maxRecDepth 20000 in
theorem nz_X0_init_96 (h : qz L xs 97 1333 rs es m) (k : ∀ m', qz L xs 99 1343 ((96, 1, 75) :: (96, 0, 67) :: (96, 3, 98) :: (96, 2, 97) :: rs) ((96, 5, 60) :: es) m' → Q (pm_oV m')) : Q (X0_init 96 67 75 m) := by
  unfold X0_init
  refine qz_na Q 6 (c' := 98) (w' := 1339) h rfl (by decide) rfl rfl rfl (by decide) (fun m h => ?_)
  refine qz_pR Q h rfl (by decide) (by decide) (by decide) (fun m h => ?_)
  refine qz_na Q 4 (c' := 99) (w' := 1343) h rfl (by decide) rfl rfl rfl (by decide) (fun m h => ?_)
  refine qz_pR Q h rfl (by decide) (by decide) (by decide) (fun m h => ?_)
  refine qz_pI Q h rfl (by decide) (by decide) (fun m h => ?_)
  refine qz_pR Q h rfl (by decide) (by decide) (by decide) (fun m h => ?_)
  refine qz_pR Q h rfl (by decide) (by decide) (by decide) (fun m h => ?_)
  exact k m h
set_option maxRecDepth 20000 in
theorem nz_X5_init_99 (h : qz L xs 100 1347 rs es m) (k : ∀ m', qz L xs 102 2288 ((99, 1, 101) :: (99, 0, 100) :: rs) (es) m' → Q (pm_oV m')) : Q (X5_init 99 m) := by
  unfold X5_init
  refine qz_na Q 938 (c' := 101) (w' := 2285) h rfl (by decide) rfl rfl rfl (by decide) (fun m h => ?_)
  refine qz_pR Q h rfl (by decide) (by decide) (by decide) (fun m h => ?_)
  refine qz_na Q 3 (c' := 102) (w' := 2288) h rfl (by decide) rfl rfl rfl (by decide) (fun m h => ?_)
  refine qz_pR Q h rfl (by decide) (by decide) (by decide) (fun m h => ?_)
  exact k m h
set_option maxRecDepth 20000 in
theorem nz_X4_init_102 (h : qz L xs 103 2294 rs es m) (k : ∀ m', qz L xs 108 2576 ((102, 0, 67) :: (102, 5, 107) :: (102, 4, 106) :: (102, 3, 105) :: (102, 2, 104) :: (102, 1, 103) :: rs) (es) m' → Q (pm_oV m')) : Q (X4_init 102 67 m) := by
  unfold X4_init
  refine qz_na Q 13 (c' := 104) (w' := 2307) h rfl (by decide) rfl rfl rfl (by decide) (fun m h => ?_)
  refine qz_pR Q h rfl (by decide) (by decide) (by decide) (fun m h => ?_)
  refine qz_na Q 208 (c' := 105) (w' := 2515) h rfl (by decide) rfl rfl rfl (by decide) (fun m h => ?_)
  refine qz_pR Q h rfl (by decide) (by decide) (by decide) (fun m h => ?_)
  refine qz_na Q 26 (c' := 106) (w' := 2541) h rfl (by decide) rfl rfl rfl (by decide) (fun m h => ?_)
  refine qz_pR Q h rfl (by decide) (by decide) (by decide) (fun m h => ?_)
  refine qz_na Q 26 (c' := 107) (w' := 2567) h rfl (by decide) rfl rfl rfl (by decide) (fun m h => ?_)
  refine qz_pR Q h rfl (by decide) (by decide) (by decide) (fun m h => ?_)
  refine qz_na Q 9 (c' := 108) (w' := 2576) h rfl (by decide) rfl rfl rfl (by decide) (fun m h => ?_)
  refine qz_pR Q h rfl (by decide) (by decide) (by decide) (fun m h => ?_)
  refine qz_pR Q h rfl (by decide) (by decide) (by decide) (fun m h => ?_)
  exact k m h
set_option maxRecDepth 20000 in
theorem nz_X8_init_64 (h : qz L xs 65 15 rs es m) (k : ∀ m', qz L xs 108 2576 ((64, 11, 102) :: (102, 0, 67) :: (102, 5, 107) :: (102, 4, 106) :: (102, 3, 105) :: (102, 2, 104) :: (102, 1, 103) :: (64, 10, 99) :: (99, 1, 101) :: (99, 0, 100) :: (64, 9, 96) :: (96, 1, 75) :: (96, 0, 67) :: (96, 3, 98) :: (96, 2, 97) :: (64, 8, 93) :: (93, 1, 75) :: (93, 0, 67) :: (93, 3, 95) :: (93, 2, 94) :: (64, 7, 87) :: (87, 4, 92) :: (87, 3, 91) :: (87, 2, 90) :: (87, 1, 89) :: (87, 0, 88) :: (64, 6, 85) :: (85, 0, 86) :: (64, 5, 83) :: (83, 0, 84) :: (64, 4, 79) :: (79, 2, 82) :: (79, 1, 81) :: (79, 0, 80) :: (64, 3, 75) :: (75, 2, 78) :: (75, 1, 77) :: (75, 0, 76) :: (64, 2, 71) :: (71, 2, 74) :: (71, 1, 73) :: (71, 0, 72) :: (64, 1, 67) :: (67, 2, 70) :: (67, 1, 69) :: (67, 0, 68) :: (64, 0, 65) :: (65, 0, 66) :: rs) ((96, 5, 60) :: (93, 5, 60) :: (79, 3, nI 5) :: (80, 4, (-8)) :: (80, 3, (-11)) :: (80, 2, 2) :: (80, 1, (-1)) :: (80, 0, 1) :: (75, 3, nI 5) :: (76, 4, (-8)) :: (76, 3, (-11)) :: (76, 2, 2) :: (76, 1, (-1)) :: (76, 0, 1) :: (71, 5, 60) :: (67, 5, 60) :: (65, 7, (-1)) :: es) m' → Q (pm_oV m')) : Q (X8_init 64 m) := by
  unfold X8_init
  refine qz_nw Q (c' := 66) (w' := 23) h rfl (by decide) rfl rfl (fun m h => ?_)
  refine nz_X7_init_65 (fun r => Q (pm_cV r _)) h (fun m h => ?_)
  refine qz_cV Q ?_
  refine qz_pR Q h rfl (by decide) (by decide) (by decide) (fun m h => ?_)
  refine qz_nw Q (c' := 68) (w' := 629) h rfl (by decide) rfl rfl (fun m h => ?_)
  refine nz_X2_init_67 (fun r => Q (pm_cV r _)) h (fun m h => ?_)
  refine qz_cV Q ?_
  refine qz_pR Q h rfl (by decide) (by decide) (by decide) (fun m h => ?_)
  refine qz_nw Q (c' := 72) (w' := 693) h rfl (by decide) rfl rfl (fun m h => ?_)
  refine nz_X2_init_71 (fun r => Q (pm_cV r _)) h (fun m h => ?_)
  refine qz_cV Q ?_
  refine qz_pR Q h rfl (by decide) (by decide) (by decide) (fun m h => ?_)
  refine qz_nw Q (c' := 76) (w' := 755) h rfl (by decide) rfl rfl (fun m h => ?_)
  refine nz_X1_init_75 (fun r => Q (pm_cV r _)) h (fun m h => ?_)
  refine qz_cV Q ?_
  refine qz_pR Q h rfl (by decide) (by decide) (by decide) (fun m h => ?_)
  refine qz_nw Q (c' := 80) (w' := 938) h rfl (by decide) rfl rfl (fun m h => ?_)
  refine nz_X1_init_79 (fun r => Q (pm_cV r _)) h (fun m h => ?_)
  refine qz_cV Q ?_
  refine qz_pR Q h rfl (by decide) (by decide) (by decide) (fun m h => ?_)
  refine qz_nw Q (c' := 84) (w' := 1119) h rfl (by decide) rfl rfl (fun m h => ?_)
  refine nz_X3_init_83 (fun r => Q (pm_cV r _)) h (fun m h => ?_)
  refine qz_cV Q ?_
  refine qz_pR Q h rfl (by decide) (by decide) (by decide) (fun m h => ?_)
  refine qz_nw Q (c' := 86) (w' := 1133) h rfl (by decide) rfl rfl (fun m h => ?_)
  refine nz_X3_init_85 (fun r => Q (pm_cV r _)) h (fun m h => ?_)
  refine qz_cV Q ?_
  refine qz_pR Q h rfl (by decide) (by decide) (by decide) (fun m h => ?_)
  refine qz_nw Q (c' := 88) (w' := 1155) h rfl (by decide) rfl rfl (fun m h => ?_)
  refine nz_X6_init_87 (fun r => Q (pm_cV r _)) h (fun m h => ?_)
  refine qz_cV Q ?_
  refine qz_pR Q h rfl (by decide) (by decide) (by decide) (fun m h => ?_)
  refine qz_nw Q (c' := 94) (w' := 1314) h rfl (by decide) rfl rfl (fun m h => ?_)
  refine qz_gR Q (b := 67) h rfl (by decide) (by decide) rfl ?_
  refine qz_gR Q (b := 75) h rfl (by decide) (by decide) rfl ?_
  refine nz_X0_init_93 (fun r => Q (pm_cV r _)) h (fun m h => ?_)
  refine qz_cV Q ?_
  refine qz_pR Q h rfl (by decide) (by decide) (by decide) (fun m h => ?_)
  refine qz_nw Q (c' := 97) (w' := 1333) h rfl (by decide) rfl rfl (fun m h => ?_)
  refine qz_gR Q (b := 67) h rfl (by decide) (by decide) rfl ?_
  refine qz_gR Q (b := 75) h rfl (by decide) (by decide) rfl ?_
  refine nz_X0_init_96 (fun r => Q (pm_cV r _)) h (fun m h => ?_)
  refine qz_cV Q ?_
  refine qz_pR Q h rfl (by decide) (by decide) (by decide) (fun m h => ?_)
  refine qz_nw Q (c' := 100) (w' := 1347) h rfl (by decide) rfl rfl (fun m h => ?_)
  refine nz_X5_init_99 (fun r => Q (pm_cV r _)) h (fun m h => ?_)
  refine qz_cV Q ?_
  refine qz_pR Q h rfl (by decide) (by decide) (by decide) (fun m h => ?_)
  refine qz_nw Q (c' := 103) (w' := 2294) h rfl (by decide) rfl rfl (fun m h => ?_)
  refine qz_gR Q (b := 67) h rfl (by decide) (by decide) rfl ?_
  refine nz_X4_init_102 (fun r => Q (pm_cV r _)) h (fun m h => ?_)
  refine qz_cV Q ?_
  refine qz_pR Q h rfl (by decide) (by decide) (by decide) (fun m h => ?_)
  exact k m h
def nz_rs8 : List (Nat × Nat × Nat) := (64, 11, 102) :: (102, 0, 67) :: (102, 5, 107) :: (102, 4, 106) :: (102, 3, 105) :: (102, 2, 104) :: (102, 1, 103) :: (64, 10, 99) :: (99, 1, 101) :: (99, 0, 100) :: (64, 9, 96) :: (96, 1, 75) :: (96, 0, 67) :: (96, 3, 98) :: (96, 2, 97) :: (64, 8, 93) :: (93, 1, 75) :: (93, 0, 67) :: (93, 3, 95) :: (93, 2, 94) :: (64, 7, 87) :: (87, 4, 92) :: (87, 3, 91) :: (87, 2, 90) :: (87, 1, 89) :: (87, 0, 88) :: (64, 6, 85) :: (85, 0, 86) :: (64, 5, 83) :: (83, 0, 84) :: (64, 4, 79) :: (79, 2, 82) :: (79, 1, 81) :: (79, 0, 80) :: (64, 3, 75) :: (75, 2, 78) :: (75, 1, 77) :: (75, 0, 76) :: (64, 2, 71) :: (71, 2, 74) :: (71, 1, 73) :: (71, 0, 72) :: (64, 1, 67) :: (67, 2, 70) :: (67, 1, 69) :: (67, 0, 68) :: (64, 0, 65) :: (65, 0, 66) :: []
def nz_es8 : List (Nat × Nat × Int32) := (96, 5, 60) :: (93, 5, 60) :: (79, 3, nI 5) :: (80, 4, (-8)) :: (80, 3, (-11)) :: (80, 2, 2) :: (80, 1, (-1)) :: (80, 0, 1) :: (75, 3, nI 5) :: (76, 4, (-8)) :: (76, 3, (-11)) :: (76, 2, 2) :: (76, 1, (-1)) :: (76, 0, 1) :: (71, 5, 60) :: (67, 5, 60) :: (65, 7, (-1)) :: []
def nz_rs9 : List (Nat × Nat × Nat) := (108, 53, 593) :: (108, 52, 592) :: (108, 51, 582) :: (108, 50, 581) :: (108, 49, 580) :: (108, 48, 566) :: (108, 47, 565) :: (108, 46, 564) :: (108, 45, 563) :: (108, 44, 562) :: (108, 43, 561) :: (108, 42, 560) :: (108, 41, 559) :: (108, 40, 558) :: (108, 32, 554) :: (108, 31, 537) :: (108, 30, 536) :: (108, 29, 535) :: (108, 27, 454) :: (108, 26, 453) :: (108, 25, 452) :: (108, 24, 451) :: (108, 23, 450) :: (108, 22, 289) :: (108, 21, 128) :: (108, 18, 121) :: (108, 17, 114) :: (108, 16, 113) :: (108, 15, 112) :: (108, 14, 111) :: (108, 10, 110) :: (108, 9, 109) :: nz_rs8
def nz_es9 : List (Nat × Nat × Int32) := (108, 3, -1) :: nz_es8
theorem nz_X9_tellsNothing_108 (h : qz L xs 594 6603 nz_rs9 nz_es9 m) (k : ∀ m', qz L xs 594 6603 nz_rs9 ((108, 12, 60) :: nz_es9) m' → Q (pm_oV m')) : Q (X9_tellsNothing 108 m) := by
  unfold X9_tellsNothing
  refine qz_pS Q h rfl (by decide) (by decide) rfl (fun m h => ?_)
  refine qz_pI Q h rfl (by decide) (by decide) (fun m h => ?_)
  refine qz_lp Q 4 (qz L xs 594 6603 nz_rs9 ((108, 12, 60) :: nz_es9)) (fun again i m hi h kk => ?_) (fun again m h => ?_) pm_N 4 0 m h rfl (by rw [pm_NE]; omega)
  · unfold X9_tellsNothing_L13
    show Q (if (4 : Int32) ≤ nI i then _ else _)
    rw [if_neg (by rw [show (4 : Int32) = nI 4 from rfl, nI_leI (by omega) (by omega)]; omega)]
    refine qz_gR Q (b := 111) h rfl (by decide) (by decide) rfl ?_
    refine qz_sS Q 4 h rfl (by decide) (by decide) (by decide) hi (qz_eZ (by decide +kernel) (by decide)) (fun m h => ?_)
    show Q (again (nI i + nI 1, m))
    rw [nI_add]
    exact kk m h
  · unfold X9_tellsNothing_L13
    show Q (if (4 : Int32) ≤ nI 4 then _ else _)
    rw [if_pos (by decide)]
    exact k m h
theorem nz_X9_beginsAnew_108 (h : qz L xs 594 6603 nz_rs9 ((108, 12, 60) :: nz_es9) m) (k : ∀ m', qz L xs 594 6603 nz_rs9 ((535, 10, 60) :: (108, 12, 60) :: nz_es9) m' → Q (pm_oV m')) : Q (X9_beginsAnew 108 m) := by
  unfold X9_beginsAnew
  refine qz_gI Q (v := 0) h rfl (by decide) (by decide) rfl ?_
  refine qz_pS Q h rfl (by decide) (by decide) rfl (fun m h => ?_)
  refine qz_lp Q 6 (qz L xs 594 6603 nz_rs9 ((108, 12, 60) :: nz_es9)) (fun again i m hi h kk => ?_) (fun again m h => ?_) pm_N 6 0 m h rfl (by rw [pm_NE]; omega)
  · unfold X9_beginsAnew_L10
    show Q (if (6 : Int32) ≤ nI i then _ else _)
    rw [if_neg (by rw [show (6 : Int32) = nI 6 from rfl, nI_leI (by omega) (by omega)]; omega)]
    refine qz_gR Q (b := 113) h rfl (by decide) (by decide) rfl ?_
    refine qz_gI Q (v := 0) h rfl (by decide) (by decide) rfl ?_
    show Q (if (0 : Int32) ≤ nI i then _ else _)
    rw [if_pos (by rw [show (0 : Int32) = nI 0 from rfl, nI_leI (by omega) (by omega)]; omega)]
    unfold X9_beginsAnew_j39
    refine qz_sS Q 6 h rfl (by decide) (by decide) (by decide) hi (qz_eZ (by decide +kernel) (by decide)) (fun m h => ?_)
    show Q (again (nI i + nI 1, m))
    rw [nI_add]
    exact kk m h
  · unfold X9_beginsAnew_L10
    show Q (if (6 : Int32) ≤ nI 6 then _ else _)
    rw [if_pos (by decide)]
    refine qz_gR Q (b := 114) h rfl (by decide) (by decide) rfl ?_
    refine qz_gR Q (b := 121) h rfl (by decide) (by decide) rfl ?_
    refine qz_gI Q (v := 0) h rfl (by decide) (by decide) rfl ?_
    have e : X9_lays 114 121 0 m = pm_oV m := by
      unfold X9_lays
      rw [show pm_N = 99999 + 1 from rfl]
      show X9_lays_L2 114 121 0 (pm_lp 99999 (X9_lays_L2 114 121 0)) (0, m) = _
      unfold X9_lays_L2
      exact if_pos (show (0 : Int32) ≤ 0 by decide)
    show Q (pm_cV (X9_lays 114 121 0 m) _)
    rw [e]
    refine qz_cV Q ?_
    refine qz_lp Q 14 (qz L xs 594 6603 nz_rs9 ((108, 12, 60) :: nz_es9)) (fun again i m hi h kk => ?_) (fun again m h => ?_) pm_N 14 0 m h rfl (by rw [pm_NE]; omega)
    · unfold X9_beginsAnew_L63
      show Q (if (14 : Int32) ≤ nI i then _ else _)
      rw [if_neg (by rw [show (14 : Int32) = nI 14 from rfl, nI_leI (by omega) (by omega)]; omega)]
      refine qz_gR Q (b := 535) h rfl (by decide) (by decide) rfl ?_
      refine qz_sS Q 14 h rfl (by decide) (by decide) (by decide) hi (qz_eZ (by decide +kernel) (by decide)) (fun m h => ?_)
      show Q (again (nI i + nI 1, m))
      rw [nI_add]
      exact kk m h
    · unfold X9_beginsAnew_L63
      show Q (if (14 : Int32) ≤ nI 14 then _ else _)
      rw [if_pos (by decide)]
      refine qz_lp Q 4 (qz L xs 594 6603 nz_rs9 ((108, 12, 60) :: nz_es9)) (fun again i m hi h kk => ?_) (fun again m h => ?_) pm_N 4 0 m h rfl (by rw [pm_NE]; omega)
      · unfold X9_beginsAnew_L84
        show Q (if (4 : Int32) ≤ nI i then _ else _)
        rw [if_neg (by rw [show (4 : Int32) = nI 4 from rfl, nI_leI (by omega) (by omega)]; omega)]
        refine qz_gR Q (b := 535) h rfl (by decide) (by decide) rfl ?_
        refine qz_gR Q (b := 111) h rfl (by decide) (by decide) rfl ?_
        refine qz_ld Q 4 (v := 0) h rfl (by decide) (by decide) (by decide) hi (qz_eZ (by decide +kernel) (by decide)) ?_
        show Q (pm_st 100 535 (nI 6 + nI i) 0 m _)
        rw [nI_add]
        refine qz_sS Q 14 h rfl (by decide) (by decide) (by decide) (by omega) (qz_eZ (by decide +kernel) (by decide)) (fun m h => ?_)
        show Q (again (nI i + nI 1, m))
        rw [nI_add]
        exact kk m h
      · unfold X9_beginsAnew_L84
        show Q (if (4 : Int32) ≤ nI 4 then _ else _)
        rw [if_pos (by decide)]
        refine qz_gR Q (b := 535) h rfl (by decide) (by decide) rfl ?_
        refine qz_gI Q (v := 60) h rfl (by decide) (by decide) rfl ?_
        refine qz_st Q (i := 10) 14 h rfl (by decide) (by decide) (by decide) (by decide) (fun m h => ?_)
        refine qz_pS Q h rfl (by decide) (by decide) rfl (fun m h => ?_)
        refine qz_pS Q h rfl (by decide) (by decide) rfl (fun m h => ?_)
        refine qz_pS Q h rfl (by decide) (by decide) rfl (fun m h => ?_)
        refine qz_pS Q h rfl (by decide) (by decide) rfl (fun m h => ?_)
        refine qz_pS Q h rfl (by decide) (by decide) rfl (fun m h => ?_)
        exact k m h
set_option maxRecDepth 20000 in
theorem nz_X9_init_108 (h : qz L xs 109 2631 nz_rs8 nz_es8 m) (k : ∀ m', qz L xs 594 6603 ((108, 53, 593) :: (108, 52, 592) :: (108, 51, 582) :: (108, 50, 581) :: (108, 49, 580) :: (108, 48, 566) :: (108, 47, 565) :: (108, 46, 564) :: (108, 45, 563) :: (108, 44, 562) :: (108, 43, 561) :: (108, 42, 560) :: (108, 41, 559) :: (108, 40, 558) :: (108, 32, 554) :: (108, 31, 537) :: (108, 30, 536) :: (108, 29, 535) :: (108, 27, 454) :: (108, 26, 453) :: (108, 25, 452) :: (108, 24, 451) :: (108, 23, 450) :: (108, 22, 289) :: (108, 21, 128) :: (108, 18, 121) :: (108, 17, 114) :: (108, 16, 113) :: (108, 15, 112) :: (108, 14, 111) :: (108, 10, 110) :: (108, 9, 109) :: nz_rs8) ((535, 10, 60) :: (108, 12, 60) :: (108, 3, (-1)) :: nz_es8) m' → Q (pm_oV m')) : Q (X9_init 108 m) := by
  unfold X9_init
  refine qz_pI Q h rfl (by decide) (by decide) (fun m h => ?_)
  refine qz_na Q 600 (c' := 110) (w' := 3231) h rfl (by decide) rfl rfl rfl (by decide) (fun m h => ?_)
  refine qz_pR Q h rfl (by decide) (by decide) (by decide) (fun m h => ?_)
  refine qz_na Q 2 (c' := 111) (w' := 3233) h rfl (by decide) rfl rfl rfl (by decide) (fun m h => ?_)
  refine qz_pR Q h rfl (by decide) (by decide) (by decide) (fun m h => ?_)
  refine qz_na Q 4 (c' := 112) (w' := 3237) h rfl (by decide) rfl rfl rfl (by decide) (fun m h => ?_)
  refine qz_pR Q h rfl (by decide) (by decide) (by decide) (fun m h => ?_)
  refine qz_na Q 6 (c' := 113) (w' := 3243) h rfl (by decide) rfl rfl rfl (by decide) (fun m h => ?_)
  refine qz_pR Q h rfl (by decide) (by decide) (by decide) (fun m h => ?_)
  refine qz_na Q 6 (c' := 114) (w' := 3249) h rfl (by decide) rfl rfl rfl (by decide) (fun m h => ?_)
  refine qz_pR Q h rfl (by decide) (by decide) (by decide) (fun m h => ?_)
  refine qz_nm Q 6 8 (c1 := 115) (c' := 121) (w' := 3303) h rfl rfl (fun _ _ => rfl) (by decide +kernel) rfl rfl rfl rfl (by decide) (by decide) (fun m h => ?_)
  refine qz_pR Q h rfl (by decide) (by decide) (by decide) (fun m h => ?_)
  refine qz_nm Q 6 8 (c1 := 122) (c' := 128) (w' := 3357) h rfl rfl (fun _ _ => rfl) (by decide +kernel) rfl rfl rfl rfl (by decide) (by decide) (fun m h => ?_)
  refine qz_pR Q h rfl (by decide) (by decide) (by decide) (fun m h => ?_)
  refine qz_nm Q 160 2 (c1 := 129) (c' := 289) (w' := 3837) h rfl rfl (fun _ _ => rfl) (by decide +kernel) rfl rfl rfl rfl (by decide) (by decide) (fun m h => ?_)
  refine qz_pR Q h rfl (by decide) (by decide) (by decide) (fun m h => ?_)
  refine qz_nm Q 160 2 (c1 := 290) (c' := 450) (w' := 4317) h rfl rfl (fun _ _ => rfl) (by decide +kernel) rfl rfl rfl rfl (by decide) (by decide) (fun m h => ?_)
  refine qz_pR Q h rfl (by decide) (by decide) (by decide) (fun m h => ?_)
  refine qz_na Q 160 (c' := 451) (w' := 4477) h rfl (by decide) rfl rfl rfl (by decide) (fun m h => ?_)
  refine qz_pR Q h rfl (by decide) (by decide) (by decide) (fun m h => ?_)
  refine qz_na Q 7 (c' := 452) (w' := 4484) h rfl (by decide) rfl rfl rfl (by decide) (fun m h => ?_)
  refine qz_pR Q h rfl (by decide) (by decide) (by decide) (fun m h => ?_)
  refine qz_na Q 12 (c' := 453) (w' := 4496) h rfl (by decide) rfl rfl rfl (by decide) (fun m h => ?_)
  refine qz_pR Q h rfl (by decide) (by decide) (by decide) (fun m h => ?_)
  refine qz_na Q 12 (c' := 454) (w' := 4508) h rfl (by decide) rfl rfl rfl (by decide) (fun m h => ?_)
  refine qz_pR Q h rfl (by decide) (by decide) (by decide) (fun m h => ?_)
  refine qz_nm Q 80 5 (c1 := 455) (c' := 535) (w' := 4988) h rfl rfl (fun _ _ => rfl) (by decide +kernel) rfl rfl rfl rfl (by decide) (by decide) (fun m h => ?_)
  refine qz_pR Q h rfl (by decide) (by decide) (by decide) (fun m h => ?_)
  refine qz_na Q 14 (c' := 536) (w' := 5002) h rfl (by decide) rfl rfl rfl (by decide) (fun m h => ?_)
  refine qz_pR Q h rfl (by decide) (by decide) (by decide) (fun m h => ?_)
  refine qz_na Q 14 (c' := 537) (w' := 5016) h rfl (by decide) rfl rfl rfl (by decide) (fun m h => ?_)
  refine qz_pR Q h rfl (by decide) (by decide) (by decide) (fun m h => ?_)
  refine qz_nm Q 16 14 (c1 := 538) (c' := 554) (w' := 5256) h rfl rfl (fun _ _ => rfl) (by decide +kernel) rfl rfl rfl rfl (by decide) (by decide) (fun m h => ?_)
  refine qz_pR Q h rfl (by decide) (by decide) (by decide) (fun m h => ?_)
  refine qz_nm Q 3 239 (c1 := 555) (c' := 558) (w' := 5976) h rfl rfl (fun _ _ => rfl) (by decide +kernel) rfl rfl rfl rfl (by decide) (by decide) (fun m h => ?_)
  refine qz_pR Q h rfl (by decide) (by decide) (by decide) (fun m h => ?_)
  refine qz_na Q 48 (c' := 559) (w' := 6024) h rfl (by decide) rfl rfl rfl (by decide) (fun m h => ?_)
  refine qz_pR Q h rfl (by decide) (by decide) (by decide) (fun m h => ?_)
  refine qz_na Q 48 (c' := 560) (w' := 6072) h rfl (by decide) rfl rfl rfl (by decide) (fun m h => ?_)
  refine qz_pR Q h rfl (by decide) (by decide) (by decide) (fun m h => ?_)
  refine qz_na Q 48 (c' := 561) (w' := 6120) h rfl (by decide) rfl rfl rfl (by decide) (fun m h => ?_)
  refine qz_pR Q h rfl (by decide) (by decide) (by decide) (fun m h => ?_)
  refine qz_na Q 26 (c' := 562) (w' := 6146) h rfl (by decide) rfl rfl rfl (by decide) (fun m h => ?_)
  refine qz_pR Q h rfl (by decide) (by decide) (by decide) (fun m h => ?_)
  refine qz_na Q 26 (c' := 563) (w' := 6172) h rfl (by decide) rfl rfl rfl (by decide) (fun m h => ?_)
  refine qz_pR Q h rfl (by decide) (by decide) (by decide) (fun m h => ?_)
  refine qz_na Q 26 (c' := 564) (w' := 6198) h rfl (by decide) rfl rfl rfl (by decide) (fun m h => ?_)
  refine qz_pR Q h rfl (by decide) (by decide) (by decide) (fun m h => ?_)
  refine qz_na Q 26 (c' := 565) (w' := 6224) h rfl (by decide) rfl rfl rfl (by decide) (fun m h => ?_)
  refine qz_pR Q h rfl (by decide) (by decide) (by decide) (fun m h => ?_)
  refine qz_na Q 13 (c' := 566) (w' := 6237) h rfl (by decide) rfl rfl rfl (by decide) (fun m h => ?_)
  refine qz_pR Q h rfl (by decide) (by decide) (by decide) (fun m h => ?_)
  refine qz_nm Q 13 16 (c1 := 567) (c' := 580) (w' := 6458) h rfl rfl (fun _ _ => rfl) (by decide +kernel) rfl rfl rfl rfl (by decide) (by decide) (fun m h => ?_)
  refine qz_pR Q h rfl (by decide) (by decide) (by decide) (fun m h => ?_)
  refine qz_na Q 9 (c' := 581) (w' := 6467) h rfl (by decide) rfl rfl rfl (by decide) (fun m h => ?_)
  refine qz_pR Q h rfl (by decide) (by decide) (by decide) (fun m h => ?_)
  refine qz_na Q 16 (c' := 582) (w' := 6483) h rfl (by decide) rfl rfl rfl (by decide) (fun m h => ?_)
  refine qz_pR Q h rfl (by decide) (by decide) (by decide) (fun m h => ?_)
  refine qz_nm Q 9 9 (c1 := 583) (c' := 592) (w' := 6573) h rfl rfl (fun _ _ => rfl) (by decide +kernel) rfl rfl rfl rfl (by decide) (by decide) (fun m h => ?_)
  refine qz_pR Q h rfl (by decide) (by decide) (by decide) (fun m h => ?_)
  refine qz_na Q 14 (c' := 593) (w' := 6587) h rfl (by decide) rfl rfl rfl (by decide) (fun m h => ?_)
  refine qz_pR Q h rfl (by decide) (by decide) (by decide) (fun m h => ?_)
  refine qz_na Q 16 (c' := 594) (w' := 6603) h rfl (by decide) rfl rfl rfl (by decide) (fun m h => ?_)
  refine qz_pR Q h rfl (by decide) (by decide) (by decide) (fun m h => ?_)
  refine qz_rc Q h rfl (by decide) (by decide) ?_
  refine nz_X9_tellsNothing_108 (fun r => Q (pm_cV r _)) h (fun m h => ?_)
  refine qz_cV Q ?_
  refine qz_rc Q h rfl (by decide) (by decide) ?_
  refine nz_X9_beginsAnew_108 (fun r => Q (pm_cV r _)) h (fun m h => ?_)
  refine qz_cV Q ?_
  exact k m h
def nz_es : List (Nat × Nat × Int32) := (535, 10, 60) :: (108, 12, 60) :: nz_es9
set_option maxRecDepth 20000 in
theorem nz_law (h : qz L xs 64 0 [] [] m) (k : ∀ m', qz L xs 595 6604 nz_rs9 nz_es m' → Q (pm_lp pm_N (L_law__L23 0 64 108 594) (0, m'))) : Q (L_law_ 0 m) := by
  unfold L_law_
  refine qz_nw Q (c' := 65) (w' := 15) h rfl (by decide) rfl rfl (fun m h => ?_)
  refine nz_X8_init_64 (fun r => Q (pm_cV r _)) h (fun m h => ?_)
  refine qz_cV Q ?_
  refine qz_nw Q (c' := 109) (w' := 2631) h rfl (by decide) rfl rfl (fun m h => ?_)
  refine nz_X9_init_108 (fun r => Q (pm_cV r _)) h (fun m h => ?_)
  refine qz_cV Q ?_
  refine qz_na Q 1 (c' := 595) (w' := 6604) h rfl (by decide) rfl rfl rfl (by decide) (fun m h => ?_)
  exact k m h
theorem nz_find {A B : List (Nat × Nat × Nat)} (h1 : ∀ t ∈ A, B.find? (fun u => Nat.beq u.1 t.1 && Nat.beq u.2.1 t.2.1) = some t) (h2 : ∀ t ∈ B, A.find? (fun u => Nat.beq u.1 t.1 && Nat.beq u.2.1 t.2.1) = some t) (a j : Nat) : A.find? (fun u => Nat.beq u.1 a && Nat.beq u.2.1 j) = B.find? (fun u => Nat.beq u.1 a && Nat.beq u.2.1 j) := by
  cases hA : A.find? (fun u => Nat.beq u.1 a && Nat.beq u.2.1 j) with
  | some t =>
    have g1 := List.mem_of_find?_eq_some hA
    have g2 := List.find?_some hA
    rw [Bool.and_eq_true] at g2
    have e1 := Nat.eq_of_beq_eq_true g2.1
    have e2 := Nat.eq_of_beq_eq_true g2.2
    have g3 := h1 t g1
    rw [e1, e2] at g3
    exact g3.symm
  | none =>
    cases hB : B.find? (fun u => Nat.beq u.1 a && Nat.beq u.2.1 j) with
    | none => rfl
    | some t =>
      have g1 := List.mem_of_find?_eq_some hB
      have g2 := List.find?_some hB
      rw [Bool.and_eq_true] at g2
      have e1 := Nat.eq_of_beq_eq_true g2.1
      have e2 := Nat.eq_of_beq_eq_true g2.2
      have g3 := h2 t g1
      rw [e1, e2, hA] at g3
      cases g3
theorem nz_r (a : Nat) : qz_r nz_rs9 a = ly_r a := by
  funext j
  unfold qz_r ly_r
  rw [nz_find (A := nz_rs9) (B := ly_R) (by decide +kernel) (by decide +kernel) a j]
def st_T (k : Nat) : Nat × Nat := if k = 1 then (100, 5) else if k = 2 then (100, 9) else if 33 ≤ k ∧ k < 52 then (105, (st_bytes.getD (k - 33) []).length) else (199, 0)
theorem st_TE : ∀ a, a < 64 → 0 < a → st_T a = ly_f a := by decide +kernel
theorem nz_m0 : qz L xs 64 0 [] [] (pm_m0 L xs) := by
  refine ⟨rfl, rfl, by omega, rfl, fun a h0 ha => ?_, fun i j hi => rfl, fun t ht => (by cases ht), fun t ht => (by cases ht)⟩
  have h1 : st_S L a = ((st_T a).1, (st_T a).2, fun _ => none) := by
    unfold st_S st_T
    rw [if_neg (by omega)]
    split
    · rfl
    · split
      · rfl
      · split <;> rfl
  show st_S L a = _
  rw [h1, st_TE a ha h0, qz_rN (c := 0) (rs := []) (a := a) (fun t ht => by cases ht) (by omega) (by unfold qz_no; omega)]
theorem nz_jx (h : qz L xs 595 6604 nz_rs9 nz_es m) : jx xs m.2.2.2.1 := by
  obtain ⟨-, -, -, -, -, h6, -, h8⟩ := h
  have hz : ∀ i j, 64 ≤ i → i < 595 → ¬ (i = 65 ∨ i = 67 ∨ i = 71 ∨ i = 75 ∨ i = 76 ∨ i = 79 ∨ i = 80 ∨ i = 93 ∨ i = 96 ∨ i = 108 ∨ i = 535) → m.2.2.2.1 i j = nI 0 := by
    intro i j h1 h2 h3
    rw [h6 i j h2]
    refine qz_eZ (List.all_eq_true.mpr fun t ht => ?_) h1
    have g : (nz_es.all fun t => Nat.beq t.1 65 || (Nat.beq t.1 67 || (Nat.beq t.1 71 || (Nat.beq t.1 75 || (Nat.beq t.1 76 || (Nat.beq t.1 79 || (Nat.beq t.1 80 || (Nat.beq t.1 93 || (Nat.beq t.1 96 || (Nat.beq t.1 108 || Nat.beq t.1 535)))))))))) = true := by decide +kernel
    have g1 := List.all_eq_true.mp g t ht
    simp only [Bool.or_eq_true] at g1
    rw [beqn (a := t.1) (b := i) (by
      rintro rfl
      apply h3
      rcases g1 with e | e | e | e | e | e | e | e | e | e | e <;> have := Nat.eq_of_beq_eq_true e <;> omega)]
    rfl
  have hl : ∀ i j, i < 64 → m.2.2.2.1 i j = st_I xs i j := by
    intro i j h1
    rw [h6 i j (by omega)]
    unfold qz_e
    rw [List.find?_eq_none.mpr (fun t ht => by
      have := h8 t ht
      rw [beqn (show t.1 ≠ i by omega)]; simp)]
  have h65 : m.2.2.2.1 65 1 = nI 0 ∧ m.2.2.2.1 65 7 = -1 := ⟨(h6 _ _ (by omega)).trans rfl, (h6 _ _ (by omega)).trans rfl⟩
  have h67 : m.2.2.2.1 67 3 = nI 0 ∧ m.2.2.2.1 67 4 = nI 0 := ⟨(h6 _ _ (by omega)).trans rfl, (h6 _ _ (by omega)).trans rfl⟩
  have h75 : m.2.2.2.1 75 3 = nI 5 := (h6 _ _ (by omega)).trans rfl
  have h76 : ∀ j, j < 5 → m.2.2.2.1 76 j = ([1, -1, 2, -11, -8] : List Int32).getD j 0 := by
    intro j hj
    rw [h6 _ _ (by omega)]
    rcases (by omega : j = 0 ∨ j = 1 ∨ j = 2 ∨ j = 3 ∨ j = 4) with rfl | rfl | rfl | rfl | rfl <;> rfl
  have h93 : m.2.2.2.1 93 5 = nI 60 ∧ m.2.2.2.1 93 4 = nI 0 ∧ m.2.2.2.1 93 6 = nI 0 ∧ m.2.2.2.1 93 7 = nI 0 := ⟨(h6 _ _ (by omega)).trans rfl, (h6 _ _ (by omega)).trans rfl, (h6 _ _ (by omega)).trans rfl, (h6 _ _ (by omega)).trans rfl⟩
  have h108 : m.2.2.2.1 108 1 = nI 0 ∧ m.2.2.2.1 108 3 = -1 ∧ m.2.2.2.1 108 13 = nI 0 ∧ m.2.2.2.1 108 19 = nI 0 ∧ m.2.2.2.1 108 33 = nI 0 ∧ m.2.2.2.1 108 34 = nI 0 ∧ m.2.2.2.1 108 35 = nI 0 ∧ m.2.2.2.1 108 36 = nI 0 := ⟨(h6 _ _ (by omega)).trans rfl, (h6 _ _ (by omega)).trans rfl, (h6 _ _ (by omega)).trans rfl, (h6 _ _ (by omega)).trans rfl, (h6 _ _ (by omega)).trans rfl, (h6 _ _ (by omega)).trans rfl, (h6 _ _ (by omega)).trans rfl, (h6 _ _ (by omega)).trans rfl⟩
  have h535 : ∀ k, k < 14 → m.2.2.2.1 535 k = if k = 10 then nI 60 else nI 0 := by
    intro k hk
    rw [h6 _ _ (by omega)]
    rcases (by omega : k = 0 ∨ k = 1 ∨ k = 2 ∨ k = 3 ∨ k = 4 ∨ k = 5 ∨ k = 6 ∨ k = 7 ∨ k = 8 ∨ k = 9 ∨ k = 10 ∨ k = 11 ∨ k = 12 ∨ k = 13) with rfl | rfl | rfl | rfl | rfl | rfl | rfl | rfl | rfl | rfl | rfl | rfl | rfl | rfl <;> rfl
  have hR : ∀ (p : Nat) (f : Nat → Int32), (∀ k, f k = nI 0) → dk_R m.2.2.2.1 p f := by
    intro p f hf
    refine ⟨fun l hl => ?_, fun k hk => ?_, ?_, ?_, ?_, ?_⟩ <;> rw [hf, hz 100 _ (by omega) (by omega) (by omega)]
  have hne : ∀ k : Nat, k ≠ 10 → (if k = 10 then nI 60 else nI 0) = nI 0 := fun k hk => if_neg hk
  refine ⟨fun j => hl 0 j (by omega), 0, fun _ => 0, fun _ _ => 0, fun k => if k = 10 then nI 60 else nI 0, 0, fun _ => 0, 0, 0, ?_, ?_, ?_, h535, ?_, ?_, ?_, ?_, ?_, ?_, ?_⟩
  · exact ⟨⟨by omega, fun l hl => by omega, fun l _ => rfl, fun l i hl => by omega⟩, h67.1, fun l hl => by omega, fun l i hl => by omega, h67.2⟩
  · exact ⟨⟨by omega, fun l hl => by omega, fun l _ => rfl, fun l i hl => by omega⟩, h108.2.2.1, fun l hl => hz 113 l (by omega) (by omega) (by omega), fun l i hl => by omega⟩
  · refine ⟨fun l hl => ?_, fun k hk => ?_, h93.1, h93.2.1, h93.2.2.1, h93.2.2.2⟩
    · rw [hz (93 + 1) l (by omega) (by omega) (by omega)]; exact (hne l (by omega)).symm
    · rw [hz (93 + 2) k (by omega) (by omega) (by omega)]; exact (hne (6 + k) (by omega)).symm
  · refine ⟨fun l hl => ?_, fun k hk => ?_, ?_, ?_⟩
    · have e : (fun k => if k = 10 then nI 60 else nI 0) l = nI 0 := hne l (by omega)
      unfold rd_s
      rw [e]
      exact ⟨rfl, (show (nI 0).toNatClampNeg < 2 ^ 0 by decide)⟩
    · have e : (fun k => if k = 10 then nI 60 else nI 0) (6 + k) = nI 0 := hne (6 + k) (by omega)
      unfold rd_s
      rw [e]; decide
    · unfold rd_s; decide
    · unfold rd_s; decide
  · exact ⟨⟨0, by omega, h65.1, h108.1⟩, fun k hk => ⟨by rw [hz 66 k (by omega) (by omega) (by omega), hz 109 k (by omega) (by omega) (by omega)], 0, by omega, hz 109 k (by omega) (by omega) (by omega)⟩, by rw [h65.2, h108.2.1]⟩
  · exact ⟨by omega, hz 83 1 (by omega) (by omega) (by omega), h108.2.2.2.2.1, fun k hk => by omega⟩
  · refine ⟨by omega, by omega, hz 99 2 (by omega) (by omega) (by omega), h108.2.2.2.2.2.1, hz 99 3 (by omega) (by omega) (by omega), h108.2.2.2.2.2.2.2, fun v hv => hR _ _ (fun k => hz (538 + v) k (by omega) (by omega) (by omega)), fun v hv => by omega, fun g hg => ⟨hR _ _ (fun k => hz (555 + g) _ (by omega) (by omega) (by omega)), ?_, fun v hv => hR _ _ (fun k => hz (555 + g) _ (by omega) (by omega) (by omega))⟩, fun g hg => by omega⟩
    rw [hz 101 g (by omega) (by omega) (by omega), hz (555 + g) 0 (by omega) (by omega) (by omega)]
  · refine ⟨?_, ?_, ?_⟩
    · rw [hz 64 12 (by omega) (by omega) (by omega), h108.2.2.2.2.2.2.1]
    · rw [hz 64 13 (by omega) (by omega) (by omega), hz 110 0 (by omega) (by omega) (by omega)]
    · rw [hz 64 14 (by omega) (by omega) (by omega), hz 110 1 (by omega) (by omega) (by omega)]
  · refine ⟨fun j hj => hl 1 j (by omega), fun j hj => hl 2 j (by omega), fun k j hk hj => ?_⟩
    rw [hl (33 + k) j (by omega)]
    unfold st_I
    rw [if_neg (by omega), if_neg (by omega), if_neg (by omega), if_pos (by omega), show 33 + k - 33 = k by omega]
  · exact ⟨0, by omega, h108.2.2.2.1, Or.inl ⟨rfl, h75, h76⟩⟩
theorem nz_all (L : Nat) (xs : Nat → Int32) (hL : L ≤ 512) : ∃ m', L_law_ 0 (pm_m0 L xs) = pm_oI 1 m' ∧ m'.1 ≤ 595 + 64 ∧ m'.2.1 ≤ 6604 + 6 * 64 := by
  refine nz_law (fun r => ∃ m', r = pm_oI 1 m' ∧ m'.1 ≤ 595 + 64 ∧ m'.2.1 ≤ 6604 + 6 * 64) nz_m0 (fun m h => ?_)
  refine law_loop (L := L) (f0 := fun _ => none) (xs := xs) (w0 := 6604) (m := m) ⟨⟨by rw [h.1]; omega, fun a h0 ha => ?_⟩, h.2.2.2.1, by rw [h.1]; omega, by rw [h.2.1]; omega, nz_jx h⟩ hL
  rw [h.2.2.2.2.1 a h0 ha, nz_r]
end INI
