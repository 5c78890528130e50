/-! fields that are written, arrays -/
section PMP
variable {l : Launch} {Γ : pmG} {y : pmY} {d pc : Nat} {ls st : List Value} {m : pmM} {res : pmR} {q : vw_C} {ty : Nat → FieldType} {ci k index a : Nat} {host : String}
abbrev pm_pw1 (y : pmY) (q : vw_C) (k index : Nat) (host : String) : Prop := (Cond.fieldLink y.1.cls index (q.2.1 k).1 (q.2.1 k).2.1 (q.2.1 k).2.2.1 ∈ pm_tbl ∧ ((q.2.1 k).2.2.2 = false ∨ (y.1.name = "<init>" ∧ (q.2.1 k).1 = y.1.cls ∧ (q.2.1 k).2.2.2 = true))) ∨ (Cond.fieldLinkNest y.1.cls index (q.2.1 k).1 (q.2.1 k).2.1 (q.2.1 k).2.2.1 host ∈ pm_nest ∧ (q.2.1 k).2.2.2 = false)
theorem pm_putI (hkn : pm_kn ci q ty) (hk : k < q.2.2) (hw : pm_pw1 y q k index host) (hd : decode y.2.1 pc = .ok (.putfield index, 3)) (hi : pm_fr ci k = false) (hty : ty k = .int) {v : Int32} {f : pmM → pmR} (kk : ∀ m2, pm_G l Γ y d (pc + 3) ls st m2 (f m2)) : pm_G l Γ y d pc ls (.int v :: .ref a :: st) m (pm_pI ci a k v m f) := by
  unfold pm_pI
  by_cases h : (pm_E ≤ a ∧ a < m.1) ∧ (m.2.2.1 a).1 = ci
  · rw [if_pos h]
    refine pm_putW hkn hk hw hd (m2 := pm_wI m a k v) rfl rfl (fun _ _ => rfl) (fun i hi9 => ?_) (fun _ _ => rfl) h.2 h.1.1 h.1.2 h.2 ?_ (fun j hj => ?_) ?_ ?_ (kk _)
    · funext j
      simp [pm_wI, hi9]
    · show Value.int v = pm_fv Γ (pm_wI m a k v) a k
      unfold pm_fv
      have : ((pm_wI m a k v).2.2.1 a).1 = ci := h.2
      rw [this, hi]
      simp [pm_wI]
    · simp [pm_fv, pm_wI, hj]
    · rw [hty]; rfl
    · rw [hty]; rfl
  · rw [if_neg h]; exact pm_none
theorem pm_putR (hkn : pm_kn ci q ty) (hk : k < q.2.2) (hw : pm_pw1 y q k index host) (hd : decode y.2.1 pc = .ok (.putfield index, 3)) (hi : pm_fr ci k = true) (hty : (∃ n, ty k = .object n) ∨ ∃ t, ty k = .array t) {b : Nat} {f : pmM → pmR} (kk : ∀ m2, pm_G l Γ y d (pc + 3) ls st m2 (f m2)) : pm_G l Γ y d pc ls (.ref b :: .ref a :: st) m (pm_pR ci a k b m f) := by
  unfold pm_pR
  by_cases h : (pm_E ≤ a ∧ a < m.1) ∧ (m.2.2.1 a).1 = ci
  · rw [if_pos h]
    refine pm_putW hkn hk hw hd (m2 := pm_wR m a k (some b)) rfl rfl (fun i hi9 => ?_) (fun _ _ => rfl) (fun _ _ => rfl) ?_ h.1.1 h.1.2 h.2 ?_ (fun j hj => ?_) ?_ ?_ (kk _)
    · simp [pm_wR, hi9]
    · simp [pm_wR, h.2]
    · show Value.ref (Γ.2.2.1 b) = pm_fv Γ (pm_wR m a k (some b)) a k
      unfold pm_fv
      have : ((pm_wR m a k (some b)).2.2.1 a).1 = ci := by simp [pm_wR, h.2]
      rw [this, hi]
      simp [pm_wR, pm_rf]
    · simp [pm_fv, pm_wR, hj]
    · rcases hty with ⟨n, e⟩ | ⟨t, e⟩ <;> rw [e] <;> rfl
    · rcases hty with ⟨n, e⟩ | ⟨t, e⟩ <;> rw [e] <;> rfl
  · rw [if_neg h]; exact pm_none
end PMP
section PMA
variable {l : Launch} {Γ : pmG} {y : pmY} {d pc : Nat} {ls st : List Value} {m : pmM} {res : pmR} {a : Nat}
/-- a place of a row: in it or not -/
abbrev pm_out (i : Int32) (n : Nat) : Prop := i < 0 ∨ n ≤ i.toNatClampNeg
def pm_ld (kd a : Nat) (i : Int32) (m : pmM) (f : Int32 → pmR) : pmR := if a < m.1 ∧ (m.2.2.1 a).1 = kd then (if pm_out i (m.2.2.1 a).2.1 then none else f (m.2.2.2.1 a i.toNatClampNeg)) else none
def pm_ldL (a : Nat) (i : Int32) (m : pmM) (f : Int64 → pmR) : pmR := if a < m.1 ∧ (m.2.2.1 a).1 = 102 then (if pm_out i (m.2.2.1 a).2.1 then none else f (m.2.2.2.2 a i.toNatClampNeg)) else none
def pm_ldR (kd a : Nat) (i : Int32) (m : pmM) (f : Nat → pmR) : pmR := if a < m.1 ∧ (m.2.2.1 a).1 = kd then (if pm_out i (m.2.2.1 a).2.1 then none else (match (m.2.2.1 a).2.2 i.toNatClampNeg with | some b => f b | none => none)) else none
def pm_st (kd a : Nat) (i v : Int32) (m : pmM) (f : pmM → pmR) : pmR := if (pm_E ≤ a ∧ a < m.1) ∧ (m.2.2.1 a).1 = kd then (if pm_out i (m.2.2.1 a).2.1 then none else f (pm_wI m a i.toNatClampNeg v)) else none
def pm_stL (a : Nat) (i : Int32) (v : Int64) (m : pmM) (f : pmM → pmR) : pmR := if (pm_E ≤ a ∧ a < m.1) ∧ (m.2.2.1 a).1 = 102 then (if pm_out i (m.2.2.1 a).2.1 then none else f (pm_wL m a i.toNatClampNeg v)) else none
def pm_len (kd a : Nat) (m : pmM) (f : Int32 → pmR) : pmR := if a < m.1 ∧ (m.2.2.1 a).1 = kd then f (nI (m.2.2.1 a).2.1) else none
theorem pm_alen {kd : Nat} (h1 : 100 ≤ kd) (h2 : kd < 106) (hd : decode y.2.1 pc = .ok (.arraylength, 1)) {f : Int32 → pmR} (kk : ∀ x, pm_G l Γ y d (pc + 1) ls (.int x :: st) m (f x)) : pm_G l Γ y d pc ls (.ref a :: st) m (pm_len kd a m f) := by
  unfold pm_len
  by_cases h : a < m.1 ∧ (m.2.2.1 a).1 = kd
  · rw [if_pos h]
    refine pm_pw (fun p e R s mth args below meth c H locs cells slots Q A hC hH hl hlo hc hs k9 => ?_) (kk _)
    obtain ⟨cell, q1, -, q2⟩ := hH.2.2 a h.1 (by rw [h.2]; exact h2)
    obtain ⟨g1, g2, g3, g4⟩ := q2 (by rw [h.2]; exact h1)
    exact W.alen hC.1 hC.2.1 q1 g1 g3.2 rfl rfl hd k9
  · rw [if_neg h]; exact pm_none
theorem pm_iald (hd : decode y.2.1 pc = .ok (.iaload, 1)) {i : Int32} {f : Int32 → pmR} (kk : ∀ x, pm_G l Γ y d (pc + 1) ls (.int x :: st) m (f x)) : pm_G l Γ y d pc ls (.int i :: .ref a :: st) m (pm_ld 100 a i m f) := by
  unfold pm_ld
  by_cases h : a < m.1 ∧ (m.2.2.1 a).1 = 100
  · rw [if_pos h]
    by_cases hi : pm_out i (m.2.2.1 a).2.1
    · rw [if_pos hi]; exact pm_none
    rw [if_neg hi]
    refine pm_pw (fun p e R s mth args below meth c H locs cells slots Q A hC hH hl hlo hc hs k9 => ?_) (kk _)
    obtain ⟨cell, q1, -, q2⟩ := hH.2.2 a h.1 (by rw [h.2]; decide)
    obtain ⟨g1, g2, g3, g4⟩ := q2 (by rw [h.2]; decide)
    have hlt : i.toNatClampNeg < (m.2.2.1 a).2.1 := Nat.not_le.mp fun z => hi (Or.inr z)
    have hv := g4 _ hlt
    have e9 : pm_av Γ m a i.toNatClampNeg = .int (m.2.2.2.1 a i.toNatClampNeg) := by unfold pm_av; rw [h.2]; rfl
    rw [e9] at hv
    rw [h.2] at g1
    exact W.iald hC.1 hC.2.1 q1 g1 g2 (fun z => hi (z.imp id (fun q => Nat.le_trans g3.1 q))) hv rfl rfl hd k9
  · rw [if_neg h]; exact pm_none
theorem pm_zald (hd : decode y.2.1 pc = .ok (.baload, 1)) {i : Int32} {f : Int32 → pmR} (kk : ∀ x, pm_G l Γ y d (pc + 1) ls (.int x :: st) m (f x)) : pm_G l Γ y d pc ls (.int i :: .ref a :: st) m (pm_ld 101 a i m f) := by
  unfold pm_ld
  by_cases h : a < m.1 ∧ (m.2.2.1 a).1 = 101
  · rw [if_pos h]
    by_cases hi : pm_out i (m.2.2.1 a).2.1
    · rw [if_pos hi]; exact pm_none
    rw [if_neg hi]
    refine pm_pw (fun p e R s mth args below meth c H locs cells slots Q A hC hH hl hlo hc hs k9 => ?_) (kk _)
    obtain ⟨cell, q1, -, q2⟩ := hH.2.2 a h.1 (by rw [h.2]; decide)
    obtain ⟨g1, g2, g3, g4⟩ := q2 (by rw [h.2]; decide)
    have hlt : i.toNatClampNeg < (m.2.2.1 a).2.1 := Nat.not_le.mp fun z => hi (Or.inr z)
    have hv := g4 _ hlt
    have e9 : pm_av Γ m a i.toNatClampNeg = .int (m.2.2.2.1 a i.toNatClampNeg) := by unfold pm_av; rw [h.2]; rfl
    rw [e9] at hv
    rw [h.2] at g1
    exact W.zald hC.1 hC.2.1 q1 g1 g2 (fun z => hi (z.imp id (fun q => Nat.le_trans g3.1 q))) hv rfl rfl hd k9
  · rw [if_neg h]; exact pm_none
theorem pm_bald (hd : decode y.2.1 pc = .ok (.baload, 1)) {i : Int32} {f : Int32 → pmR} (kk : ∀ x, pm_G l Γ y d (pc + 1) ls (.int x :: st) m (f x)) : pm_G l Γ y d pc ls (.int i :: .ref a :: st) m (pm_ld 105 a i m f) := by
  unfold pm_ld
  by_cases h : a < m.1 ∧ (m.2.2.1 a).1 = 105
  · rw [if_pos h]
    by_cases hi : pm_out i (m.2.2.1 a).2.1
    · rw [if_pos hi]; exact pm_none
    rw [if_neg hi]
    refine pm_pw (fun p e R s mth args below meth c H locs cells slots Q A hC hH hl hlo hc hs k9 => ?_) (kk _)
    obtain ⟨cell, q1, -, q2⟩ := hH.2.2 a h.1 (by rw [h.2]; decide)
    obtain ⟨g1, g2, g3, g4⟩ := q2 (by rw [h.2]; decide)
    have hlt : i.toNatClampNeg < (m.2.2.1 a).2.1 := Nat.not_le.mp fun z => hi (Or.inr z)
    have hv := g4 _ hlt
    have e9 : pm_av Γ m a i.toNatClampNeg = .int (m.2.2.2.1 a i.toNatClampNeg) := by unfold pm_av; rw [h.2]; rfl
    rw [e9] at hv
    rw [h.2] at g1
    exact W.bald hC.1 hC.2.1 q1 g1 g2 (fun z => hi (z.imp id (fun q => Nat.le_trans g3.1 q))) hv rfl rfl hd k9
  · rw [if_neg h]; exact pm_none
theorem pm_lald (hd : decode y.2.1 pc = .ok (.laload, 1)) {i : Int32} {f : Int64 → pmR} (kk : ∀ x, pm_G l Γ y d (pc + 1) ls (.long x :: st) m (f x)) : pm_G l Γ y d pc ls (.int i :: .ref a :: st) m (pm_ldL a i m f) := by
  unfold pm_ldL
  by_cases h : a < m.1 ∧ (m.2.2.1 a).1 = 102
  · rw [if_pos h]
    by_cases hi : pm_out i (m.2.2.1 a).2.1
    · rw [if_pos hi]; exact pm_none
    rw [if_neg hi]
    refine pm_pw (fun p e R s mth args below meth c H locs cells slots Q A hC hH hl hlo hc hs k9 => ?_) (kk _)
    obtain ⟨cell, q1, -, q2⟩ := hH.2.2 a h.1 (by rw [h.2]; decide)
    obtain ⟨g1, g2, g3, g4⟩ := q2 (by rw [h.2]; decide)
    have hlt : i.toNatClampNeg < (m.2.2.1 a).2.1 := Nat.not_le.mp fun z => hi (Or.inr z)
    have hv := g4 _ hlt
    have e9 : pm_av Γ m a i.toNatClampNeg = .long (m.2.2.2.2 a i.toNatClampNeg) := by unfold pm_av; rw [h.2]; rfl
    rw [e9] at hv
    rw [h.2] at g1
    exact W.lald hC.1 hC.2.1 q1 g1 g2 (fun z => hi (z.imp id (fun q => Nat.le_trans g3.1 q))) hv rfl rfl hd k9
  · rw [if_neg h]; exact pm_none
theorem pm_aaldI (hd : decode y.2.1 pc = .ok (.aaload, 1)) {i : Int32} {f : Nat → pmR} (kk : ∀ x, pm_G l Γ y d (pc + 1) ls (.ref x :: st) m (f x)) : pm_G l Γ y d pc ls (.int i :: .ref a :: st) m (pm_ldR 103 a i m f) := by
  unfold pm_ldR
  by_cases h : a < m.1 ∧ (m.2.2.1 a).1 = 103
  · rw [if_pos h]
    by_cases hi : pm_out i (m.2.2.1 a).2.1
    · rw [if_pos hi]; exact pm_none
    rw [if_neg hi]
    cases hb : (m.2.2.1 a).2.2 i.toNatClampNeg with
    | none => exact pm_none
    | some b =>
      refine pm_pw (fun p e R s mth args below meth c H locs cells slots Q A hC hH hl hlo hc hs k9 => ?_) (kk b)
      obtain ⟨cell, q1, -, q2⟩ := hH.2.2 a h.1 (by rw [h.2]; decide)
      obtain ⟨g1, g2, g3, g4⟩ := q2 (by rw [h.2]; decide)
      have hlt : i.toNatClampNeg < (m.2.2.1 a).2.1 := Nat.not_le.mp fun z => hi (Or.inr z)
      have hv := g4 _ hlt
      have e9 : pm_av Γ m a i.toNatClampNeg = .ref (Γ.2.2.1 b) := by unfold pm_av; rw [h.2, hb]; rfl
      rw [e9] at hv
      rw [h.2] at g1
      exact W.aald hC.1 hC.2.1 q1 g1 rfl g2 (fun z => hi (z.imp id (fun q => Nat.le_trans g3.1 q))) hv rfl rfl hd k9
  · rw [if_neg h]; exact pm_none
theorem pm_aaldL (hd : decode y.2.1 pc = .ok (.aaload, 1)) {i : Int32} {f : Nat → pmR} (kk : ∀ x, pm_G l Γ y d (pc + 1) ls (.ref x :: st) m (f x)) : pm_G l Γ y d pc ls (.int i :: .ref a :: st) m (pm_ldR 104 a i m f) := by
  unfold pm_ldR
  by_cases h : a < m.1 ∧ (m.2.2.1 a).1 = 104
  · rw [if_pos h]
    by_cases hi : pm_out i (m.2.2.1 a).2.1
    · rw [if_pos hi]; exact pm_none
    rw [if_neg hi]
    cases hb : (m.2.2.1 a).2.2 i.toNatClampNeg with
    | none => exact pm_none
    | some b =>
      refine pm_pw (fun p e R s mth args below meth c H locs cells slots Q A hC hH hl hlo hc hs k9 => ?_) (kk b)
      obtain ⟨cell, q1, -, q2⟩ := hH.2.2 a h.1 (by rw [h.2]; decide)
      obtain ⟨g1, g2, g3, g4⟩ := q2 (by rw [h.2]; decide)
      have hlt : i.toNatClampNeg < (m.2.2.1 a).2.1 := Nat.not_le.mp fun z => hi (Or.inr z)
      have hv := g4 _ hlt
      have e9 : pm_av Γ m a i.toNatClampNeg = .ref (Γ.2.2.1 b) := by unfold pm_av; rw [h.2, hb]; rfl
      rw [e9] at hv
      rw [h.2] at g1
      exact W.aald hC.1 hC.2.1 q1 g1 rfl g2 (fun z => hi (z.imp id (fun q => Nat.le_trans g3.1 q))) hv rfl rfl hd k9
  · rw [if_neg h]; exact pm_none
/-- a slot of a row of ours is written -/
theorem pm_heap_st {s : State} {m2 : pmM} {H H' : Heap} {cell : Cell} {i : Nat} {v : Value} (hE : pm_env Γ s) (h : pm_heap Γ s m H) (ha : pm_E ≤ a) (hk1 : 100 ≤ (m.2.2.1 a).1) (q1 : H[Γ.2.2.1 a]? = some cell) (hlt : i < (m.2.2.1 a).2.1) (g1 : s.isArrayOf cell (pm_aty (m.2.2.1 a).1)) (g2 : cell.vm ≠ .unknown) (g3 : (m.2.2.1 a).2.1 ≤ cell.slots.size ∧ cell.slots.size.toInt32 = nI (m.2.2.1 a).2.1) (g4 : ∀ j, j < (m.2.2.1 a).2.1 → cell.slots[j]? = some (pm_av Γ m a j))
    (hm1 : m2.1 = m.1) (h1 : ∀ k, m2.2.2.1 k = m.2.2.1 k) (h2 : ∀ k, k ≠ a → m2.2.2.2.1 k = m.2.2.2.1 k) (h3 : ∀ k, k ≠ a → m2.2.2.2.2 k = m.2.2.2.2 k) (hv : v = pm_av Γ m2 a i) (hvo : ∀ j, j ≠ i → pm_av Γ m2 a j = pm_av Γ m a j)
    (e1 : H'[Γ.2.2.1 a]? = some (cell.setSlot i v)) (e2 : H'.size = H.size) (e3 : ∀ q, q ≠ Γ.2.2.1 a → H'[q]? = H[q]?) : pm_heap Γ s m2 H' := by
  refine pm_heap_put hE h ha hm1 (fun k _ => h1 k) h2 h3 e1 e2 e3 ⟨fun z => by rw [h1] at z; omega, fun _ => ?_⟩
  rw [h1]
  have hlt9 : i < cell.slots.size := Nat.lt_of_lt_of_le hlt g3.1
  refine ⟨g1, g2, ⟨by simp [Cell.setSlot]; exact g3.1, by simp [Cell.setSlot]; exact g3.2⟩, fun j hj => ?_⟩
  by_cases hji : i = j
  · subst hji
    simp [Cell.setSlot, Array.getElem?_setIfInBounds, hlt9, hv]
  · simp [Cell.setSlot, Array.getElem?_setIfInBounds, hji, g4 j hj, hvo j (Ne.symm hji)]
theorem pm_lo {s : State} (hE : pm_env Γ s) (ha : pm_E ≤ a) {i : Nat} {locs : List Loc} (hlo : ∀ q ∈ locs, Γ.2.2.2.size ≤ q.base) : ∀ z ∈ locs ++ [⟨Γ.2.2.1 a, i⟩], Γ.2.2.2.size ≤ z.base := by
  intro z hz
  rcases List.mem_append.mp hz with h | h
  · exact hlo z h
  · rw [List.mem_singleton.mp h]
    show Γ.2.2.2.size ≤ Γ.2.2.1 a
    rw [hE.2.1.1 a ha]; omega
theorem pm_iast (hd : decode y.2.1 pc = .ok (.iastore, 1)) {i : Int32} {v : Int32} {f : pmM → pmR} (kk : ∀ m2, pm_G l Γ y d (pc + 1) ls st m2 (f m2)) : pm_G l Γ y d pc ls (.int v :: .int i :: .ref a :: st) m (pm_st 100 a i v m f) := by
  unfold pm_st
  by_cases h : (pm_E ≤ a ∧ a < m.1) ∧ (m.2.2.1 a).1 = 100
  · rw [if_pos h]
    by_cases hi : pm_out i (m.2.2.1 a).2.1
    · rw [if_pos hi]; exact pm_none
    rw [if_neg hi]
    refine pm_w (m2 := pm_wI m a i.toNatClampNeg v) rfl rfl (fun p e R s mth args below meth c H locs cells slots Q A hC hH hl hlo hc hs k9 => ?_) (kk _)
    obtain ⟨cell, q1, -, q2⟩ := hH.2.2 a h.1.2 (by rw [h.2]; decide)
    obtain ⟨g1, g2, g3, g4⟩ := q2 (by rw [h.2]; decide)
    have hlt : i.toNatClampNeg < (m.2.2.1 a).2.1 := Nat.not_le.mp fun z => hi (Or.inr z)
    have g1' := g1
    rw [h.2] at g1'
    have hE := hC.2.2.2.2.2.2.2.2.1
    refine W.iast hC.1 hC.2.1 q1 g1' g2 (fun z => hi (z.imp id (fun q => Nat.le_trans g3.1 q))) rfl rfl hd (fun H' e1 e2 e3 => k9 H' _ (pm_heap_st hE hH h.1.1 (by rw [h.2]; decide) q1 hlt g1 g2 g3 g4 rfl (fun _ => rfl) (fun k hk => ?_) (fun k hk => ?_) ?_ (fun j hj => ?_) e1 e2 e3) (pm_lo hE h.1.1 hlo))
    · funext j; simp [pm_wI, hk]
    · funext j; simp [pm_wI, hk]
    · simp [pm_av, pm_wI, h.2] <;> rfl
    · simp [pm_av, pm_wI, h.2, hj]
  · rw [if_neg h]; exact pm_none
theorem pm_zast (hd : decode y.2.1 pc = .ok (.bastore, 1)) {i : Int32} {v : Int32} {f : pmM → pmR} (kk : ∀ m2, pm_G l Γ y d (pc + 1) ls st m2 (f m2)) : pm_G l Γ y d pc ls (.int v :: .int i :: .ref a :: st) m (pm_st 101 a i (vp_nar .boolean v) m f) := by
  unfold pm_st
  by_cases h : (pm_E ≤ a ∧ a < m.1) ∧ (m.2.2.1 a).1 = 101
  · rw [if_pos h]
    by_cases hi : pm_out i (m.2.2.1 a).2.1
    · rw [if_pos hi]; exact pm_none
    rw [if_neg hi]
    refine pm_w (m2 := pm_wI m a i.toNatClampNeg (vp_nar .boolean v)) rfl rfl (fun p e R s mth args below meth c H locs cells slots Q A hC hH hl hlo hc hs k9 => ?_) (kk _)
    obtain ⟨cell, q1, -, q2⟩ := hH.2.2 a h.1.2 (by rw [h.2]; decide)
    obtain ⟨g1, g2, g3, g4⟩ := q2 (by rw [h.2]; decide)
    have hlt : i.toNatClampNeg < (m.2.2.1 a).2.1 := Nat.not_le.mp fun z => hi (Or.inr z)
    have g1' := g1
    rw [h.2] at g1'
    have hE := hC.2.2.2.2.2.2.2.2.1
    refine W.zast hC.1 hC.2.1 q1 g1' g2 (fun z => hi (z.imp id (fun q => Nat.le_trans g3.1 q))) rfl rfl hd (fun H' e1 e2 e3 => k9 H' _ (pm_heap_st hE hH h.1.1 (by rw [h.2]; decide) q1 hlt g1 g2 g3 g4 rfl (fun _ => rfl) (fun k hk => ?_) (fun k hk => ?_) ?_ (fun j hj => ?_) e1 e2 e3) (pm_lo hE h.1.1 hlo))
    · funext j; simp [pm_wI, hk]
    · funext j; simp [pm_wI, hk]
    · simp [pm_av, pm_wI, h.2, vp_nar] <;> rfl
    · simp [pm_av, pm_wI, h.2, hj]
  · rw [if_neg h]; exact pm_none
theorem pm_last (hd : decode y.2.1 pc = .ok (.lastore, 1)) {i : Int32} {v : Int64} {f : pmM → pmR} (kk : ∀ m2, pm_G l Γ y d (pc + 1) ls st m2 (f m2)) : pm_G l Γ y d pc ls (.long v :: .int i :: .ref a :: st) m (pm_stL a i v m f) := by
  unfold pm_stL
  by_cases h : (pm_E ≤ a ∧ a < m.1) ∧ (m.2.2.1 a).1 = 102
  · rw [if_pos h]
    by_cases hi : pm_out i (m.2.2.1 a).2.1
    · rw [if_pos hi]; exact pm_none
    rw [if_neg hi]
    refine pm_w (m2 := pm_wL m a i.toNatClampNeg v) rfl rfl (fun p e R s mth args below meth c H locs cells slots Q A hC hH hl hlo hc hs k9 => ?_) (kk _)
    obtain ⟨cell, q1, -, q2⟩ := hH.2.2 a h.1.2 (by rw [h.2]; decide)
    obtain ⟨g1, g2, g3, g4⟩ := q2 (by rw [h.2]; decide)
    have hlt : i.toNatClampNeg < (m.2.2.1 a).2.1 := Nat.not_le.mp fun z => hi (Or.inr z)
    have g1' := g1
    rw [h.2] at g1'
    have hE := hC.2.2.2.2.2.2.2.2.1
    refine W.last hC.1 hC.2.1 q1 g1' g2 (fun z => hi (z.imp id (fun q => Nat.le_trans g3.1 q))) rfl rfl hd (fun H' e1 e2 e3 => k9 H' _ (pm_heap_st hE hH h.1.1 (by rw [h.2]; decide) q1 hlt g1 g2 g3 g4 rfl (fun _ => rfl) (fun k hk => ?_) (fun k hk => ?_) ?_ (fun j hj => ?_) e1 e2 e3) (pm_lo hE h.1.1 hlo))
    · funext j; simp [pm_wL, hk]
    · funext j; simp [pm_wL, hk]
    · simp [pm_av, pm_wL, h.2] <;> rfl
    · simp [pm_av, pm_wL, h.2, hj]
  · rw [if_neg h]; exact pm_none
end PMA
