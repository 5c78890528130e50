/-! the memory: reading and writing cells -/
section PMH
/-- the heap but for one cell of ours -/
theorem pm_cell_congr {Γ : pmG} {U : State} {m m' : pmM} {k : Nat} {c : Cell} (h1 : m'.2.2.1 k = m.2.2.1 k) (h2 : m'.2.2.2.1 k = m.2.2.2.1 k) (h3 : m'.2.2.2.2 k = m.2.2.2.2 k) (h : pm_cell Γ U m k c) : pm_cell Γ U m' k c := by
  unfold pm_cell pm_fv pm_av at h ⊢
  rw [h1, h2, h3]
  exact h
theorem pm_inj {Γ : pmG} {U : State} (hE : pm_env Γ U) {a k : Nat} (ha : pm_E ≤ a) (hk : k ≠ a) : Γ.2.2.1 k ≠ Γ.2.2.1 a := by
  have h1 := hE.2.1.1 a ha
  by_cases h : pm_E ≤ k
  · have h2 := hE.2.1.1 k h
    rw [h1, h2]
    omega
  · have h2 := hE.2.1.2 k (by omega)
    rw [h1]
    omega
theorem pm_heap_put {Γ : pmG} {s : State} {m m' : pmM} {H H' : Heap} {a : Nat} {cell' : Cell} (hE : pm_env Γ s) (h : pm_heap Γ s m H) (ha : pm_E ≤ a) (hm : m'.1 = m.1) (h1 : ∀ k, k ≠ a → m'.2.2.1 k = m.2.2.1 k) (h2 : ∀ k, k ≠ a → m'.2.2.2.1 k = m.2.2.2.1 k) (h3 : ∀ k, k ≠ a → m'.2.2.2.2 k = m.2.2.2.2 k)
    (e1 : H'[Γ.2.2.1 a]? = some cell') (e2 : H'.size = H.size) (e3 : ∀ q, q ≠ Γ.2.2.1 a → H'[q]? = H[q]?) (hc : pm_cell Γ s m' a cell') : pm_heap Γ s m' H' := by
  have hra := hE.2.1.1 a ha
  refine ⟨by rw [e2, hm]; exact h.1, fun q hq => ?_, fun k hk hk2 => ?_⟩
  · rw [e3 q (by rw [hra]; omega)]
    exact h.2.1 q hq
  · by_cases hka : k = a
    · subst hka
      exact ⟨cell', e1, hc⟩
    · rw [h1 k hka] at hk2
      obtain ⟨c, g1, g2⟩ := h.2.2 k (by rw [← hm]; exact hk) hk2
      exact ⟨c, by rw [e3 _ (pm_inj hE ha hka)]; exact g1, pm_cell_congr (h1 k hka) (h2 k hka) (h3 k hka) g2⟩
theorem pm_heap_moved {Γ : pmG} {s U : State} {m : pmM} {H : Heap} (hvm : s.vm.Alike U.vm) (h : pm_heap Γ s m H) : pm_heap Γ U m H := by
  refine ⟨h.1, h.2.1, fun k hk hk2 => ?_⟩
  obtain ⟨c, g1, g2, g3⟩ := h.2.2 k hk hk2
  exact ⟨c, g1, g2, fun h100 => ⟨State.isArrayOf_alike hvm (g3 h100).1, (g3 h100).2⟩⟩
def pm_is (m : pmM) (a ci : Nat) : Prop := a < m.1 ∧ (m.2.2.1 a).1 = ci
theorem pm_is_dec (m : pmM) (a ci : Nat) : pm_is m a ci ∨ ¬ pm_is m a ci := Classical.em _
/-- writes -/
def pm_wI (m : pmM) (a k : Nat) (v : Int32) : pmM := (m.1, m.2.1, m.2.2.1, fun i j => if i = a ∧ j = k then v else m.2.2.2.1 i j, m.2.2.2.2)
def pm_wL (m : pmM) (a k : Nat) (v : Int64) : pmM := (m.1, m.2.1, m.2.2.1, m.2.2.2.1, fun i j => if i = a ∧ j = k then v else m.2.2.2.2 i j)
def pm_wR (m : pmM) (a k : Nat) (r : Option Nat) : pmM := (m.1, m.2.1, fun i => if i = a then ((m.2.2.1 a).1, (m.2.2.1 a).2.1, fun j => if j = k then r else (m.2.2.1 a).2.2 j) else m.2.2.1 i, m.2.2.2.1, m.2.2.2.2)
/-- reading and writing as parts of a pure result: nothing, where the cell isn't such a one -/
def pm_gI (ci a k : Nat) (m : pmM) (f : Int32 → pmR) : pmR := if a < m.1 ∧ (m.2.2.1 a).1 = ci then f (m.2.2.2.1 a k) else none
def pm_gR (ci a k : Nat) (m : pmM) (f : Nat → pmR) : pmR := if a < m.1 ∧ (m.2.2.1 a).1 = ci then (match (m.2.2.1 a).2.2 k with | some b => f b | none => none) else none
def pm_pI (ci a k : Nat) (v : Int32) (m : pmM) (f : pmM → pmR) : pmR := if (pm_E ≤ a ∧ a < m.1) ∧ (m.2.2.1 a).1 = ci then f (pm_wI m a k v) else none
def pm_pR (ci a k b : Nat) (m : pmM) (f : pmM → pmR) : pmR := if (pm_E ≤ a ∧ a < m.1) ∧ (m.2.2.1 a).1 = ci then f (pm_wR m a k (some b)) else none
/-- the class's words, names and types -/
def pm_kn (ci : Nat) (q : vw_C) (ty : Nat → FieldType) : Prop := pm_cls[ci]? = some q ∧ (∀ w ∈ u_ws q.1 q.2.1 q.2.2, w ∈ pm_tbl) ∧ (∀ a, a < q.2.2 → ∀ b, b < q.2.2 → a ≠ b → (q.2.1 a).2.1 ≠ (q.2.1 b).2.1) ∧ (∀ k, k < q.2.2 → parseFieldDescriptor (q.2.1 k).2.2.1 = some (ty k)) ∧ ci < 100
end PMH
section PMF
variable {l : Launch} {Γ : pmG} {y : pmY} {d pc : Nat} {ls st : List Value} {m : pmM} {res : pmR} {q : vw_C} {ty : Nat → FieldType} {ci k index a : Nat} {host : String}
theorem pm_getW (hkn : pm_kn ci q ty) (hk : k < q.2.2) (hw : Cond.fieldLink y.1.cls index (q.2.1 k).1 (q.2.1 k).2.1 (q.2.1 k).2.2.1 ∈ pm_tbl ∨ Cond.fieldLinkNest y.1.cls index (q.2.1 k).1 (q.2.1 k).2.1 (q.2.1 k).2.2.1 host ∈ pm_nest) (hd : decode y.2.1 pc = .ok (.getfield index, 3)) {v : Value}
    (ha : a < m.1) (hci : (m.2.2.1 a).1 = ci) (hv : pm_mv Γ v = pm_fv Γ m a k) (kk : pm_G l Γ y d (pc + 3) ls (v :: st) m res) : pm_G l Γ y d pc ls (.ref a :: st) m res := by
  refine pm_pw (fun p e R s mth args below meth c H locs cells slots Q A hC hH hl hlo hc hs k9 => ?_) kk
  obtain ⟨hx, hb, hr, hml, hown, hts, hlk, hnm, hE, -⟩ := hC
  obtain ⟨hcl, hin, hdist, hty, h100⟩ := hkn
  obtain ⟨cell, q1, q2, -⟩ := hH.2.2 a ha (by rw [hci]; omega)
  obtain ⟨g1, g2, g3⟩ := q2 (by rw [hci]; exact h100)
  rw [hci] at g1 g3
  obtain ⟨hS, hfc, kC, hkC, hkind⟩ := hE.1 ci q hcl
  obtain ⟨cf, kf, fi, f, hi, hsl⟩ := hS k hk
  have hslot : cell.slots[f.slot]? = some (pm_mv Γ v) := by rw [hsl, hv]; exact g3 q hcl k hk
  rcases hw with hw | hw
  · exact W.getf hx hb hown (hts _ hw) hi (u_facts hfc hkC (u_lays hts hin hk) hi).1 q1 (by rw [g2]; exact fun h => by cases h) hslot rfl rfl hd k9
  · exact va_Wgetf hx hb hown (va_Nw.use rfl (hE.2.2.1 _ hw)) hi (u_facts hfc hkC (u_lays hts hin hk) hi).1 q1 (by rw [g2]; exact fun h => by cases h) hslot rfl rfl hd k9
theorem pm_getI (hkn : pm_kn ci q ty) (hk : k < q.2.2) (hw : Cond.fieldLink y.1.cls index (q.2.1 k).1 (q.2.1 k).2.1 (q.2.1 k).2.2.1 ∈ pm_tbl ∨ Cond.fieldLinkNest y.1.cls index (q.2.1 k).1 (q.2.1 k).2.1 (q.2.1 k).2.2.1 host ∈ pm_nest) (hd : decode y.2.1 pc = .ok (.getfield index, 3)) (hi : pm_fr ci k = false) {f : Int32 → pmR}
    (kk : ∀ x, pm_G l Γ y d (pc + 3) ls (.int x :: st) m (f x)) : pm_G l Γ y d pc ls (.ref a :: st) m (pm_gI ci a k m f) := by
  unfold pm_gI
  by_cases h : a < m.1 ∧ (m.2.2.1 a).1 = ci
  · rw [if_pos h]
    exact pm_getW hkn hk hw hd (v := .int (m.2.2.2.1 a k)) h.1 h.2 (by unfold pm_fv; rw [h.2, hi]; rfl) (kk _)
  · rw [if_neg h]; exact pm_none
theorem pm_getR (hkn : pm_kn ci q ty) (hk : k < q.2.2) (hw : Cond.fieldLink y.1.cls index (q.2.1 k).1 (q.2.1 k).2.1 (q.2.1 k).2.2.1 ∈ pm_tbl ∨ Cond.fieldLinkNest y.1.cls index (q.2.1 k).1 (q.2.1 k).2.1 (q.2.1 k).2.2.1 host ∈ pm_nest) (hd : decode y.2.1 pc = .ok (.getfield index, 3)) (hi : pm_fr ci k = true) {f : Nat → pmR}
    (kk : ∀ x, pm_G l Γ y d (pc + 3) ls (.ref x :: st) m (f x)) : pm_G l Γ y d pc ls (.ref a :: st) m (pm_gR ci a k m f) := by
  unfold pm_gR
  by_cases h : a < m.1 ∧ (m.2.2.1 a).1 = ci
  · rw [if_pos h]
    cases hb : (m.2.2.1 a).2.2 k with
    | none => exact pm_none
    | some b => exact pm_getW hkn hk hw hd (v := .ref b) h.1 h.2 (by unfold pm_fv; rw [h.2, hi, hb]; rfl) (kk _)
  · rw [if_neg h]; exact pm_none
/-- a write to one cell of ours -/
theorem pm_w {pc2 : Nat} {st2 : List Value} {m2 : pmM} (hm1 : m2.1 = m.1) (hm2 : m2.2.1 = m.2.1)
    (h : ∀ (p : Program) (e : Env) (R : Room) (s : State) (mth : MethodId) (args : Array Value) (below : List Frame) (meth : Method) (c : Code) (H : Heap) (locs : List Loc) (cells slots : Nat) (Q : State → Prop) (A : Array Slot), pm_ctx l Γ y d p s mth args meth c R → pm_heap Γ s m H → pm_ls Γ y.2.2.1 ls A → (∀ q ∈ locs, Γ.2.2.2.size ≤ q.base) → cells ≤ R.cells → slots ≤ R.slots →
      (∀ H' locs', pm_heap Γ s m2 H' → (∀ q ∈ locs', Γ.2.2.2.size ≤ q.base) → W p l e R s mth args below meth c H' locs' cells slots Q (F0 mth pc2 A (st2.map (pm_mv Γ)))) → W p l e R s mth args below meth c H locs cells slots Q (F0 mth pc A (st.map (pm_mv Γ))))
    (k : pm_G l Γ y d pc2 ls st2 m2 res) : pm_G l Γ y d pc ls st m res := by
  intro o m' hr
  obtain ⟨h1, h2⟩ := k o m' hr
  rw [hm1, hm2] at h1
  refine ⟨h1, ?_⟩
  intro p e s mth args below meth c R H locs cells slots mc ms A hC a1 a2 a3 a4 a5 a6 a7
  exact h p e R s mth args below meth c H locs cells slots _ A hC a3 a4 a5 (by omega) (by omega) (fun H' locs' b3 b5 => h2 p e s mth args below meth c R H' locs' cells slots mc ms A hC a1 a2 b3 a4 b5 (by rw [hm1]; exact a6) (by rw [hm2]; exact a7))
theorem pm_putW (hkn : pm_kn ci q ty) (hk : k < q.2.2) (hw : (Cond.fieldLink y.1.cls index (q.2.1 k).1 (q.2.1 k).2.1 (q.2.1 k).2.2.1 ∈ pm_tbl ∧ ((q.2.1 k).2.2.2 = false ∨ (y.1.name = "<init>" ∧ (q.2.1 k).1 = y.1.cls ∧ (q.2.1 k).2.2.2 = true))) ∨ (Cond.fieldLinkNest y.1.cls index (q.2.1 k).1 (q.2.1 k).2.1 (q.2.1 k).2.2.1 host ∈ pm_nest ∧ (q.2.1 k).2.2.2 = false)) (hd : decode y.2.1 pc = .ok (.putfield index, 3)) {v : Value} {m2 : pmM}
    (hm1 : m2.1 = m.1) (hm2 : m2.2.1 = m.2.1) (h1 : ∀ i, i ≠ a → m2.2.2.1 i = m.2.2.1 i) (h2 : ∀ i, i ≠ a → m2.2.2.2.1 i = m.2.2.2.1 i) (h3 : ∀ i, i ≠ a → m2.2.2.2.2 i = m.2.2.2.2 i) (hci2 : (m2.2.2.1 a).1 = ci)
    (hE0 : pm_E ≤ a) (ha : a < m.1) (hci : (m.2.2.1 a).1 = ci) (hv : pm_mv Γ v = pm_fv Γ m2 a k) (hvo : ∀ j, j ≠ k → pm_fv Γ m2 a j = pm_fv Γ m a j) (hn : narrow (ty k) (pm_mv Γ v) = pm_mv Γ v) (hfit : fits (ty k) (pm_mv Γ v) = true) (kk : pm_G l Γ y d (pc + 3) ls st m2 res) : pm_G l Γ y d pc ls (v :: .ref a :: st) m res := by
  refine pm_w hm1 hm2 (fun p e R s mth args below meth c H locs cells slots Q A hC hH hl hlo hc hs k9 => ?_) kk
  obtain ⟨hx, hb, hr, hml, hown, hts, hlk, hnm, hE, -⟩ := hC
  obtain ⟨hcl, hin, hdist, hty, h100⟩ := hkn
  obtain ⟨cell, q1, q2, -⟩ := hH.2.2 a ha (by rw [hci]; omega)
  obtain ⟨g1, g2, g3⟩ := q2 (by rw [hci]; exact h100)
  rw [hci] at g1 g3
  obtain ⟨hS, hfc, kC, hkC, hkind⟩ := hE.1 ci q hcl
  obtain ⟨cf, kf, fi, f, hi, hsl⟩ := hS k hk
  have hap : ∀ x z, x < q.2.2 → z < q.2.2 → x ≠ z → Γ.2.1 ci x ≠ Γ.2.1 ci z := by
    intro x z hx9 hz9 hne
    obtain ⟨_, _, _, fa, hia, ea⟩ := hS x hx9
    obtain ⟨_, _, _, fb, hib, eb⟩ := hS z hz9
    rw [← ea, ← eb]
    refine u_apart (u_lays hts hin hx9) (u_lays hts hin hz9) hia hib ?_
    rw [(State.fieldFound?_type hia (hty x hx9)).1, (State.fieldFound?_type hib (hty z hz9)).1]
    exact hdist x hx9 z hz9 hne
  have hst := (u_facts hfc hkC (u_lays hts hin hk) hi).1
  have hlt : f.slot < cell.slots.size := by rw [hsl]; exact k2_hasslot (g3 q hcl k hk)
  have hrep : ∀ H' : Heap, H'[Γ.2.2.1 a]? = some (cell.setSlot f.slot (pm_mv Γ v)) → H'.size = H.size → (∀ q, q ≠ Γ.2.2.1 a → H'[q]? = H[q]?) → pm_heap Γ s m2 H' := by
    intro H' e1 e2 e3
    refine pm_heap_put hE hH hE0 hm1 h1 h2 h3 e1 e2 e3 ⟨fun _ => ?_, fun h => by rw [hci2] at h; omega⟩
    rw [hci2]
    refine ⟨g1, g2, fun q9 hq9 j hj => ?_⟩
    cases Option.some.inj (hq9.symm.trans hcl)
    rw [hsl, t_set (g3 q hcl) hap hk (pm_mv Γ v) j hj]
    unfold updV
    by_cases hjk : j = k
    · subst hjk; simp [hv]
    · simp [hjk, hvo j hjk]
  have hbase : Γ.2.2.2.size ≤ Γ.2.2.1 a := by rw [hE.2.1.1 a hE0]; omega
  have hlocs : ∀ z ∈ locs ++ [⟨Γ.2.2.1 a, f.slot⟩], Γ.2.2.2.size ≤ z.base := by
    intro z hz
    rcases List.mem_append.mp hz with h | h
    · exact hlo z h
    · rw [List.mem_singleton.mp h]; exact hbase
  rcases hw with ⟨hw, hf⟩ | ⟨hw, hf⟩
  · rcases hf with hf | ⟨hf1, hf2, hf3⟩
    · have hlay := hts _ (hin _ (u_in_lay hk))
      unfold u_lay at hlay
      rw [if_neg (by rw [hf]; decide)] at hlay
      have h6 := u_store hfc hkC hkind hlay hi (hty k hk) hn hfit
      exact W.putK hx hb (f := f) ⟨hown, hts _ hw, ⟨_, _, _, hi⟩, hst⟩ (by rw [g1]; exact h6) q1 g2 hlt rfl rfl hd (fun H' e1 e2 e3 => k9 H' _ (hrep H' e1 e2 e3) hlocs)
    · have hlay := hts _ (hin _ (u_in_lay hk))
      unfold u_lay at hlay
      rw [if_pos hf3] at hlay
      have hcf : mth.cls = cf := by
        obtain ⟨_, _, c', _, _, _, -, -, hf', -, -, -, hown2, -⟩ := Cond.laysFinal_spec hlay
        have e1 : c' = cf := by have := hi.symm.trans hf'; simp at this; exact this.1.symm
        rw [hf2] at hown2
        rw [← e1]; exact Option.some.inj (hown.symm.trans hown2)
      have h6 := u_fits hfc hkC hkind (Or.inr hlay) hi (hty k hk) hn hfit
      exact W.putFinK hx hb hown (hts _ hw) hi hst hcf (hnm.trans hf1) (by rw [g1]; exact h6) q1 g2 hlt rfl rfl hd (fun H' e1 e2 e3 => k9 H' _ (hrep H' e1 e2 e3) hlocs)
  · have hlay := hts _ (hin _ (u_in_lay hk))
    unfold u_lay at hlay
    rw [if_neg (by rw [hf]; decide)] at hlay
    have h6 := u_store hfc hkC hkind hlay hi (hty k hk) hn hfit
    exact va_WputK hx hb (f := f) hown (va_Nw.use rfl (hE.2.2.1 _ hw)) hi hst (by rw [g1]; exact h6) q1 g2 hlt rfl rfl hd (fun H' e1 e2 e3 => k9 H' _ (hrep H' e1 e2 e3) hlocs)
end PMF
