/-! System.arraycopy between int rows; new int[n][k] -/
section PMY
theorem pm_sp (at_ : Nat) : ∀ (xs : List Value) (i : Nat) (c : Cell) (j : Nat), (c.storePairs at_ (xs.zipIdx i)).slots[j]? = if (at_ + i ≤ j ∧ j < at_ + i + xs.length) ∧ j < c.slots.size then some (xs.getD (j - (at_ + i)) .null) else c.slots[j]?
  | [], i, c, j => by
    show c.slots[j]? = _
    rw [if_neg (by simp only [List.length_nil]; omega)]
  | x :: xs, i, c, j => by
    rw [List.zipIdx_cons]
    show ((c.setSlot (at_ + i) x).storePairs at_ (xs.zipIdx (i + 1))).slots[j]? = _
    rw [pm_sp at_ xs (i + 1)]
    have hsz : (c.setSlot (at_ + i) x).slots.size = c.slots.size := by simp [Cell.setSlot]
    rw [hsz]
    by_cases hj : j = at_ + i
    · subst hj
      rw [if_neg (by omega)]
      by_cases hs : at_ + i < c.slots.size
      · rw [if_pos (by simp only [List.length_cons]; omega)]
        simp [Cell.setSlot, Array.getElem?_setIfInBounds, hs]
      · rw [if_neg (by omega)]
        simp [Cell.setSlot, Array.getElem?_setIfInBounds, hs]
    · have hsame : (c.setSlot (at_ + i) x).slots[j]? = c.slots[j]? := by simp [Cell.setSlot, Array.getElem?_setIfInBounds, Ne.symm hj]
      by_cases h : (at_ + (i + 1) ≤ j ∧ j < at_ + (i + 1) + xs.length) ∧ j < c.slots.size
      · rw [if_pos h, if_pos (by simp only [List.length_cons]; omega)]
        have e : j - (at_ + i) = (j - (at_ + (i + 1))) + 1 := by omega
        rw [e, List.getD_cons_succ]
      · rw [if_neg h, if_neg (by simp only [List.length_cons]; omega), hsame]
variable {l : Launch} {Γ : pmG} {y : pmY} {d pc : Nat} {ls st : List Value} {m : pmM}
def pm_wC (m : pmM) (a0 sp a1 dp n : Nat) : pmM := (m.1, m.2.1, m.2.2.1, fun i j => if i = a1 ∧ dp ≤ j ∧ j < dp + n then m.2.2.2.1 a0 (sp + (j - dp)) else m.2.2.2.1 i j, m.2.2.2.2)
def pm_cp (a0 : Nat) (sp : Int32) (a1 : Nat) (dp n : Int32) (m : pmM) (f : pmM → pmR) : pmR :=
  if ((a0 < m.1 ∧ (m.2.2.1 a0).1 = 100) ∧ (pm_E ≤ a1 ∧ a1 < m.1) ∧ (m.2.2.1 a1).1 = 100) ∧ (¬ sp < 0 ∧ ¬ dp < 0 ∧ ¬ n < 0) ∧ sp.toNatClampNeg + n.toNatClampNeg ≤ (m.2.2.1 a0).2.1 ∧ dp.toNatClampNeg + n.toNatClampNeg ≤ (m.2.2.1 a1).2.1 then f (pm_wC m a0 sp.toNatClampNeg a1 dp.toNatClampNeg n.toNatClampNeg) else none
theorem pm_copy {index a0 a1 : Nat} {sp dp n : Int32} (hw : Cond.methodLink y.1.cls index arraycopyName ∈ pm_tbl) (hw2 : Cond.native arraycopyName ∈ pm_tbl) (hw3 : Cond.static arraycopyName ∈ pm_tbl) (hw4 : Cond.initialized "java/lang/System" ∈ pm_tbl) (hd : decode y.2.1 pc = .ok (.invokestatic index, 3)) (hdp : pm_dp st ≤ 20) {f : pmM → pmR} (kk : ∀ m2, pm_G l Γ y d (pc + 3) ls st m2 (f m2)) : pm_G l Γ y d pc ls (.int n :: .int dp :: .ref a1 :: .int sp :: .ref a0 :: st) m (pm_cp a0 sp a1 dp n m f) := by
  unfold pm_cp
  by_cases h : ((a0 < m.1 ∧ (m.2.2.1 a0).1 = 100) ∧ (pm_E ≤ a1 ∧ a1 < m.1) ∧ (m.2.2.1 a1).1 = 100) ∧ (¬ sp < 0 ∧ ¬ dp < 0 ∧ ¬ n < 0) ∧ sp.toNatClampNeg + n.toNatClampNeg ≤ (m.2.2.1 a0).2.1 ∧ dp.toNatClampNeg + n.toNatClampNeg ≤ (m.2.2.1 a1).2.1
  · rw [if_pos h]
    obtain ⟨⟨⟨h1, h2⟩, ⟨h3, h4⟩, h5⟩, ⟨n1, n2, n3⟩, h6, h7⟩ := h
    refine pm_w (m2 := pm_wC m a0 sp.toNatClampNeg a1 dp.toNatClampNeg n.toNatClampNeg) rfl rfl (fun p e R s mth args below meth c H locs cells slots Q A hC hH hl hlo hc hs k9 => ?_) (kk _)
    obtain ⟨hx, hb, hr, hml, hown, hts, hlk, hnm, hE, hxt, hf1, hf2, hba, hfl⟩ := hC
    obtain ⟨cs, s1, -, s2⟩ := hH.2.2 a0 h1 (by rw [h2]; decide)
    obtain ⟨g1, g2, g3, g4⟩ := s2 (by rw [h2]; decide)
    obtain ⟨cd, t1, -, t2⟩ := hH.2.2 a1 h4 (by rw [h5]; decide)
    obtain ⟨u1, u2, u3, u4⟩ := t2 (by rw [h5]; decide)
    have nn : ∀ z : Int32, ¬ z < 0 → z.toInt = (z.toNatClampNeg : Int) := by
      intro z hz
      have hz0 : (0 : Int) ≤ z.toInt := by
        have := Int32.not_lt.mp hz
        simpa using Int32.le_iff_toInt_le.mp this
      show z.toInt = ((z.toInt.toNat : Nat) : Int)
      omega
    have g1' := g1
    have u1' := u1
    rw [h2] at g1'
    rw [h5] at u1'
    obtain ⟨v1, k0, hk0, cm0, hkk0⟩ := g1'
    obtain ⟨v2, k1, hk1, cm1, hkk1⟩ := u1'
    have hval : ∀ i, i < n.toNatClampNeg → cs.slots.getD (sp.toNatClampNeg + i) .null = .int (m.2.2.2.1 a0 (sp.toNatClampNeg + i)) := by
      intro i hi
      rw [Array.getD_eq_getD_getElem?, g4 _ (by omega)]
      unfold pm_av
      rw [h2]
      rfl
    have h9 : nativeFrameWords "java/lang/System" "arraycopy" 5 ≤ 40 := by decide +kernel
    intro T hT X
    obtain ⟨vm', X', step⟩ := X.arraycopy hx hown (hts _ hw) (hts _ hw2) (hts _ hw3) (hts _ hw4) (src := Γ.2.2.1 a0) (dst := Γ.2.2.1 a1) (cs := cs) (cd := cd) (srcPos := sp) (destPos := dp) (n := n) (by rw [hT]; exact s1) (by rw [hT]; exact t1)
      v1 v2 g2 u2 hk0 hk1 hkk0 hkk1 rfl n1 n2 n3 (by rw [nn sp n1, nn n n3]; have := g3.1; omega) (by rw [nn dp n2, nn n n3]; have := u3.1; omega)
      (fun vm₁ _ i hi => by rw [hval i hi]; exact ⟨rfl, trivial⟩)
      (g := F0 mth pc A (List.map (pm_mv Γ) (.int n :: .int dp :: .ref a1 :: .int sp :: .ref a0 :: st))) rfl (hl.2.1.trans hml.symm) (rest := st.map (pm_mv Γ)) rfl (by rw [hb]; exact hd) (by omega) (by rw [pm_sum]; unfold pm_dp at hdp; show 2 * 0 + _ + (nativeFrameWords "java/lang/System" "arraycopy" 5 + 11) ≤ _; omega)
    have hl1 : Γ.2.2.1 a1 < H.size := (Array.getElem?_eq_some_iff.mp t1).1
    have hfacts := Cell.storePairs_facts cd dp.toNatClampNeg (cs.stretch sp.toNatClampNeg n.toNatClampNeg).zipIdx
    have hlen : (cs.stretch sp.toNatClampNeg n.toNatClampNeg).length = n.toNatClampNeg := by simp [Cell.stretch]
    have hheap : ((T.setVm vm').setCell (Γ.2.2.1 a1) (copied cs cd sp dp n)).heap = H.setIfInBounds (Γ.2.2.1 a1) (copied cs cd sp dp n) := by rw [← hT]; rfl
    have hrep : pm_heap Γ s (pm_wC m a0 sp.toNatClampNeg a1 dp.toNatClampNeg n.toNatClampNeg) (H.setIfInBounds (Γ.2.2.1 a1) (copied cs cd sp dp n)) := by
      refine pm_heap_put (cell' := copied cs cd sp dp n) hE hH h3 rfl (fun _ _ => rfl) (fun k hk => ?_) (fun _ _ => rfl) (by simp [Array.getElem?_setIfInBounds, hl1]) (by simp) (fun q hq => by simp [Array.getElem?_setIfInBounds, Ne.symm hq]) ⟨fun hz => ?_, fun _ => ?_⟩
      · funext j; simp [pm_wC, hk]
      · have : (m.2.2.1 a1).1 < 100 := hz
        omega
      · refine ⟨⟨fun k9 => by rw [show (copied cs cd sp dp n).vm = cd.vm from hfacts.2.1]; exact u1.1 k9, by rw [show (copied cs cd sp dp n).cls = cd.cls from hfacts.1]; exact u1.2⟩, by rw [show (copied cs cd sp dp n).vm = cd.vm from hfacts.2.1]; exact u2, ⟨by rw [show (copied cs cd sp dp n).slots.size = cd.slots.size from hfacts.2.2.1]; exact u3.1, by rw [show (copied cs cd sp dp n).slots.size = cd.slots.size from hfacts.2.2.1]; exact u3.2⟩, fun j hj => ?_⟩
        have hj : j < (m.2.2.1 a1).2.1 := hj
        have e5 := pm_sp dp.toNatClampNeg (cs.stretch sp.toNatClampNeg n.toNatClampNeg) 0 cd j
        have e6 : (copied cs cd sp dp n).slots[j]? = if (dp.toNatClampNeg + 0 ≤ j ∧ j < dp.toNatClampNeg + 0 + (cs.stretch sp.toNatClampNeg n.toNatClampNeg).length) ∧ j < cd.slots.size then some ((cs.stretch sp.toNatClampNeg n.toNatClampNeg).getD (j - (dp.toNatClampNeg + 0)) .null) else cd.slots[j]? := e5
        rw [e6, hlen]
        have u31 := u3.1
        have e7 : pm_av Γ (pm_wC m a0 sp.toNatClampNeg a1 dp.toNatClampNeg n.toNatClampNeg) a1 j = .int (if dp.toNatClampNeg ≤ j ∧ j < dp.toNatClampNeg + n.toNatClampNeg then m.2.2.2.1 a0 (sp.toNatClampNeg + (j - dp.toNatClampNeg)) else m.2.2.2.1 a1 j) := by
          unfold pm_av
          have : ((pm_wC m a0 sp.toNatClampNeg a1 dp.toNatClampNeg n.toNatClampNeg).2.2.1 a1).1 = 100 := h5
          rw [this]
          simp [pm_wC]
        rw [e7]
        by_cases hc9 : dp.toNatClampNeg ≤ j ∧ j < dp.toNatClampNeg + n.toNatClampNeg
        · rw [if_pos (by omega), if_pos hc9]
          unfold Cell.stretch
          rw [List.getD_eq_getElem?_getD, List.getElem?_map, List.getElem?_range (by omega)]
          simp only [Option.map_some, Option.getD_some, Nat.add_zero]
          rw [hval _ (by omega)]
        · rw [if_neg (by omega), if_neg hc9, u4 j hj]
          unfold pm_av
          rw [h5]
          rfl
    obtain ⟨t9, b1, b2⟩ := k9 _ _ hrep (fun q hq => by
      rcases List.mem_append.mp hq with hq | hq
      · exact hlo q hq
      · obtain ⟨z, -, hz⟩ := List.mem_map.mp hq
        rw [← hz]
        show Γ.2.2.2.size ≤ Γ.2.2.1 a1
        rw [hE.2.1.1 a1 h3]; omega) _ hheap X'
    exact ⟨t9, step t9 b1, b2⟩
  · rw [if_neg h]; exact pm_none
end PMY
