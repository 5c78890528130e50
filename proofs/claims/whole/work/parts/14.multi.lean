/-! new T[n][k] -/
section PMM
variable {l : Launch} {Γ : pmG} {y : pmY} {d pc : Nat} {ls st : List Value} {m : pmM}
def pm_al2 (m : pmM) (kd ik N K : Nat) : pmM := (m.1 + (1 + N), m.2.1 + (N + N * K), fun i => if i = m.1 then (kd, N, fun j => if j < N then some (m.1 + 1 + j) else none) else if m.1 < i then (ik, K, fun _ => none) else m.2.2.1 i, fun i j => if m.1 ≤ i then 0 else m.2.2.2.1 i j, fun i j => if m.1 ≤ i then 0 else m.2.2.2.2 i j)
def pm_nm (kd ik : Nat) (n k : Int32) (m : pmM) (f : Nat → pmM → pmR) : pmR := if n < 0 ∨ k < 0 ∨ 10000 < n.toNatClampNeg ∨ 10000 < k.toNatClampNeg then none else f m.1 (pm_al2 m kd ik n.toNatClampNeg k.toNatClampNeg)
theorem pm_multi {kd ik index : Nat} {ty : FieldType} (hk : (kd = 103 ∧ ik = 100 ∧ ty = .int) ∨ (kd = 104 ∧ ik = 102 ∧ ty = .long)) (hw : Cond.classLink y.1.cls index ("[" ++ (FieldType.array ty).toString) ∈ pm_tbl) (hw2 : Cond.arrayOver (.array ty) ∈ pm_nest) (hw3 : Cond.arrayClass ty ∈ pm_tbl) (hd : decode y.2.1 pc = .ok (.multianewarray index 2, 4)) {n k : Int32}
    {f : Nat → pmM → pmR} (kk : ∀ b m2, pm_G l Γ y d (pc + 4) ls (.ref b :: st) m2 (f b m2)) : pm_G l Γ y d pc ls (.int k :: .int n :: st) m (pm_nm kd ik n k m f) := by
  unfold pm_nm
  by_cases hn : n < 0 ∨ k < 0 ∨ 10000 < n.toNatClampNeg ∨ 10000 < k.toNatClampNeg
  · rw [if_pos hn]; exact pm_none
  rw [if_neg hn]
  have n1 : ¬ n < 0 := fun h => hn (Or.inl h)
  have n2 : ¬ k < 0 := fun h => hn (Or.inr (Or.inl h))
  have n3 : n.toNatClampNeg ≤ 10000 := Nat.not_lt.mp fun h => hn (Or.inr (Or.inr (Or.inl h)))
  have n4 : k.toNatClampNeg ≤ 10000 := Nat.not_lt.mp fun h => hn (Or.inr (Or.inr (Or.inr h)))
  have hcb : componentBytes ty ≤ 8 := by rcases hk with ⟨-, -, rfl⟩ | ⟨-, -, rfl⟩ <;> decide
  refine pm_n (m2 := pm_al2 m kd ik n.toNatClampNeg k.toNatClampNeg) (nc := 1 + n.toNatClampNeg) (ns := n.toNatClampNeg + n.toNatClampNeg * k.toNatClampNeg) rfl rfl (fun p e R s mth args below meth c H locs cells slots Q A hC hH hl hlo hc hs k9 => ?_) (kk m.1 _)
  obtain ⟨hx, hb, hr, hml, hown, hts, hlk, hnm, hE, hxt, hf1, hf2, hba, hfl⟩ := hC
  intro T hT X
  obtain ⟨vm₁, cA, comp, -, fA, fC, hO, hI, X', step⟩ := X.multianewarray2F hx hown (hts _ hw) (show (Cond.arrayOver (.array ty)).before args s = true from hE.2.2.1 _ hw2) (hts _ hw3) (g := F0 mth pc A (List.map (pm_mv Γ) (.int k :: .int n :: st))) rfl (by rw [hb]; exact hd) rfl n1 n2
    (Nat.le_trans (Nat.mul_le_mul n3 (Nat.le_refl 4)) (by decide)) (Nat.le_trans (Nat.mul_le_mul n4 hcb) (by decide)) (Nat.le_trans n4 (by decide)) (by rcases hk with ⟨-, -, rfl⟩ | ⟨-, -, rfl⟩ <;> rfl) (by rcases hk with ⟨-, -, rfl⟩ | ⟨-, -, rfl⟩ <;> rfl) hc hs
  have hTh : (T.setVm vm₁).heap = H := hT
  obtain ⟨f1, f2, -, -⟩ := Jvm.Free.Multi.fill_facts (T.setVm vm₁) cA comp n.toNatClampNeg k.toNatClampNeg (defaultValue ty) n.toNatClampNeg
  have hold : ∀ x : Nat, x < H.size → (Jvm.Free.Multi.fill (T.setVm vm₁) cA comp n.toNatClampNeg k.toNatClampNeg (defaultValue ty) n.toNatClampNeg).heap[x]? = H[x]? := fun x hx9 => by
    have := Jvm.Free.Multi.fill_old (T.setVm vm₁) cA comp n.toNatClampNeg k.toNatClampNeg (defaultValue ty) (a := x) (by rw [hTh]; exact hx9) n.toNatClampNeg
    rw [hTh] at this
    exact this
  have hrow : ∀ j : Nat, j < n.toNatClampNeg → (Jvm.Free.Multi.fill (T.setVm vm₁) cA comp n.toNatClampNeg k.toNatClampNeg (defaultValue ty) n.toNatClampNeg).heap[H.size + 1 + j]? = some (Jvm.Free.Multi.innerC comp k.toNatClampNeg (defaultValue ty)) := fun j hj => by
    have := Jvm.Free.Multi.fill_inner (T.setVm vm₁) cA comp n.toNatClampNeg k.toNatClampNeg (defaultValue ty) n.toNatClampNeg j hj
    rw [hTh] at this
    exact this
  rw [hTh] at f1 f2
  have q1 := hH.1.1
  have q2 := hH.1.2
  have htop := pm_top hE hH
  have hrho : ∀ j : Nat, Γ.2.2.1 (m.1 + 1 + j) = H.size + 1 + j := fun j => by rw [hE.2.1.1 _ (by omega)]; omega
  generalize hF : (Jvm.Free.Multi.fill (T.setVm vm₁) cA comp n.toNatClampNeg k.toNatClampNeg (defaultValue ty) n.toNatClampNeg) = F at X' step f1 f2 hold hrow
  have hrep : pm_heap Γ s (pm_al2 m kd ik n.toNatClampNeg k.toNatClampNeg) F.heap := by
    refine ⟨⟨by show F.heap.size + pm_E = Γ.2.2.2.size + (m.1 + (1 + n.toNatClampNeg)); omega, by show pm_E ≤ m.1 + (1 + n.toNatClampNeg); omega⟩, fun q hq => by rw [hold q (by omega)]; exact hH.2.1 q hq, fun i hi hi2 => ?_⟩
    have hi : i < m.1 + (1 + n.toNatClampNeg) := hi
    rcases Nat.lt_trichotomy i m.1 with h | h | h
    · have hsh : (pm_al2 m kd ik n.toNatClampNeg k.toNatClampNeg).2.2.1 i = m.2.2.1 i := by
        show (if i = m.1 then _ else if m.1 < i then _ else m.2.2.1 i) = _
        rw [if_neg (by omega), if_neg (by omega)]
      rw [hsh] at hi2
      obtain ⟨ce, c1, c2⟩ := hH.2.2 i h hi2
      refine ⟨ce, by rw [hold _ (pm_old hE hH h)]; exact c1, pm_cell_congr hsh ?_ ?_ c2⟩
      · funext j
        show (if m.1 ≤ i then _ else m.2.2.2.1 i j) = _
        rw [if_neg (by omega)]
      · funext j
        show (if m.1 ≤ i then _ else m.2.2.2.2 i j) = _
        rw [if_neg (by omega)]
    · subst h
      have e9 : (pm_al2 m kd ik n.toNatClampNeg k.toNatClampNeg).2.2.1 m.1 = (kd, n.toNatClampNeg, fun j => if j < n.toNatClampNeg then some (m.1 + 1 + j) else none) := by simp [pm_al2]
      refine ⟨_, by rw [htop]; exact f2, fun h100 => ?_, fun _ => ?_⟩
      · rw [e9] at h100
        have h100 : kd < 100 := h100
        omega
      · rw [e9]
        obtain ⟨o1, o2⟩ := hO n.toNatClampNeg H.size n.toNatClampNeg
        refine ⟨by rcases hk with ⟨rfl, -, rfl⟩ | ⟨rfl, -, rfl⟩ <;> exact o1, o2, ⟨Nat.le_of_eq (Jvm.Free.Multi.outerC_facts cA n.toNatClampNeg H.size n.toNatClampNeg).2.2.symm, by rw [(Jvm.Free.Multi.outerC_facts cA n.toNatClampNeg H.size n.toNatClampNeg).2.2]; rfl⟩, fun j hj => ?_⟩
        have hj : j < n.toNatClampNeg := hj
        rw [Jvm.Free.Multi.outerC_slot cA n.toNatClampNeg H.size n.toNatClampNeg j hj, if_pos hj]
        unfold pm_av
        rw [e9]
        rcases hk with ⟨rfl, -, rfl⟩ | ⟨rfl, -, rfl⟩ <;> simp [hj, pm_rf, hrho]
    · have e9 : (pm_al2 m kd ik n.toNatClampNeg k.toNatClampNeg).2.2.1 i = (ik, k.toNatClampNeg, fun _ => none) := by
        show (if i = m.1 then _ else if m.1 < i then _ else m.2.2.1 i) = _
        rw [if_neg (by omega), if_pos h]
      have ei : i = m.1 + 1 + (i - m.1 - 1) := by omega
      refine ⟨Jvm.Free.Multi.innerC comp k.toNatClampNeg (defaultValue ty), ?_, fun h100 => ?_, fun _ => ?_⟩
      · rw [ei, hrho]
        exact hrow _ (by omega)
      · rw [e9] at h100
        have h100 : ik < 100 := h100
        omega
      · rw [e9]
        obtain ⟨o1, o2⟩ := hI k.toNatClampNeg (defaultValue ty)
        refine ⟨by rcases hk with ⟨-, rfl, rfl⟩ | ⟨-, rfl, rfl⟩ <;> exact o1, o2, ⟨by simp [Jvm.Free.Multi.innerC], by simp [Jvm.Free.Multi.innerC]; rfl⟩, fun j hj => ?_⟩
        have hj : j < k.toNatClampNeg := hj
        have hz1 : (pm_al2 m kd ik n.toNatClampNeg k.toNatClampNeg).2.2.2.1 i j = 0 := by
          show (if m.1 ≤ i then 0 else _) = _
          rw [if_pos (by omega)]
        have hz2 : (pm_al2 m kd ik n.toNatClampNeg k.toNatClampNeg).2.2.2.2 i j = 0 := by
          show (if m.1 ≤ i then 0 else _) = _
          rw [if_pos (by omega)]
        unfold pm_av
        rw [e9, hz1, hz2]
        rcases hk with ⟨-, rfl, rfl⟩ | ⟨-, rfl, rfl⟩ <;> simp [Jvm.Free.Multi.innerC, hj, defaultValue]
  have hk10 := k9 F.heap hrep F rfl (by
    have e1 : cells + (1 + n.toNatClampNeg) = cells + 1 + n.toNatClampNeg := by omega
    have e2 : slots + (n.toNatClampNeg + n.toNatClampNeg * k.toNatClampNeg) = slots + n.toNatClampNeg + n.toNatClampNeg * k.toNatClampNeg := by omega
    rw [e1, e2]
    exact X')
  obtain ⟨t9, b1, b2⟩ := hk10
  refine ⟨t9, step t9 ?_, b2⟩
  rw [hT, ← htop]
  exact b1
end PMM
