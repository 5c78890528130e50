/-! texts: constant Strings -/
section PMQ
variable {l : Launch} {Γ : pmG} {y z : pmY} {d pc : Nat} {ls st : List Value} {m : pmM} {res : pmR}
/-- with the heap grown since the method's start -/
theorem pm_pg {pc2 : Nat} {st2 : List Value}
    (h : ∀ (p : Program) (e : Env) (R : Room) (s : State) (mth : MethodId) (args : Array Value) (below : List Frame) (meth : Method) (c : Code) (H : Heap) (locs : List Loc) (cells slots : Nat) (Q : State → Prop) (A : Array Slot), pm_ctx l Γ y d p s mth args meth c R → pm_heap Γ s m H → pm_ls Γ y.2.2.1 ls A → va_S (pm_A Γ) s.heap H locs → cells ≤ R.cells → slots ≤ R.slots →
      W p l e R s mth args below meth c H locs cells slots Q (F0 mth pc2 A (st2.map (pm_mv Γ))) → W p l e R s mth args below meth c H locs cells slots Q (F0 mth pc A (st.map (pm_mv Γ))))
    (k : pm_G l Γ y d pc2 ls st2 m res) : pm_G l Γ y d pc ls st m res :=
  pm_pw (fun p e R s mth args below meth c H locs cells slots Q A hC hH hl hlo hc hs k9 T hT X => h p e R s mth args below meth c H locs cells slots Q A hC hH hl (pm_SS (by rw [← hT]; exact (vx_frame X.same).1) hC.2.2.2.2.2.2.2.2.2.2.2.2.1 hH hlo) hc hs k9 T hT X) k
def pm_rs (b : Nat) (r : pmR) : pmR := if 3 ≤ b ∧ b < 22 then r else none
theorem pm_strAt {b : Nat} (h : 3 ≤ b ∧ b < 22) : ∃ q ∈ pm_strs, q.2.2.2 = b := by
  have : ∀ b : Nat, b < 22 → 3 ≤ b → ∃ q ∈ pm_strs, q.2.2.2 = b := by decide +kernel
  exact this b h.2 h.1
theorem pm_getSv {b index : Nat} (hw : Cond.fieldLink y.1.cls index "java/lang/String" "value" "[B" ∈ pm_tbl) (hd : decode y.2.1 pc = .ok (.getfield index, 3)) (kk : pm_G l Γ y d (pc + 3) ls (.ref (b + 30) :: st) m res) : pm_G l Γ y d pc ls (.ref b :: st) m (pm_rs b res) := by
  unfold pm_rs
  by_cases h : 3 ≤ b ∧ b < 22
  · rw [if_pos h]
    obtain ⟨q, hq, rfl⟩ := pm_strAt h
    exact pm_pg (fun p e R s mth args below meth c H locs cells slots Q A hC hH hl hS hc hs k9 => vk_getf hC.1 hC.2.1 ((hC.2.2.2.2.2.2.2.2.1.2.2.2.2.2.2.2.2.1 q hq).2.2.kept (pm_ks hC.2.2.2.2.2.2.2.2.2.2.2.2.1)) hS hC.2.2.2.2.1 (hC.2.2.2.2.2.1 _ hw) (fun _ h9 => h9) hd k9) kk
  · rw [if_neg h]; exact pm_none
theorem pm_getSc {b index : Nat} (hw : Cond.fieldLink y.1.cls index "java/lang/String" "coder" "B" ∈ pm_tbl) (hd : decode y.2.1 pc = .ok (.getfield index, 3)) (kk : pm_G l Γ y d (pc + 3) ls (.int 0 :: st) m res) : pm_G l Γ y d pc ls (.ref b :: st) m (pm_rs b res) := by
  unfold pm_rs
  by_cases h : 3 ≤ b ∧ b < 22
  · rw [if_pos h]
    obtain ⟨q, hq, rfl⟩ := pm_strAt h
    exact pm_pg (fun p e R s mth args below meth c H locs cells slots Q A hC hH hl hS hc hs k9 => vk_getf hC.1 hC.2.1 ((hC.2.2.2.2.2.2.2.2.1.2.2.2.2.2.2.2.2.1 q hq).2.1.kept (pm_ks hC.2.2.2.2.2.2.2.2.2.2.2.2.1)) hS hC.2.2.2.2.1 (hC.2.2.2.2.2.1 _ hw) (fun _ h9 => h9) hd k9) kk
  · rw [if_neg h]; exact pm_none
theorem pm_VS {b index n : Nat} {As stk : List Value} (h : pm_zOk z n) (hb : 3 ≤ b ∧ b < 22) (hw : Cond.methodLink y.1.cls index z.1 ∈ pm_tbl) (hw2 : Cond.instanceMethod z.1 ∈ pm_tbl) (hw3 : Cond.selects "java/lang/String" z.1 z.1 ∈ pm_tbl) (hd : decode y.2.1 pc = .ok (.invokevirtual index, 3)) (hstk : stk = As.reverse ++ .ref b :: st) (hn : As.length = n) (hdp : pm_dp st ≤ 8) : pm_Call (ls := ls) l Γ y z d pc stk st (.ref b :: As) m := by
  intro o1 m1 b1 b2 hMet p e s mth margs below meth c R H locs cells slots A hC hH hl hc hs
  obtain ⟨hx, hbb, hr, hml, hown, hts, hlk, hnm, hE, hxt, hf1, hf2, hba, -⟩ := hC
  obtain ⟨q, hq, rfl⟩ := pm_strAt hb
  obtain ⟨cell, o2, o3, o4, o5⟩ := (hE.2.2.2.2.2.2.2.2.1 q hq).1
  have hcell : H[Γ.2.2.1 q.2.2.2]? = some cell := by
    rw [hH.2.1 _ (Nat.not_le.mp o5)]; exact o2
  exact vx_runV (g := F0 mth pc A (stk.map (pm_mv Γ))) (As := As.map (pm_mv Γ)) (rest := st.map (pm_mv Γ)) (b := Γ.2.2.1 q.2.2.2) (C := "java/lang/String") (n := n) (nL := y.2.2.1) ⟨hx, hbb, hml, hown, hts⟩ hMet ⟨pm_callB h hts hw hf1 hf2, hts _ hw2, hts _ hw3⟩ ⟨pm_blind, ⟨cell, hcell, o3, o4⟩, pm_pre hE hH⟩ rfl (by rw [List.length_map]; exact hn) hl.2.1 (by rw [hstk]; simp [pm_mv]) (by rw [pm_sum]; unfold pm_dp at hdp; show 2 * 0 + _ ≤ 8; omega) hd ⟨hc, hs⟩
theorem pm_rsv {b : Nat} {stk : List Value} {r : pmR} (kk : 3 ≤ b ∧ b < 22 → pm_G l Γ y d pc ls stk m r) : pm_G l Γ y d pc ls stk m (pm_rs b r) := by
  unfold pm_rs
  by_cases h : 3 ≤ b ∧ b < 22
  · rw [if_pos h]; exact kk h
  · rw [if_neg h]; exact pm_none
/-- a static of which only this is known: null, or a reference -/
theorem pm_getsQ {index : Nat} (hw : Cond.fieldLink y.1.cls index "jdk/internal/util/Preconditions" "SIOOBE_FORMATTER" "Ljava/util/function/BiFunction;" ∈ pm_tbl) (hd : decode y.2.1 pc = .ok (.getstatic index, 3)) (kk : ∀ v, (v = .null ∨ ∃ k : Nat, v = .ref k) → pm_G l Γ y d (pc + 3) ls (v :: st) m res) : pm_G l Γ y d pc ls st m res := by
  intro o m' hr
  refine ⟨(kk .null (Or.inl rfl) o m' hr).1, ?_⟩
  intro p e s mth args below meth c R H locs cells slots mc ms A hC a1 a2 a3 a4 a5 a6 a7
  have hC' := hC
  obtain ⟨hx, hb, hr9, hml, hown, hts, hlk, hnm, hE, hxt, hf1, hf2, hba, hfl⟩ := hC
  intro T hT X
  have hS := pm_SS (m := m) (by rw [← hT]; exact (vx_frame X.same).1) hba a3 a5
  rcases hE.2.2.2.2.2.2.2.2.2.1 with hz | ⟨k9, hz⟩
  · exact va_gets hx hb (hz.kept (pm_ks hba)) hS hown (hts _ hw) (fun _ h9 => h9) hd ((kk .null (Or.inl rfl) o m' hr).2 p e s mth args below meth c R H locs cells slots mc ms A hC' a1 a2 a3 a4 a5 a6 a7) T hT X
  · exact va_gets hx hb (hz.kept (pm_ks hba)) hS hown (hts _ hw) (fun _ h9 => h9) hd ((kk (.ref k9) (Or.inr ⟨k9, rfl⟩) o m' hr).2 p e s mth args below meth c R H locs cells slots mc ms A hC' a1 a2 a3 a4 a5 a6 a7) T hT X
end PMQ
