/-! the five ways of a call -/
/-- what a caller must know of a method: its word, that its class is ready, how many arguments -/
def pm_zOk (z : pmY) (n : Nat) : Prop := z.2.2.2.2 = [] ∧ Cond.code z.1 z.2.1 z.2.2.1 z.2.2.2.1 ∈ pm_tbl ∧ Cond.initialized z.1.cls ∈ pm_tbl ∧ (z.1.cls ≠ "java/lang/invoke/MethodHandle" ∧ z.1.cls ≠ "java/lang/invoke/VarHandle" ∧ (parseMethodDescriptor z.1.desc).map (fun d => d.parameters.length) = some n) ∧ z.2.2.1 ≤ 80
section PMW
variable {l : Launch} {Γ : pmG} {y z : pmY} {d pc : Nat} {ls st : List Value} {m : pmM}
theorem pm_zgood {n : Nat} (h : pm_zOk z n) : GoodIn pm_tbl (pm_ws z) := by
  intro w hw
  unfold pm_ws at hw
  rw [if_pos h.1] at hw
  rcases List.mem_cons.mp hw with e | e
  · rw [e]; exact pm_good _ h.2.1
  · exact pm_good _ e
theorem pm_zws {n : Nat} (h : pm_zOk z n) : pm_ws z = Cond.code z.1 z.2.1 z.2.2.1 z.2.2.2.1 :: pm_tbl := by
  unfold pm_ws; rw [if_pos h.1]
theorem pm_callB {n index mc ms : Nat} {R : Room} {s : State} {args : Array Value} {own : String} (h : pm_zOk z n) (hts : ∀ w ∈ pm_tbl, w.before args s = true) (hw : Cond.methodLink own index z.1 ∈ pm_tbl) (hf1 : 2 * (d + 1) + 8 ≤ R.frames) (hf2 : 100 * (d + 1) + 200 ≤ R.locals) : CallB R s args own index z.1 z.2.1 z.2.2.1 z.2.2.2.1 (pm_ws z) (pm_rm d mc ms) mc ms n :=
  callB_of n hts (pm_zgood h) (pm_zws h) rfl rfl (hts _ h.2.2.1) (hts _ hw) h.2.2.2.1 ⟨by show 2 * d + 8 + 1 ≤ _; omega, by show 8 + (z.2.2.1 + 11) + (100 * d + 200) ≤ _; have := h.2.2.2.2; omega⟩
theorem pm_callN {n index mc ms : Nat} {R : Room} {s : State} {args : Array Value} {own host : String} (h : pm_zOk z n) (hts : ∀ w ∈ pm_tbl, w.before args s = true) (hE : pm_env Γ s) (hw : Cond.methodLinkNest own index z.1 host ∈ pm_nest) (hf1 : 2 * (d + 1) + 8 ≤ R.frames) (hf2 : 100 * (d + 1) + 200 ≤ R.locals) : va_CN R s args own index z.1 host z.2.1 z.2.2.1 z.2.2.2.1 (pm_ws z) (pm_rm d mc ms) mc ms n :=
  va_cnB n hts (pm_zgood h) (pm_zws h) rfl rfl (hE.2.2.1 _ hw) (hts _ h.2.2.1) h.2.2.2.1 ⟨by show 2 * d + 8 + 1 ≤ _; omega, by show 8 + (z.2.2.1 + 11) + (100 * d + 200) ≤ _; have := h.2.2.2.2; omega⟩
theorem pm_recv {q : vw_C} {ci b : Nat} {s : State} {H : Heap} (hE : pm_env Γ s) (hH : pm_heap Γ s m H) (hq : pm_cls[ci]? = some q) (h100 : ci < 100) (hb : b < m.1) (hci : (m.2.2.1 b).1 = ci) : ∃ cellB : Cell, H[Γ.2.2.1 b]? = some cellB ∧ cellB.vm.isStatics = false ∧ s.vm.findClass q.1 = some cellB.cls := by
  obtain ⟨cell, q1, q2, -⟩ := hH.2.2 b hb (by rw [hci]; omega)
  obtain ⟨g1, g2, -⟩ := q2 (by rw [hci]; exact h100)
  refine ⟨cell, q1, by rw [g2]; rfl, ?_⟩
  rw [g1, hci]
  exact (hE.1 ci q hq).2.1
theorem pm_pre {args : List Value} {s : State} {H : Heap} (hE : pm_env Γ s) (hH : pm_heap Γ s m H) : ∀ U : State, U.heap = H → s.WarmedH U.vm → pm_Pc Γ args m (args.map (pm_mv Γ)).toArray U := fun U hU hW => ⟨rfl, hE.warm hW, by rw [hU]; exact pm_heap_moved hW.alike hH⟩
theorem pm_V {q : vw_C} {ci b index n : Nat} {As stk : List Value} (h : pm_zOk z n) (hq : pm_cls[ci]? = some q) (h100 : ci < 100) (hw : Cond.methodLink y.1.cls index z.1 ∈ pm_tbl) (hw2 : Cond.instanceMethod z.1 ∈ pm_tbl) (hw3 : Cond.selects q.1 z.1 z.1 ∈ pm_tbl) (hd : decode y.2.1 pc = .ok (.invokevirtual index, 3)) (hstk : stk = As.reverse ++ .ref b :: st) (hn : As.length = n) (hdp : pm_dp st ≤ 8) (hb : b < m.1) (hci : (m.2.2.1 b).1 = ci) : pm_Call (ls := ls) l Γ y z d pc stk st (.ref b :: As) m := by
  intro o1 m1 b1 b2 hMet p e s mth margs below meth c R H locs cells slots A hC hH hl hc hs
  obtain ⟨hx, hbb, hr, hml, hown, hts, hlk, hnm, hE, hxt, hf1, hf2, hba, -⟩ := hC
  exact vx_runV (g := F0 mth pc A (stk.map (pm_mv Γ))) (As := As.map (pm_mv Γ)) (rest := st.map (pm_mv Γ)) (b := Γ.2.2.1 b) (C := q.1) (n := n) (nL := y.2.2.1) ⟨hx, hbb, hml, hown, hts⟩ hMet ⟨pm_callB h hts hw hf1 hf2, hts _ hw2, hts _ hw3⟩ ⟨pm_blind, pm_recv hE hH hq h100 hb hci, pm_pre hE hH⟩ rfl (by rw [List.length_map]; exact hn) hl.2.1 (by rw [hstk]; simp [pm_mv]) (by rw [pm_sum]; unfold pm_dp at hdp; show 2 * 0 + _ ≤ 8; omega) hd ⟨hc, hs⟩
theorem pm_VN {q : vw_C} {ci b index n : Nat} {host : String} {As stk : List Value} (h : pm_zOk z n) (hq : pm_cls[ci]? = some q) (h100 : ci < 100) (hw : Cond.methodLinkNest y.1.cls index z.1 host ∈ pm_nest) (hw2 : Cond.instanceMethod z.1 ∈ pm_tbl) (hw3 : Cond.selects q.1 z.1 z.1 ∈ pm_tbl) (hd : decode y.2.1 pc = .ok (.invokevirtual index, 3)) (hstk : stk = As.reverse ++ .ref b :: st) (hn : As.length = n) (hdp : pm_dp st ≤ 8) (hb : b < m.1) (hci : (m.2.2.1 b).1 = ci) : pm_Call (ls := ls) l Γ y z d pc stk st (.ref b :: As) m := by
  intro o1 m1 b1 b2 hMet p e s mth margs below meth c R H locs cells slots A hC hH hl hc hs
  obtain ⟨hx, hbb, hr, hml, hown, hts, hlk, hnm, hE, hxt, hf1, hf2, hba, -⟩ := hC
  exact vx_runVN (g := F0 mth pc A (stk.map (pm_mv Γ))) (As := As.map (pm_mv Γ)) (rest := st.map (pm_mv Γ)) (b := Γ.2.2.1 b) (C := q.1) (n := n) (nL := y.2.2.1) ⟨hx, hbb, hml, hown, hts⟩ hMet ⟨pm_callN h hts hE hw hf1 hf2, hts _ hw2, hts _ hw3⟩ ⟨pm_blind, pm_recv hE hH hq h100 hb hci, pm_pre hE hH⟩ rfl (by rw [List.length_map]; exact hn) hl.2.1 (by rw [hstk]; simp [pm_mv]) (by rw [pm_sum]; unfold pm_dp at hdp; show 2 * 0 + _ ≤ 8; omega) hd ⟨hc, hs⟩
theorem pm_S {index n : Nat} {As stk : List Value} (h : pm_zOk z n) (hw : Cond.methodLink y.1.cls index z.1 ∈ pm_tbl) (hw2 : Cond.static z.1 ∈ pm_tbl) (hd : decode y.2.1 pc = .ok (.invokestatic index, 3)) (hstk : stk = As.reverse ++ st) (hn : As.length = n) (hdp : pm_dp st ≤ 8) : pm_Call (ls := ls) l Γ y z d pc stk st As m := by
  intro o1 m1 b1 b2 hMet p e s mth margs below meth c R H locs cells slots A hC hH hl hc hs
  obtain ⟨hx, hbb, hr, hml, hown, hts, hlk, hnm, hE, hxt, hf1, hf2, hba, -⟩ := hC
  exact vx_runS (g := F0 mth pc A (stk.map (pm_mv Γ))) (As := As.map (pm_mv Γ)) (rest := st.map (pm_mv Γ)) (n := n) (nL := y.2.2.1) ⟨hx, hbb, hml, hown, hts⟩ hMet ⟨pm_callB h hts hw hf1 hf2, hts _ hw2⟩ ⟨pm_blind, pm_pre hE hH⟩ rfl (by rw [List.length_map]; exact hn) hl.2.1 (by rw [hstk]; simp) (by rw [pm_sum]; unfold pm_dp at hdp; show 2 * 0 + _ ≤ 8; omega) hd ⟨hc, hs⟩
theorem pm_SN {index n : Nat} {host : String} {As stk : List Value} (h : pm_zOk z n) (hw : Cond.methodLinkNest y.1.cls index z.1 host ∈ pm_nest) (hw2 : Cond.static z.1 ∈ pm_tbl) (hd : decode y.2.1 pc = .ok (.invokestatic index, 3)) (hstk : stk = As.reverse ++ st) (hn : As.length = n) (hdp : pm_dp st ≤ 8) : pm_Call (ls := ls) l Γ y z d pc stk st As m := by
  intro o1 m1 b1 b2 hMet p e s mth margs below meth c R H locs cells slots A hC hH hl hc hs
  obtain ⟨hx, hbb, hr, hml, hown, hts, hlk, hnm, hE, hxt, hf1, hf2, hba, -⟩ := hC
  exact vx_runSN (g := F0 mth pc A (stk.map (pm_mv Γ))) (As := As.map (pm_mv Γ)) (rest := st.map (pm_mv Γ)) (n := n) (nL := y.2.2.1) ⟨hx, hbb, hml, hown, hts⟩ hMet ⟨pm_callN h hts hE hw hf1 hf2, hts _ hw2, trivial⟩ ⟨pm_blind, pm_pre hE hH⟩ rfl (by rw [List.length_map]; exact hn) hl.2.1 (by rw [hstk]; simp) (by rw [pm_sum]; unfold pm_dp at hdp; show 2 * 0 + _ ≤ 8; omega) hd ⟨hc, hs⟩
theorem pm_I {b index n : Nat} {As stk : List Value} (h : pm_zOk z n) (hret : z.2.2.2.1 = none) (hnm9 : z.1.name = "<init>") (hw : Cond.methodLink y.1.cls index z.1 ∈ pm_tbl) (hw2 : Cond.instanceMethod z.1 ∈ pm_tbl) (hd : decode y.2.1 pc = .ok (.invokespecial index, 3)) (hstk : stk = As.reverse ++ .ref b :: st) (hn : As.length = n) (hdp : pm_dp st ≤ 8) : pm_Call (ls := ls) l Γ y z d pc stk st (.ref b :: As) m := by
  intro o1 m1 b1 b2 hMet p e s mth margs below meth c R H locs cells slots A hC hH hl hc hs
  obtain ⟨hx, hbb, hr, hml, hown, hts, hlk, hnm, hE, hxt, hf1, hf2, hba, -⟩ := hC
  have hcb := pm_callB (mc := m1.1 - m.1) (ms := m1.2.1 - m.2.1) h hts hw hf1 hf2
  rw [hret] at hcb
  exact vx_runI (g := F0 mth pc A (stk.map (pm_mv Γ))) (As := As.map (pm_mv Γ)) (rest := st.map (pm_mv Γ)) (b := Γ.2.2.1 b) (n := n) (nL := y.2.2.1) ⟨hx, hbb, hml, hown, hts⟩ hMet ⟨hcb, hnm9, hts _ hw2⟩ ⟨pm_blind, pm_pre hE hH⟩ rfl (by rw [List.length_map]; exact hn) hl.2.1 (by rw [hstk]; simp [pm_mv]) (by rw [pm_sum]; unfold pm_dp at hdp; show 2 * 0 + _ ≤ 8; omega) hd ⟨hc, hs⟩
theorem pm_IN {b index n : Nat} {host : String} {As stk : List Value} (h : pm_zOk z n) (hret : z.2.2.2.1 = none) (hnm9 : z.1.name = "<init>") (hw : Cond.methodLinkNest y.1.cls index z.1 host ∈ pm_nest) (hw2 : Cond.instanceMethod z.1 ∈ pm_tbl) (hd : decode y.2.1 pc = .ok (.invokespecial index, 3)) (hstk : stk = As.reverse ++ .ref b :: st) (hn : As.length = n) (hdp : pm_dp st ≤ 8) : pm_Call (ls := ls) l Γ y z d pc stk st (.ref b :: As) m := by
  intro o1 m1 b1 b2 hMet p e s mth margs below meth c R H locs cells slots A hC hH hl hc hs
  obtain ⟨hx, hbb, hr, hml, hown, hts, hlk, hnm, hE, hxt, hf1, hf2, hba, -⟩ := hC
  have hcb := pm_callN (mc := m1.1 - m.1) (ms := m1.2.1 - m.2.1) h hts hE hw hf1 hf2
  rw [hret] at hcb
  exact vx_runIN (g := F0 mth pc A (stk.map (pm_mv Γ))) (As := As.map (pm_mv Γ)) (rest := st.map (pm_mv Γ)) (b := Γ.2.2.1 b) (n := n) (nL := y.2.2.1) ⟨hx, hbb, hml, hown, hts⟩ hMet ⟨hcb, hnm9, hts _ hw2⟩ ⟨pm_blind, pm_pre hE hH⟩ rfl (by rw [List.length_map]; exact hn) hl.2.1 (by rw [hstk]; simp [pm_mv]) (by rw [pm_sum]; unfold pm_dp at hdp; show 2 * 0 + _ ≤ 8; omega) hd ⟨hc, hs⟩
/-- a call that answers an int -/
theorem pm_kI {stk args : List Value} {r : pmR} {f : Int32 → pmM → pmR} (hh : y.2.2.2.2 = []) (hcall : pm_Call (ls := ls) l Γ y z d pc stk st args m) (hC : pm_C l Γ z d args m r) (kk : ∀ x m1, pm_G l Γ y (d + 1) (pc + 3) ls (.int x :: st) m1 (f x m1)) : pm_G l Γ y (d + 1) pc ls stk m (pm_cI r f) := by
  refine pm_calls (g := fun v m1 => match v with | some (.int x) => f x m1 | _ => none) hh hcall hC (fun v m1 _ => ?_) ?_ (fun v m1 x hr => ?_)
  · cases v with
    | none => exact pm_none
    | some w => cases w <;> first | exact kk _ _ | exact pm_none
  · unfold pm_cI pm_ck
    rcases r with _ | ⟨(_ | w) | k, m1⟩
    · rfl
    · rfl
    · cases w <;> rfl
    · rfl
  · cases v with
    | none => rfl
    | some w => cases w <;> first | rfl | cases hr
theorem pm_kL {stk args : List Value} {r : pmR} {f : Int64 → pmM → pmR} (hh : y.2.2.2.2 = []) (hcall : pm_Call (ls := ls) l Γ y z d pc stk st args m) (hC : pm_C l Γ z d args m r) (kk : ∀ x m1, pm_G l Γ y (d + 1) (pc + 3) ls (.long x :: st) m1 (f x m1)) : pm_G l Γ y (d + 1) pc ls stk m (pm_cL r f) := by
  refine pm_calls (g := fun v m1 => match v with | some (.long x) => f x m1 | _ => none) hh hcall hC (fun v m1 _ => ?_) ?_ (fun v m1 x hr => ?_)
  · cases v with
    | none => exact pm_none
    | some w => cases w <;> first | exact kk _ _ | exact pm_none
  · unfold pm_cL pm_ck
    rcases r with _ | ⟨(_ | w) | k, m1⟩
    · rfl
    · rfl
    · cases w <;> rfl
    · rfl
  · cases v with
    | none => rfl
    | some w => cases w <;> first | rfl | cases hr
theorem pm_kV {stk args : List Value} {r : pmR} {f : pmM → pmR} (hh : y.2.2.2.2 = []) (hcall : pm_Call (ls := ls) l Γ y z d pc stk st args m) (hC : pm_C l Γ z d args m r) (kk : ∀ m1, pm_G l Γ y (d + 1) (pc + 3) ls st m1 (f m1)) : pm_G l Γ y (d + 1) pc ls stk m (pm_cV r f) := by
  refine pm_calls (g := fun v m1 => match v with | none => f m1 | _ => none) hh hcall hC (fun v m1 _ => ?_) ?_ (fun v m1 x hr => ?_)
  · cases v with
    | none => exact kk _
    | some w => exact pm_none
  · unfold pm_cV pm_ck
    rcases r with _ | ⟨(_ | w) | k, m1⟩
    · rfl
    · rfl
    · rfl
    · rfl
  · cases v with
    | none => rfl
    | some w => cases hr
/-- a call of a method of an object: the object is such a one -/
theorem pm_rcv {ci b : Nat} {stk : List Value} {r : pmR} (kk : b < m.1 → (m.2.2.1 b).1 = ci → pm_G l Γ y d pc ls stk m r) : pm_G l Γ y d pc ls stk m (pm_rc ci b m r) := by
  unfold pm_rc
  by_cases h : b < m.1 ∧ (m.2.2.1 b).1 = ci
  · rw [if_pos h]; exact kk h.1 h.2
  · rw [if_neg h]; exact pm_none
/-- a loop: so many times round at most -/
def pm_lp {σ : Type} : Nat → ((σ → pmR) → σ → pmR) → σ → pmR
  | 0, _, _ => none
  | n + 1, body, s => body (pm_lp n body) s
theorem pm_loop {σ : Type} {body : (σ → pmR) → σ → pmR} {lsf : σ → List Value} {mf : σ → pmM} (h : ∀ again, (∀ s, pm_G l Γ y d pc (lsf s) [] (mf s) (again s)) → ∀ s, pm_G l Γ y d pc (lsf s) [] (mf s) (body again s)) : ∀ n s, pm_G l Γ y d pc (lsf s) [] (mf s) (pm_lp n body s)
  | 0, _ => pm_none
  | n + 1, s => h (pm_lp n body) (pm_loop h n) s
end PMW
