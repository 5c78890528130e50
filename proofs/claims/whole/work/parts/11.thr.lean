/-! throwing, and catching in the law's own methods -/
section PMX0
variable {p : Program} {l : Launch} {e : Env} {R : Room} {s : State} {m : MethodId} {args : Array Value} {below : List Frame} {meth : Method} {c : Code} {H : Heap} {locs : List Loc} {cells slots : Nat} {Q : State → Prop}
variable {mc ms : Nat} {free : Addr → Prop} {A0 A1 : Nat → Prop} {H0 : Heap} {a : Array Value} {ls : Array Slot} {st0 rest : List Value}
variable {Qc : Array Value → State → Outcome → State → Prop} {XC : String → State → State → Prop}
theorem pm_throwS {cc : ByteArray} {pc : Nat} (hexec : p.tables.exec = Jvm.exec) (hb : c.code = cc) (hl : l.stackTraces = false) {own cls text : String} {names : List String} {ik is ic mc ms sa : Nat} {A : Nat → Prop}
    (hown : s.vm.findClass own = some m.cls) (hcls : Bundle.fit cls = true) (hnames : ∀ n ∈ names, Bundle.fit n = true)
    (hk : (Cond.classLink own ik cls).before args s = true) (hini : (Cond.initialized cls).before args s = true) (hstr : vk_R own is text sa s) (hat : ∀ w ∈ vx_atS own ic cls names, w.before args s = true)
    (hgood : ∀ w ∈ Cond.classLink own ik cls :: Cond.initialized cls :: vx_atS own ic cls names, vx_ot w = true)
    (hU : vx_Zq Bundle.tN "UNASSIGNED_STACK" Bundle.steD A s s.heap) (hN : vx_Zq Bundle.tN "SUPPRESSED_SENTINEL" Bundle.listD A s s.heap) (hS : va_S A s.heap H locs) (hsize : ls.size = c.maxLocals)
    (d0 : decode cc pc = .ok (.new ik, 3)) (d3 : decode cc (pc + 3) = .ok (.dup, 1)) (d4 : decode cc (pc + 4) = .ok (.ldc is, 2)) (d6 : decode cc (pc + 6) = .ok (.invokespecial ic, 3)) (d9 : decode cc (pc + 9) = .ok (.athrow, 1))
    (hout : ∀ x ∈ c.exceptionTable.toList, covers x (pc + 9) = false)
    (hRframes : names.length + 3 < R.frames) (hRlocals : (rest.map fun v => v.category).sum + (13 * (names.length + 1) + 43) ≤ R.locals) (hRcells : cells + 1 ≤ R.cells) (hRslots : slots + 6 ≤ R.slots) (hlocks : meth.locks = false)
    (hx : ∀ t : State, s.vm.Alike t.vm → t.heap.size = H.size + 1 → (∀ q : Nat, q < H.size → t.heap[q]? = H[q]?) → XC cls s t)
    (hf : ∀ z ∈ locs, free z.base) (hc : cells + 1 ≤ mc) (hs : slots + 6 ≤ ms) :
    W p l e R s m args below meth c H locs cells slots (vx_MQ below Qc XC args s mc ms free) (F0 m pc ls rest) := by
  intro T hT X
  have htr : e.platform.stackTraces = false := (show e.platform.stackTraces = l.stackTraces by rw [X.admits.platform]).trans hl
  have Y := vx_rebase X (R' := { frames := R.frames, locals := R.locals, cells := 1, slots := 6 }) (Nat.le_refl _) (Nat.le_refl _) hRcells hRslots
  obtain ⟨s', hA⟩ : ∃ z, z = (T.setVm s.vm).setFrames (.invoking m args :: below) := ⟨_, rfl⟩
  rw [← hA] at Y
  have hvm : s'.vm = s.vm := by rw [hA]; rfl
  have hhp : s'.heap = H := by rw [hA]; exact hT
  have hW0 : s.WarmedH s'.vm := by rw [hvm]; exact State.WarmedH.refl s
  have hat' : ∀ w ∈ vx_atS own ic cls names, w.before args s' = true := fun w hw => vx_ot_at hW0 hvm.symm (hgood w (List.mem_cons_of_mem _ (List.mem_cons_of_mem _ hw))) (hat w hw)
  have hk' : (Cond.classLink own ik cls).before args s' = true := vx_ot_at hW0 hvm.symm (hgood _ List.mem_cons_self) hk
  have hini' : (Cond.initialized cls).before args s' = true := vx_ot_at hW0 hvm.symm (hgood _ (List.mem_cons_of_mem _ List.mem_cons_self)) hini
  have hU' : vx_Zq Bundle.tN "UNASSIGNED_STACK" Bundle.steD A s' s'.heap := by rw [hhp]; exact vx_Zq.moved hW0.alike (hU.kept hS.2.1)
  have hN' : vx_Zq Bundle.tN "SUPPRESSED_SENTINEL" Bundle.listD A s' s'.heap := by rw [hhp]; exact vx_Zq.moved hW0.alike (hN.kept hS.2.1)
  have h : ∀ w ∈ Bundle.ownAtoms own ic cls names, w.before args s' = true := vx_own hat' (vx_isRefq hU'.1) (vx_isRefq hN'.1) hU'.2.word hN'.2.word
  have hown' : s'.vm.findClass own = some m.cls := by rw [hvm]; exact hown
  have hins : (Cond.instantiable cls 6).before args s' = true := h _ (by simp [Bundle.ownAtoms])
  obtain ⟨vm₁, cX, kX, hfX, hkX, -, -, X₁, st1⟩ := Y.newCold hexec (own := own) (C := cls) (index := ik) (n := 6) hown' hk' hins hini'
    (g := F0 m pc ls rest) rfl (by rw [hb]; exact d0) (Nat.le_refl _) (Nat.le_refl _)
  generalize hT1 : (T.setVm vm₁).pushCell { cls := cX, slots := kX.instanceTypes.map defaultValue, vm := .none } = T1 at X₁ st1
  have hcat : (Value.ref T.heap.size).category = 1 := rfl
  have hcellA : T1.heap[T.heap.size]? = some (freshCell cX kX) := by rw [← hT1]; exact State.heap_pushCell_size _ _
  have d3' : decode c.code (pc + 3) = .ok (.dup, 1) := by rw [hb]; exact d3
  have d4' : decode c.code (pc + 4) = .ok (.ldc is, 2) := by rw [hb]; exact d4
  have hstr' : vk_R own is text sa s' := vk_R.warm hW0 hstr
  obtain ⟨U, hsteps, hrun, hend, hW, hsame, ce, hce, hO⟩ := X₁.ctorThrowS hexec htr (own := own) (cls := cls) (names := names) (ic := ic) hown' hcls hnames h (fun x hx => nomatch hx) hfX hkX hcellA (by rw [hhp, hT]; exact Nat.le_refl _) (msg := .ref sa) rfl
    (g := { method := m, pc := pc + 6, locals := ls, stack := .ref sa :: .ref T.heap.size :: .ref T.heap.size :: rest, locked := none }) rfl hsize rfl rfl (rest := rest) rfl
    (by rw [hb]; exact d6) (by rw [hb]; exact d9) hout hRframes (by simp only [List.map_cons, List.sum_cons, hcat]; omega) hlocks
  obtain ⟨f1, f2⟩ := vx_frame hsame
  rw [hhp] at f1 f2
  have f3 : U.heap.size = H.size + 1 := by
    have g1 : U.heap.size ≤ s'.heap.size + 1 := hsame.2.2.1
    have g2 := (Array.getElem?_eq_some_iff.mp hce).1
    rw [hhp] at g1
    rw [hT] at g2
    omega
  have hWs : s.WarmedH U.vm := State.WarmedH.trans hW0 hW
  have hcl : s.vm.findClass cls = some ce.cls := by
    have h9 := hO.cls
    rw [hvm] at h9
    exact h9
  have hall : s.sameButNew ({ U with vm := s.vm } : State) locs mc ms := by
    subst hA
    obtain ⟨e1, e2⟩ := hsame
    rw [State.setFrames_setFrames] at e1
    have h2 : (T.setVm s.vm).sameButNew ({ U with vm := s.vm } : State) [] (0 + 1) (0 + 6) := ⟨e1, e2⟩
    have h3 := X.same.trans h2
    rw [List.append_nil] at h3
    exact h3.mono hc hs
  refine ⟨U, ?_, .threw T.heap.size, hrun, hend, Or.inr ⟨T.heap.size, rfl, cls, ce, locs, hx U hWs.alike f3 (fun q hq => f2 q hq (fun z hz => nomatch hz)), hce, hO.vm, hcl, hWs, hall, hf⟩⟩
  refine st1 _ ?_
  show Steps p.tables e below (T1.setTop { method := m, pc := pc + 3, locals := ls, stack := .ref T.heap.size :: rest, locked := none }) _
  jvm_step X₁.here [X₁.here.top, hexec, d3', Value.category]
  exact X₁.ldcString hexec (own := own) (text := text) (index := is) (a := sa) hown' hstr'.1 hstr'.2
    (g := { method := m, pc := pc + 4, locals := ls, stack := .ref T.heap.size :: .ref T.heap.size :: rest, locked := none }) rfl d4' _ hsteps
theorem pm_throwSW {cc : ByteArray} {pc : Nat} (hexec : p.tables.exec = Jvm.exec) (hb : c.code = cc) (hl : l.stackTraces = false) {own cls text : String} {names : List String} {ik is ic mc ms sa : Nat} {A : Nat → Prop}
    (hown : s.vm.findClass own = some m.cls) (hcls : Bundle.fit cls = true) (hnames : ∀ n ∈ names, Bundle.fit n = true)
    (hk : (Cond.classLink own ik cls).before args s = true) (hini : (Cond.initialized cls).before args s = true) (hstr : vk_R own is text sa s) (hat : ∀ w ∈ vx_atS own ic cls names, w.before args s = true)
    (hgood : ∀ w ∈ Cond.classLink own ik cls :: Cond.initialized cls :: vx_atS own ic cls names, vx_ot w = true)
    (hU : vx_Zq Bundle.tN "UNASSIGNED_STACK" Bundle.steD A s s.heap) (hN : vx_Zq Bundle.tN "SUPPRESSED_SENTINEL" Bundle.listD A s s.heap) (hS : va_S A s.heap H locs) (hsize : ls.size = c.maxLocals)
    (d0 : decode cc pc = .ok (.new ik, 3)) (d3 : decode cc (pc + 3) = .ok (.dup, 1)) (d4 : decode cc (pc + 4) = .ok (.ldc_w is, 3)) (d7 : decode cc (pc + 7) = .ok (.invokespecial ic, 3)) (d10 : decode cc (pc + 10) = .ok (.athrow, 1))
    (hout : ∀ x ∈ c.exceptionTable.toList, covers x (pc + 10) = false)
    (hRframes : names.length + 3 < R.frames) (hRlocals : (rest.map fun v => v.category).sum + (13 * (names.length + 1) + 43) ≤ R.locals) (hRcells : cells + 1 ≤ R.cells) (hRslots : slots + 6 ≤ R.slots) (hlocks : meth.locks = false)
    (hx : ∀ t : State, s.vm.Alike t.vm → t.heap.size = H.size + 1 → (∀ q : Nat, q < H.size → t.heap[q]? = H[q]?) → XC cls s t)
    (hf : ∀ z ∈ locs, free z.base) (hc : cells + 1 ≤ mc) (hs : slots + 6 ≤ ms) :
    W p l e R s m args below meth c H locs cells slots (vx_MQ below Qc XC args s mc ms free) (F0 m pc ls rest) := by
  intro T hT X
  have htr : e.platform.stackTraces = false := (show e.platform.stackTraces = l.stackTraces by rw [X.admits.platform]).trans hl
  have Y := vx_rebase X (R' := { frames := R.frames, locals := R.locals, cells := 1, slots := 6 }) (Nat.le_refl _) (Nat.le_refl _) hRcells hRslots
  obtain ⟨s', hA⟩ : ∃ z, z = (T.setVm s.vm).setFrames (.invoking m args :: below) := ⟨_, rfl⟩
  rw [← hA] at Y
  have hvm : s'.vm = s.vm := by rw [hA]; rfl
  have hhp : s'.heap = H := by rw [hA]; exact hT
  have hW0 : s.WarmedH s'.vm := by rw [hvm]; exact State.WarmedH.refl s
  have hat' : ∀ w ∈ vx_atS own ic cls names, w.before args s' = true := fun w hw => vx_ot_at hW0 hvm.symm (hgood w (List.mem_cons_of_mem _ (List.mem_cons_of_mem _ hw))) (hat w hw)
  have hk' : (Cond.classLink own ik cls).before args s' = true := vx_ot_at hW0 hvm.symm (hgood _ List.mem_cons_self) hk
  have hini' : (Cond.initialized cls).before args s' = true := vx_ot_at hW0 hvm.symm (hgood _ (List.mem_cons_of_mem _ List.mem_cons_self)) hini
  have hU' : vx_Zq Bundle.tN "UNASSIGNED_STACK" Bundle.steD A s' s'.heap := by rw [hhp]; exact vx_Zq.moved hW0.alike (hU.kept hS.2.1)
  have hN' : vx_Zq Bundle.tN "SUPPRESSED_SENTINEL" Bundle.listD A s' s'.heap := by rw [hhp]; exact vx_Zq.moved hW0.alike (hN.kept hS.2.1)
  have h : ∀ w ∈ Bundle.ownAtoms own ic cls names, w.before args s' = true := vx_own hat' (vx_isRefq hU'.1) (vx_isRefq hN'.1) hU'.2.word hN'.2.word
  have hown' : s'.vm.findClass own = some m.cls := by rw [hvm]; exact hown
  have hins : (Cond.instantiable cls 6).before args s' = true := h _ (by simp [Bundle.ownAtoms])
  obtain ⟨vm₁, cX, kX, hfX, hkX, -, -, X₁, st1⟩ := Y.newCold hexec (own := own) (C := cls) (index := ik) (n := 6) hown' hk' hins hini'
    (g := F0 m pc ls rest) rfl (by rw [hb]; exact d0) (Nat.le_refl _) (Nat.le_refl _)
  generalize hT1 : (T.setVm vm₁).pushCell { cls := cX, slots := kX.instanceTypes.map defaultValue, vm := .none } = T1 at X₁ st1
  have hcat : (Value.ref T.heap.size).category = 1 := rfl
  have hcellA : T1.heap[T.heap.size]? = some (freshCell cX kX) := by rw [← hT1]; exact State.heap_pushCell_size _ _
  have d3' : decode c.code (pc + 3) = .ok (.dup, 1) := by rw [hb]; exact d3
  have d4' : decode c.code (pc + 4) = .ok (.ldc_w is, 3) := by rw [hb]; exact d4
  have hstr' : vk_R own is text sa s' := vk_R.warm hW0 hstr
  obtain ⟨U, hsteps, hrun, hend, hW, hsame, ce, hce, hO⟩ := X₁.ctorThrowS hexec htr (own := own) (cls := cls) (names := names) (ic := ic) hown' hcls hnames h (fun x hx => nomatch hx) hfX hkX hcellA (by rw [hhp, hT]; exact Nat.le_refl _) (msg := .ref sa) rfl
    (g := { method := m, pc := pc + 7, locals := ls, stack := .ref sa :: .ref T.heap.size :: .ref T.heap.size :: rest, locked := none }) rfl hsize rfl rfl (rest := rest) rfl
    (by rw [hb]; exact d7) (by rw [hb]; exact d10) hout hRframes (by simp only [List.map_cons, List.sum_cons, hcat]; omega) hlocks
  obtain ⟨f1, f2⟩ := vx_frame hsame
  rw [hhp] at f1 f2
  have f3 : U.heap.size = H.size + 1 := by
    have g1 : U.heap.size ≤ s'.heap.size + 1 := hsame.2.2.1
    have g2 := (Array.getElem?_eq_some_iff.mp hce).1
    rw [hhp] at g1
    rw [hT] at g2
    omega
  have hWs : s.WarmedH U.vm := State.WarmedH.trans hW0 hW
  have hcl : s.vm.findClass cls = some ce.cls := by
    have h9 := hO.cls
    rw [hvm] at h9
    exact h9
  have hall : s.sameButNew ({ U with vm := s.vm } : State) locs mc ms := by
    subst hA
    obtain ⟨e1, e2⟩ := hsame
    rw [State.setFrames_setFrames] at e1
    have h2 : (T.setVm s.vm).sameButNew ({ U with vm := s.vm } : State) [] (0 + 1) (0 + 6) := ⟨e1, e2⟩
    have h3 := X.same.trans h2
    rw [List.append_nil] at h3
    exact h3.mono hc hs
  refine ⟨U, ?_, .threw T.heap.size, hrun, hend, Or.inr ⟨T.heap.size, rfl, cls, ce, locs, hx U hWs.alike f3 (fun q hq => f2 q hq (fun z hz => nomatch hz)), hce, hO.vm, hcl, hWs, hall, hf⟩⟩
  refine st1 _ ?_
  show Steps p.tables e below (T1.setTop { method := m, pc := pc + 3, locals := ls, stack := .ref T.heap.size :: rest, locked := none }) _
  jvm_step X₁.here [X₁.here.top, hexec, d3', Value.category]
  exact X₁.ldcStringW hexec (own := own) (text := text) (index := is) (a := sa) hown' hstr'.1 hstr'.2
    (g := { method := m, pc := pc + 4, locals := ls, stack := .ref T.heap.size :: .ref T.heap.size :: rest, locked := none }) rfl d4' _ hsteps
end PMX0
section PMX
variable {l : Launch} {Γ : pmG} {y z : pmY} {d pc : Nat} {ls st : List Value} {m : pmM}
theorem pm_noTrace (h : l.flags = flags0) : l.stackTraces = false := by
  unfold Launch.stackTraces
  rw [h]
  decide +kernel
abbrev pm_sup : List String := ["java/lang/RuntimeException", "java/lang/Exception"]
/-- what a throw of such an exception rests on -/
def pm_xOk (own cls text : String) (ik is ic : Nat) : Prop := Bundle.fit cls = true ∧ Cond.classLink own ik cls ∈ pm_tbl ∧ Cond.initialized cls ∈ pm_tbl ∧ (own, is, text) ∈ pm_msgs ∧ (∀ w ∈ vx_atS own ic cls pm_sup, w ∈ pm_tbl ∨ (w ∈ pm_nest ∧ w.onTables = true)) ∧ (Cond.classLink own ik cls :: Cond.initialized cls :: vx_atS own ic cls pm_sup).all vx_ot = true
theorem pm_SS {s : State} {H : Heap} {locs : List Loc} (hsz : s.heap.size ≤ H.size) (hba : Γ.2.2.2.size ≤ s.heap.size ∧ ∀ q : Nat, q < Γ.2.2.2.size → s.heap[q]? = Γ.2.2.2[q]?) (hH : pm_heap Γ s m H) (hlo : ∀ q ∈ locs, Γ.2.2.2.size ≤ q.base) : va_S (pm_A Γ) s.heap H locs :=
  ⟨hsz, fun q _ hA => by
    have hq : q < Γ.2.2.2.size := Nat.not_le.mp hA
    rw [hH.2.1 q hq, hba.2 q hq], hlo⟩
theorem pm_ks {s : State} (hba : Γ.2.2.2.size ≤ s.heap.size ∧ ∀ q : Nat, q < Γ.2.2.2.size → s.heap[q]? = Γ.2.2.2[q]?) : ∀ a : Nat, a < Γ.2.2.2.size → ¬ pm_A Γ a → s.heap[a]? = Γ.2.2.2[a]? := fun a ha _ => hba.2 a ha
theorem pm_throw {k ik is ic : Nat} {text : String} (hh : y.2.2.2.2 = []) (h : pm_xOk y.1.cls (pm_exn k) text ik is ic) (hdp : pm_dp st ≤ 50)
    (d0 : decode y.2.1 pc = .ok (.new ik, 3)) (d3 : decode y.2.1 (pc + 3) = .ok (.dup, 1)) (d4 : decode y.2.1 (pc + 4) = .ok (.ldc is, 2)) (d6 : decode y.2.1 (pc + 6) = .ok (.invokespecial ic, 3)) (d9 : decode y.2.1 (pc + 9) = .ok (.athrow, 1)) :
    pm_G l Γ y d pc ls st m (some (.inr k, pm_al m (199, 0, fun _ => none) 6)) := by
  intro o m' hr
  cases hr
  refine ⟨⟨by show m.1 ≤ m.1 + 1; omega, by show m.2.1 ≤ m.2.1 + 6; omega⟩, ?_⟩
  intro p e s mth args below meth c R H locs cells slots mc ms A hC a1 a2 a3 a4 a5 a6 a7
  have a6 : cells + (m.1 + 1) ≤ mc + m.1 := a6
  have a7 : slots + (m.2.1 + 6) ≤ ms + m.2.1 := a7
  obtain ⟨hx, hb, hr, hml, hown, hts, hlk, hnm, hE, hxt, hf1, hf2, hba, hfl⟩ := hC
  obtain ⟨x1, x2, x3, x4, x5, x6⟩ := h
  obtain ⟨sa, hsa⟩ := hE.2.2.2.2.2.1 _ x4
  intro T hT X
  have hsz : s.heap.size ≤ H.size := by rw [← hT]; exact (vx_frame X.same).1
  have hS := pm_SS hsz hba a3 a5
  have hxt' : c.exceptionTable.toList = [] := by rw [hh] at hxt; exact List.map_eq_nil_iff.mp hxt
  have hat : ∀ w ∈ vx_atS y.1.cls ic (pm_exn k) pm_sup, w.before args s = true := fun w hw => (x5 w hw).elim (fun q => hts w q) (fun q => va_Nw.use q.2 (hE.2.2.1 w q.1))
  have hU := vx_Zq.kept hE.2.2.2.2.2.2.1 (pm_ks hba)
  have hN := vx_Zq.kept hE.2.2.2.2.2.2.2.1 (pm_ks hba)
  have hXC : ∀ t : State, s.vm.Alike t.vm → t.heap.size = H.size + 1 → (∀ q : Nat, q < H.size → t.heap[q]? = H[q]?) → pm_X Γ (.inr k) (pm_al m (199, 0, fun _ => none) 6) (pm_exn k) s t := by
    intro t hal g1 g2
    have q1 := a3.1.1
    have q2 := a3.1.2
    refine ⟨⟨k, rfl, rfl⟩, ⟨⟨by show t.heap.size + pm_E = Γ.2.2.2.size + (m.1 + 1); omega, by show pm_E ≤ m.1 + 1; omega⟩, fun q hq => by rw [g2 q (by omega)]; exact a3.2.1 q hq, fun i hi hi2 => ?_⟩⟩
    by_cases him : i = m.1
    · subst him
      simp [pm_al] at hi2
    · have hi' : i < m.1 := by
        have : i < m.1 + 1 := hi
        omega
      have hsh : (pm_al m (199, 0, fun _ => none) 6).2.2.1 i = m.2.2.1 i := by simp [pm_al, him]
      rw [hsh] at hi2
      obtain ⟨ce, c1, c2⟩ := (pm_heap_moved hal a3).2.2 i hi' hi2
      exact ⟨ce, by rw [g2 _ (pm_old hE a3 hi')]; exact c1, pm_cell_congr hsh (by funext j; simp [pm_al, him]) (by funext j; simp [pm_al, him]) c2⟩
  exact pm_throwS (A := pm_A Γ) (names := pm_sup) (text := text) hx hb (pm_noTrace hfl) hown x1 (by decide +kernel) (hts _ x2) (hts _ x3) hsa hat (List.all_eq_true.mp x6) hU hN hS (a4.2.1.trans hml.symm) d0 d3 d4 d6 d9 (fun x hx9 => by rw [hxt'] at hx9; cases hx9) (by show 2 + 3 < _; omega) (by rw [pm_sum]; unfold pm_dp at hdp; show _ + (13 * (2 + 1) + 43) ≤ _; omega) (by omega) (by omega) hlk hXC a5 (by omega) (by omega) T hT X
theorem pm_throwW {k ik is ic : Nat} {text : String} (hh : y.2.2.2.2 = []) (h : pm_xOk y.1.cls (pm_exn k) text ik is ic) (hdp : pm_dp st ≤ 50)
    (d0 : decode y.2.1 pc = .ok (.new ik, 3)) (d3 : decode y.2.1 (pc + 3) = .ok (.dup, 1)) (d4 : decode y.2.1 (pc + 4) = .ok (.ldc_w is, 3)) (d7 : decode y.2.1 (pc + 7) = .ok (.invokespecial ic, 3)) (d10 : decode y.2.1 (pc + 10) = .ok (.athrow, 1)) :
    pm_G l Γ y d pc ls st m (some (.inr k, pm_al m (199, 0, fun _ => none) 6)) := by
  intro o m' hr
  cases hr
  refine ⟨⟨by show m.1 ≤ m.1 + 1; omega, by show m.2.1 ≤ m.2.1 + 6; omega⟩, ?_⟩
  intro p e s mth args below meth c R H locs cells slots mc ms A hC a1 a2 a3 a4 a5 a6 a7
  have a6 : cells + (m.1 + 1) ≤ mc + m.1 := a6
  have a7 : slots + (m.2.1 + 6) ≤ ms + m.2.1 := a7
  obtain ⟨hx, hb, hr, hml, hown, hts, hlk, hnm, hE, hxt, hf1, hf2, hba, hfl⟩ := hC
  obtain ⟨x1, x2, x3, x4, x5, x6⟩ := h
  obtain ⟨sa, hsa⟩ := hE.2.2.2.2.2.1 _ x4
  intro T hT X
  have hsz : s.heap.size ≤ H.size := by rw [← hT]; exact (vx_frame X.same).1
  have hS := pm_SS hsz hba a3 a5
  have hxt' : c.exceptionTable.toList = [] := by rw [hh] at hxt; exact List.map_eq_nil_iff.mp hxt
  have hat : ∀ w ∈ vx_atS y.1.cls ic (pm_exn k) pm_sup, w.before args s = true := fun w hw => (x5 w hw).elim (fun q => hts w q) (fun q => va_Nw.use q.2 (hE.2.2.1 w q.1))
  have hU := vx_Zq.kept hE.2.2.2.2.2.2.1 (pm_ks hba)
  have hN := vx_Zq.kept hE.2.2.2.2.2.2.2.1 (pm_ks hba)
  have hXC : ∀ t : State, s.vm.Alike t.vm → t.heap.size = H.size + 1 → (∀ q : Nat, q < H.size → t.heap[q]? = H[q]?) → pm_X Γ (.inr k) (pm_al m (199, 0, fun _ => none) 6) (pm_exn k) s t := by
    intro t hal g1 g2
    have q1 := a3.1.1
    have q2 := a3.1.2
    refine ⟨⟨k, rfl, rfl⟩, ⟨⟨by show t.heap.size + pm_E = Γ.2.2.2.size + (m.1 + 1); omega, by show pm_E ≤ m.1 + 1; omega⟩, fun q hq => by rw [g2 q (by omega)]; exact a3.2.1 q hq, fun i hi hi2 => ?_⟩⟩
    by_cases him : i = m.1
    · subst him
      simp [pm_al] at hi2
    · have hi' : i < m.1 := by
        have : i < m.1 + 1 := hi
        omega
      have hsh : (pm_al m (199, 0, fun _ => none) 6).2.2.1 i = m.2.2.1 i := by simp [pm_al, him]
      rw [hsh] at hi2
      obtain ⟨ce, c1, c2⟩ := (pm_heap_moved hal a3).2.2 i hi' hi2
      exact ⟨ce, by rw [g2 _ (pm_old hE a3 hi')]; exact c1, pm_cell_congr hsh (by funext j; simp [pm_al, him]) (by funext j; simp [pm_al, him]) c2⟩
  exact pm_throwSW (A := pm_A Γ) (names := pm_sup) (text := text) hx hb (pm_noTrace hfl) hown x1 (by decide +kernel) (hts _ x2) (hts _ x3) hsa hat (List.all_eq_true.mp x6) hU hN hS (a4.2.1.trans hml.symm) d0 d3 d4 d7 d10 (fun x hx9 => by rw [hxt'] at hx9; cases hx9) (by show 2 + 3 < _; omega) (by rw [pm_sum]; unfold pm_dp at hdp; show _ + (13 * (2 + 1) + 43) ≤ _; omega) (by omega) (by omega) hlk hXC a5 (by omega) (by omega) T hT X
end PMX
