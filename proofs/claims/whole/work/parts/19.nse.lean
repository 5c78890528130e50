/-! the constructor of NoSuchElementException: entry 13 leads to the constructor above -/
section PNS
variable {p : Program} {l : Launch} {e : Env} {R : Room} {s : State} {m₀ : MethodId} {args : Array Value} {below : List Frame} {meth : Method} {c : Code} {W : State} {locs : List Loc} {cells slots : Nat}
theorem pm_b13_0 : decode pm_b13 0 = .ok (.aload_n 0, 1) := by decide +kernel
theorem pm_b13_1 : decode pm_b13 1 = .ok (.aload_n 1, 1) := by decide +kernel
theorem pm_b13_2 : decode pm_b13 2 = .ok (.invokespecial 13, 3) := by decide +kernel
theorem pm_b13_5 : decode pm_b13 5 = .ok (.return_, 1) := by decide +kernel
def pm_atN0 (own : String) (ic : Nat) : List Cond := Bundle.throwableAtoms ++ Bundle.throwableSAtoms ++ Bundle.passSAtoms "java/util/NoSuchElementException" "java/lang/RuntimeException" 13 pm_b13 ++ Bundle.chainSAtoms "java/lang/RuntimeException" ["java/lang/Exception"] ++
  ([.methodLink own ic (Bundle.initS "java/util/NoSuchElementException"), .instantiable "java/util/NoSuchElementException" 6, .castable "java/util/NoSuchElementException" "java/util/NoSuchElementException", .selects "java/util/NoSuchElementException" Bundle.tFill0 Bundle.tFill0, .selects "java/util/NoSuchElementException" Bundle.tFill Bundle.tFill,
   .lays "java/util/NoSuchElementException" Bundle.tN "cause" "Ljava/lang/Throwable;", .lays "java/util/NoSuchElementException" Bundle.tN "stackTrace" Bundle.steD, .lays "java/util/NoSuchElementException" Bundle.tN "suppressedExceptions" Bundle.listD, .lays "java/util/NoSuchElementException" Bundle.tN "detailMessage" "Ljava/lang/String;",
   .isRef (.static Bundle.tN "UNASSIGNED_STACK" Bundle.steD), .isRef (.static Bundle.tN "SUPPRESSED_SENTINEL" Bundle.listD),
   .fieldLink Bundle.tN 198 Bundle.tN "backtrace" "Ljava/lang/Object;", .lays Bundle.tN Bundle.tN "backtrace" "Ljava/lang/Object;", .lays "java/util/NoSuchElementException" Bundle.tN "backtrace" "Ljava/lang/Object;"] : List Cond)
set_option maxHeartbeats 4000000 in
theorem pm_ctorN (X : Stand p l e R s m₀ args below meth c W locs cells slots) (hexec : p.tables.exec = Jvm.exec) (htr : e.platform.stackTraces = false) {own : String} {ic : Nat}
    (hown : s.vm.findClass own = some m₀.cls) (h : ∀ a ∈ pm_atN0 own ic, a.before args s = true)
    (hlocs : ∀ x ∈ locs, ∀ cell, s.heap[x.base]? = some cell → cell.vm.isStatics = false)
    {a : Addr} {cX : ClassId} {kX : Class} (hfoundX : s.vm.findClass "java/util/NoSuchElementException" = some cX) (hkX : s.vm.classes[cX]? = some kX) (hcell : W.heap[a]? = some (freshCell cX kX)) (hnew : s.heap.size ≤ a)
    {msg : Value} (hmsg : msg.isRef = true)
    {g : JFrame} (hg : g.method = m₀) (hsize : g.locals.size = c.maxLocals) (hlocked : g.locked = none) (hentered : g.entered = []) {rest : List Value} (hstack : g.stack = msg :: .ref a :: .ref a :: rest)
    (hd6 : decode c.code g.pc = .ok (.invokespecial ic, 3)) (hd9 : decode c.code (g.pc + 3) = .ok (.athrow, 1)) (hout : ∀ x ∈ c.exceptionTable.toList, covers x (g.pc + 3) = false)
    (hRframes : 5 < R.frames) (hRlocals : 2 * g.monitorRoom + ((Value.ref a :: rest).map fun v => v.category).sum + (13 * 3 + 42) ≤ R.locals) (hlocks : meth.locks = false) :
    ∃ U : State, Steps p.tables e below (W.setTop g) U ∧ U.status = .running ∧ Ended U below (.threw a) ∧ s.WarmedH U.vm ∧ s.sameButNew ({ U with vm := s.vm } : State) locs cells slots ∧
      ∃ ce, U.heap[a]? = some ce ∧ ce.vm = .none ∧ s.vm.findClass "java/util/NoSuchElementException" = some ce.cls := by
  have howns : e.platform.frameOwnsMonitors = true := by rw [X.admits.platform]
  have hfin : e.platform.finalization = false := by rw [X.admits.platform]
  have hpl : e.platform.magicAccessors = ({} : Platform).magicAccessors := by rw [X.admits.platform]
  have a' : ∀ x, x ∈ pm_atN0 own ic → x.holds args s none s [] = true := fun x hx => h x hx
  obtain ⟨T, Z0, L, -, Y⟩ := ThrowableC.of_atoms (args := args) howns hfin hpl (fun x hx => h x (by simp [pm_atN0, hx]))
  obtain ⟨Z, M, LZ, LM, hnZ⟩ := Init0T.ofS_atoms (args := args) hpl L Y (fun x hx => h x (by simp [pm_atN0, hx]))
  obtain ⟨P1, L1, hP1m, hs0⟩ := PassC.ofS_atoms (args := args) (s := s) hpl (X := "java/util/NoSuchElementException") (Y := "java/lang/RuntimeException") (by decide +kernel) (by decide +kernel) pm_b13_0 pm_b13_1 pm_b13_2 pm_b13_5 (fun x hx => h x (by simp [pm_atN0, hx]))
  obtain ⟨P2, Ps2, hlen2, L2, hL2, hm2, hlink2, hlink3⟩ := Bundle.chainS (args := args) hpl hnZ ["java/lang/Exception"] "java/lang/RuntimeException" (by decide +kernel) (by decide +kernel) (fun x hx => h x (by simp [pm_atN0, hx]))
  obtain ⟨Ps, hPs⟩ : ∃ Ps, Ps = P2 :: Ps2 := ⟨_, rfl⟩
  have hlen : Ps.length = 2 := by rw [hPs, List.length_cons, hlen2]; rfl
  have hL : ∀ P, P ∈ Ps → P.LinksS e.platform s := by
    intro P hP
    rw [hPs] at hP
    rcases List.mem_cons.mp hP with rfl | hP
    · exact L2
    · exact hL2 P hP
  have hlink1 : P1.sup = firstOf (Z.m T.toThrowableT) (Ps.map (·.toPassT)) := by rw [hPs]; exact Option.some.inj (hs0.symm.trans hm2)
  have hlink : PassesOn (Z.m T.toThrowableT) (Ps.map (·.toPassT)) := by rw [hPs]; exact ⟨hlink2, hlink3⟩
              
  have hfound : s.vm.findClass "java/util/NoSuchElementException" = some P1.m.cls := findClass_of_methodNamed hP1m
  cases Option.some.inj (hfoundX.symm.trans hfound)
  obtain ⟨c1, kX', hc1, hk, hord, -, -, hn6⟩ := Cond.instantiable_spec (a' (.instantiable "java/util/NoSuchElementException" 6) (by simp [pm_atN0]))
  cases Option.some.inj (hc1.symm.trans hfound)
  cases Option.some.inj (hkX.symm.trans hk)
  have hsel0 : selectMethod e.platform s.vm P1.m.cls T.fill0 = .method T.fill0 := by
    obtain ⟨c2, r2, m2, q1, q2, q3, q4, -⟩ := Cond.selects_spec (a' (.selects "java/util/NoSuchElementException" Bundle.tFill0 Bundle.tFill0) (by simp [pm_atN0]))
    cases Option.some.inj (q1.symm.trans hfound)
    cases Option.some.inj (q2.symm.trans (State.methodFound?_of_named Y.fill0 (by decide)))
    cases Option.some.inj (q3.symm.trans Y.fill0)
    rw [Launch.admits_selectMethod X.admits]; exact q4
  have hselF : selectMethod e.platform s.vm P1.m.cls T.fill = .method T.fill := by
    obtain ⟨c2, r2, m2, q1, q2, q3, q4, -⟩ := Cond.selects_spec (a' (.selects "java/util/NoSuchElementException" Bundle.tFill Bundle.tFill) (by simp [pm_atN0]))
    cases Option.some.inj (q1.symm.trans hfound)
    cases Option.some.inj (q2.symm.trans (State.methodFound?_of_named Y.fill (by decide)))
    cases Option.some.inj (q3.symm.trans Y.fill)
    rw [Launch.admits_selectMethod X.admits]; exact q4
  obtain ⟨cellS0, hcS0, hiss⟩ := Y.statics
  obtain ⟨u0, hu0⟩ := Cond.staticRefV Y.unassigned L.unassignedStatic L.statics hcS0 hiss (a' (.isRef (.static Bundle.tN "UNASSIGNED_STACK" Bundle.steD)) (by simp [pm_atN0]))
  obtain ⟨sen, hsen⟩ := Cond.staticRefV Y.sentinel L.sentinelStatic L.statics hcS0 hiss (a' (.isRef (.static Bundle.tN "SUPPRESSED_SENTINEL" Bundle.listD)) (by simp [pm_atN0]))
  obtain ⟨ci198, i198, fB, hk198, hg198, ha198, hsB, -, hnB, htB, hffB⟩ := Cond.ownField (t := .object "java/lang/Object") Y.found L.cls (by decide +kernel) (a' (.fieldLink Bundle.tN 198 Bundle.tN "backtrace" "Ljava/lang/Object;") (by simp [pm_atN0])) (a' (.lays Bundle.tN Bundle.tN "backtrace" "Ljava/lang/Object;") (by simp [pm_atN0])) e.platform hpl
  obtain ⟨cellS, hcS', heS, -, hkeep⟩ := X.same.2.2.2.2.2 T.aS cellS0 hcS0
  have hcellS : W.heap[T.aS]? = some cellS := hcS'
  have hout' : ∀ i, (⟨T.aS, i⟩ : Loc) ∉ locs := fun i hmem => by
    have := hlocs _ hmem cellS0 hcS0
    rw [hiss] at this; cases this
  have hknownS : cellS.vm ≠ .unknown := by
    rw [heS]; intro hu
    rw [show cellS0.vm = .unknown from hu] at hiss
    cases hiss
  have hneS : T.aS ≠ a := Nat.ne_of_lt (Nat.lt_of_lt_of_le (Array.getElem?_eq_some_iff.mp hcS0).1 hnew)
  obtain ⟨iM, hffM⟩ := Y.msg
  obtain ⟨tyC, dC, hdC, hdnC⟩ := Cond.laysAt hfound hk Y.cause (a' (.lays "java/util/NoSuchElementException" Bundle.tN "cause" "Ljava/lang/Throwable;") (by simp [pm_atN0]))
  obtain ⟨tyS, dS, hdS, hdnS⟩ := Cond.laysAt hfound hk Y.stack (a' (.lays "java/util/NoSuchElementException" Bundle.tN "stackTrace" Bundle.steD) (by simp [pm_atN0]))
  obtain ⟨tyP, dP, hdP, hdnP⟩ := Cond.laysAt hfound hk Y.supp (a' (.lays "java/util/NoSuchElementException" Bundle.tN "suppressedExceptions" Bundle.listD) (by simp [pm_atN0]))
  obtain ⟨tyM, dM, hdM, hdnM⟩ := Cond.laysAt hfound hk hffM (a' (.lays "java/util/NoSuchElementException" Bundle.tN "detailMessage" "Ljava/lang/String;") (by simp [pm_atN0]))
  obtain ⟨tyB, dB, hdB, hdnB⟩ := Cond.laysAt hfound hk hffB (a' (.lays "java/util/NoSuchElementException" Bundle.tN "backtrace" "Ljava/lang/Object;") (by simp [pm_atN0]))
  have bC := Cond.laysApart hdB hdC hdnB hdnC (by rw [hnB, Y.causeName]; decide)
  have bS := Cond.laysApart hdB hdS hdnB hdnS (by rw [hnB, Y.stackName]; decide)
  have bP := Cond.laysApart hdB hdP hdnB hdnP (by rw [hnB, Y.suppName]; decide)
  have hskip : SkipFacts T e.platform s (fun u => u) u0 ((preparedCellV T.toThrowableT (freshCell P1.m.cls kX) a u0 sen).withEntry W.cur) :=
    ⟨{ ci198 := ci198, i198 := i198, fBack := fB }, ⟨hk198, hg198, ha198, hsB⟩, by
      have := fresh_default (c := P1.m.cls) tyB
      rw [htB] at this
      simpa [preparedCellV, Cell.setSlot, Cell.withEntry, Array.getElem?_setIfInBounds, bC, bS, bP, bC.symm, bS.symm, bP.symm, defaultValue] using this, fun _ _ => rfl⟩
                                     
  obtain ⟨tm, methC, cdC, kC, vm₁, hnC, -, -, -, -, -, -, -, hW₁, st1⟩ := Steps.initColdS (tb := p.tables) (e := e) (below := below) (s := s) (U := W) X.here hexec X.warmed hpl hown (t := Bundle.initS "java/util/NoSuchElementException") rfl rfl (by decide +kernel)
    (a' (.methodLink own ic (Bundle.initS "java/util/NoSuchElementException")) (by simp [pm_atN0])) (h (.instanceMethod (Bundle.initS "java/util/NoSuchElementException")) (by simp [pm_atN0, Bundle.passSAtoms])) (bytes := pm_b13) (maxL := 2) (h (.code (Bundle.initS "java/util/NoSuchElementException") pm_b13 2 none) (by simp [pm_atN0, Bundle.passSAtoms]))
    (f := g) hg (a := a) (msg := msg) (rest := .ref a :: rest) hstack hd6
  cases Option.some.inj (hnC.symm.trans hP1m)
  have X₁ := X.noted hW₁
                                 
  obtain ⟨vm₂, X₂, st2⟩ := X₁.ctorMessageOffV hexec (g := { g with stack := .ref a :: rest }) hg hsize T L Z LZ M LM (P1 :: Ps)
    (fun P hP => by rcases List.mem_cons.mp hP with rfl | hP; exact L1; exact hL P hP) ⟨hlink1, hlink⟩ (u0 := u0) (sen := sen) (self := a) hmsg (cell := freshCell P1.m.cls kX) (cellS := cellS)
    hcell (fun _ => by simp) (by simp) rfl rfl hsel0 hselF hcellS hneS hknownS (by rw [hkeep _ (hout' _)]; exact hu0) (by rw [hkeep _ (hout' _)]; exact hsen)
    (Takes.of_laid hk hord tyC (by rw [Y.causeType]; rfl)) (Takes.of_laid hk hord tyS (by rw [Y.stackType]; exact fits_refV_array _ u0)) (Takes.of_laid hk hord tyP (by rw [Y.suppType]; exact fits_refV_object _ sen))
    (Takes.of_laid hk hord tyM (by rw [Y.msgType]; exact fits_refV_object _ ⟨msg, hmsg⟩)) Y.objLocals hskip htr [] hd6
    (by simp only [List.length_cons, hlen]; omega) (by simp only [List.length_cons, hlen]; exact hRlocals)
                                    
  obtain ⟨hwalk, hrun, hended, hWU, hsame⟩ := X₂.athrowLeaves hexec (g := { g with stack := .ref a :: rest, pc := g.pc + 3 }) hg hlocked hentered hout (a := a) (rest := rest) rfl hd9
  obtain ⟨c3, c4, hc3, hc4, hasg⟩ := Cond.castable_spec (a' (.castable "java/util/NoSuchElementException" "java/util/NoSuchElementException") (by simp [pm_atN0]))
  cases Option.some.inj (hc3.symm.trans hfound)
  cases Option.some.inj (hc4.symm.trans hfound)
  have hlt : a < ((W.setVm vm₁).setVm vm₂).heap.size := (Array.getElem?_eq_some_iff.mp hcell).1
  have hU := heapAt_setCell_self (s := (W.setVm vm₁).setVm vm₂) (plainBareV T.toThrowableT (freshCell P1.m.cls kX) a u0 sen msg) hlt
  refine ⟨_, st1 _ (fun acts => ?_), hrun, hended, hWU, hsame.weaken (fun y hy hlt' => ?_) (Nat.le_refl _) (Nat.le_refl _), _, hU, ?_⟩
  · rw [doInvoke_state]
    exact st2 _ hwalk
  · rcases List.mem_append.mp hy with h1 | h1
    · exact h1
    · exfalso
      have hb : y.base = a := by
        simp only [List.mem_cons, List.not_mem_nil, or_false] at h1
        rcases h1 with rfl | rfl | rfl | rfl | rfl <;> rfl
      rw [hb] at hlt'
      exact Nat.not_lt.mpr hnew hlt'
  · exact ⟨rfl, hfound⟩
end PNS
section PNS2
variable {p : Program} {l : Launch} {e : Env} {R : Room} {s : State} {m : MethodId} {args : Array Value} {below : List Frame} {meth : Method} {c : Code} {H : Heap} {locs : List Loc} {cells slots : Nat} {Q : State → Prop}
variable {mc ms : Nat} {free : Addr → Prop} {A0 A1 : Nat → Prop} {H0 : Heap} {a : Array Value} {ls : Array Slot} {st0 rest : List Value}
variable {Qc : Array Value → State → Outcome → State → Prop} {XC : String → State → State → Prop}
theorem pm_atN_in {own : String} {ic : Nat} {w : Cond} (h : w ∈ (pm_atN0 own ic).filter vx_no) : w ∈ pm_atN own ic := by
  obtain ⟨h1, h2⟩ := List.mem_filter.mp h
  unfold pm_atN
  refine List.mem_filter.mpr ⟨?_, h2⟩
  unfold pm_atN0 at h1
  simp only [List.mem_append, List.mem_cons, List.not_mem_nil, or_false] at h1 ⊢
  rcases h1 with h1 | h1
  · exact Or.inl h1
  · refine Or.inr ?_
    rcases h1 with h1 | h1 | h1 | h1 | h1 | h1 | h1 | h1 | h1 | h1 | h1 | h1 | h1 | h1
    · simp [h1]
    · simp [h1]
    · simp [h1]
    · simp [h1]
    · simp [h1]
    · simp [h1]
    · simp [h1]
    · simp [h1]
    · simp [h1]
    · rw [h1] at h2; simp [vx_no] at h2
    · rw [h1] at h2; simp [vx_no] at h2
    · simp [h1]
    · simp [h1]
    · simp [h1]
theorem pm_throwNSW {cc : ByteArray} {pc : Nat} (hexec : p.tables.exec = Jvm.exec) (hb : c.code = cc) (hl : l.stackTraces = false) {own text : String} {ik is ic mc ms sa : Nat} {A : Nat → Prop}
    (hown : s.vm.findClass own = some m.cls)
    (hk : (Cond.classLink own ik "java/util/NoSuchElementException").before args s = true) (hini : (Cond.initialized "java/util/NoSuchElementException").before args s = true) (hstr : vk_R own is text sa s) (hat : ∀ w ∈ pm_atN own ic, w.before args s = true)
    (hgood : ∀ w ∈ Cond.classLink own ik "java/util/NoSuchElementException" :: Cond.initialized "java/util/NoSuchElementException" :: pm_atN own ic, vx_ot w = true)
    (hU : vx_Zq Bundle.tN "UNASSIGNED_STACK" Bundle.steD A s s.heap) (hN : vx_Zq Bundle.tN "SUPPRESSED_SENTINEL" Bundle.listD A s s.heap) (hS : va_S A s.heap H locs) (hsize : ls.size = c.maxLocals)
    (d0 : decode cc pc = .ok (.new ik, 3)) (d3 : decode cc (pc + 3) = .ok (.dup, 1)) (d4 : decode cc (pc + 4) = .ok (.ldc_w is, 3)) (d7 : decode cc (pc + 7) = .ok (.invokespecial ic, 3)) (d10 : decode cc (pc + 10) = .ok (.athrow, 1))
    (hout : ∀ x ∈ c.exceptionTable.toList, covers x (pc + 10) = false)
    (hRframes : 5 < R.frames) (hRlocals : (rest.map fun v => v.category).sum + (13 * 3 + 43) ≤ R.locals) (hRcells : cells + 1 ≤ R.cells) (hRslots : slots + 6 ≤ R.slots) (hlocks : meth.locks = false)
    (hx : ∀ t : State, s.vm.Alike t.vm → t.heap.size = H.size + 1 → (∀ q : Nat, q < H.size → t.heap[q]? = H[q]?) → XC "java/util/NoSuchElementException" s t)
    (hf : ∀ z ∈ locs, free z.base) (hc : cells + 1 ≤ mc) (hs : slots + 6 ≤ ms) :
    W p l e R s m args below meth c H locs cells slots (vx_MQ below Qc XC args s mc ms free) (F0 m pc ls rest) := by
  intro T hT X
  have htr : e.platform.stackTraces = false := (show e.platform.stackTraces = l.stackTraces by rw [X.admits.platform]).trans hl
  have Y := vx_rebase X (R' := { frames := R.frames, locals := R.locals, cells := 1, slots := 6 }) (Nat.le_refl _) (Nat.le_refl _) hRcells hRslots
  obtain ⟨s', hA⟩ : ∃ z, z = (T.setVm s.vm).setFrames (.invoking m args :: below) := ⟨_, rfl⟩
  rw [← hA] at Y
  have hvm : s'.vm = s.vm := by rw [hA]; rfl
  have hhp : s'.heap = H := by rw [hA]; exact hT
  have hW0 : s.WarmedH s'.vm := by rw [hvm]; exact State.WarmedH.refl s
  have hat' : ∀ w ∈ pm_atN own ic, w.before args s' = true := fun w hw => vx_ot_at hW0 hvm.symm (hgood w (List.mem_cons_of_mem _ (List.mem_cons_of_mem _ hw))) (hat w hw)
  have hk' : (Cond.classLink own ik "java/util/NoSuchElementException").before args s' = true := vx_ot_at hW0 hvm.symm (hgood _ List.mem_cons_self) hk
  have hini' : (Cond.initialized "java/util/NoSuchElementException").before args s' = true := vx_ot_at hW0 hvm.symm (hgood _ (List.mem_cons_of_mem _ List.mem_cons_self)) hini
  have hU' : vx_Zq Bundle.tN "UNASSIGNED_STACK" Bundle.steD A s' s'.heap := by rw [hhp]; exact vx_Zq.moved hW0.alike (hU.kept hS.2.1)
  have hN' : vx_Zq Bundle.tN "SUPPRESSED_SENTINEL" Bundle.listD A s' s'.heap := by rw [hhp]; exact vx_Zq.moved hW0.alike (hN.kept hS.2.1)
  have h : ∀ w ∈ pm_atN0 own ic, w.before args s' = true := vx_own (L := pm_atN0 own ic) (fun w hw => hat' w (pm_atN_in hw)) (vx_isRefq hU'.1) (vx_isRefq hN'.1) hU'.2.word hN'.2.word
  have hown' : s'.vm.findClass own = some m.cls := by rw [hvm]; exact hown
  have hins : (Cond.instantiable "java/util/NoSuchElementException" 6).before args s' = true := h _ (by simp [pm_atN0])
  obtain ⟨vm₁, cX, kX, hfX, hkX, -, -, X₁, st1⟩ := Y.newCold hexec (own := own) (C := "java/util/NoSuchElementException") (index := ik) (n := 6) hown' hk' hins hini'
    (g := F0 m pc ls rest) rfl (by rw [hb]; exact d0) (Nat.le_refl _) (Nat.le_refl _)
  generalize hT1 : (T.setVm vm₁).pushCell { cls := cX, slots := kX.instanceTypes.map defaultValue, vm := .none } = T1 at X₁ st1
  have hcat : (Value.ref T.heap.size).category = 1 := rfl
  have hcellA : T1.heap[T.heap.size]? = some (freshCell cX kX) := by rw [← hT1]; exact State.heap_pushCell_size _ _
  have d3' : decode c.code (pc + 3) = .ok (.dup, 1) := by rw [hb]; exact d3
  have d4' : decode c.code (pc + 4) = .ok (.ldc_w is, 3) := by rw [hb]; exact d4
  have hstr' : vk_R own is text sa s' := vk_R.warm hW0 hstr
  obtain ⟨U, hsteps, hrun, hend, hW, hsame, ce, hce, hOv, hOc⟩ := pm_ctorN X₁ hexec htr (own := own) (ic := ic) hown' h (fun x hx => nomatch hx) hfX hkX hcellA (by rw [hhp, hT]; exact Nat.le_refl _) (msg := .ref sa) rfl
    (g := { method := m, pc := pc + 7, locals := ls, stack := .ref sa :: .ref T.heap.size :: .ref T.heap.size :: rest, locked := none }) rfl hsize rfl rfl (rest := rest) rfl
    (by rw [hb]; exact d7) (by rw [hb]; exact d10) hout hRframes (by simp only [List.map_cons, List.sum_cons, hcat]; omega) hlocks
  obtain ⟨f1, f2⟩ := vx_frame hsame
  rw [hhp] at f1 f2
  have f3 : U.heap.size = H.size + 1 := by
    have g1 : U.heap.size ≤ s'.heap.size + 1 := hsame.2.2.1
    have g2 := (Array.getElem?_eq_some_iff.mp hce).1
    rw [hhp] at g1
    rw [hT] at g2
    omega
  have hWs : s.WarmedH U.vm := State.WarmedH.trans hW0 hW
  have hcl : s.vm.findClass "java/util/NoSuchElementException" = some ce.cls := by
    have h9 := hOc
    rw [hvm] at h9
    exact h9
  have hall : s.sameButNew ({ U with vm := s.vm } : State) locs mc ms := by
    subst hA
    obtain ⟨e1, e2⟩ := hsame
    rw [State.setFrames_setFrames] at e1
    have h2 : (T.setVm s.vm).sameButNew ({ U with vm := s.vm } : State) [] (0 + 1) (0 + 6) := ⟨e1, e2⟩
    have h3 := X.same.trans h2
    rw [List.append_nil] at h3
    exact h3.mono hc hs
  refine ⟨U, ?_, .threw T.heap.size, hrun, hend, Or.inr ⟨T.heap.size, rfl, "java/util/NoSuchElementException", ce, locs, hx U hWs.alike f3 (fun q hq => f2 q hq (fun z hz => nomatch hz)), hce, hOv, hcl, hWs, hall, hf⟩⟩
  refine st1 _ ?_
  show Steps p.tables e below (T1.setTop { method := m, pc := pc + 3, locals := ls, stack := .ref T.heap.size :: rest, locked := none }) _
  jvm_step X₁.here [X₁.here.top, hexec, d3', Value.category]
  exact X₁.ldcStringW hexec (own := own) (text := text) (index := is) (a := sa) hown' hstr'.1 hstr'.2
    (g := { method := m, pc := pc + 4, locals := ls, stack := .ref T.heap.size :: .ref T.heap.size :: rest, locked := none }) rfl d4' _ hsteps
end PNS2
section PNS3
variable {l : Launch} {Γ : pmG} {y z : pmY} {d pc : Nat} {ls st : List Value} {m : pmM}
theorem pm_throwNW {ik is ic : Nat} {text : String} (hh : y.2.2.2.2 = []) (h : pm_xOkN y.1.cls text ik is ic) (hdp : pm_dp st ≤ 50)
    (d0 : decode y.2.1 pc = .ok (.new ik, 3)) (d3 : decode y.2.1 (pc + 3) = .ok (.dup, 1)) (d4 : decode y.2.1 (pc + 4) = .ok (.ldc_w is, 3)) (d7 : decode y.2.1 (pc + 7) = .ok (.invokespecial ic, 3)) (d10 : decode y.2.1 (pc + 10) = .ok (.athrow, 1)) :
    pm_G l Γ y d pc ls st m (some (.inr 0, pm_al m (199, 0, fun _ => none) 6)) := by
  intro o m' hr
  cases hr
  refine ⟨⟨by show m.1 ≤ m.1 + 1; omega, by show m.2.1 ≤ m.2.1 + 6; omega⟩, ?_⟩
  intro p e s mth args below meth c R H locs cells slots mc ms A hC a1 a2 a3 a4 a5 a6 a7
  have a6 : cells + (m.1 + 1) ≤ mc + m.1 := a6
  have a7 : slots + (m.2.1 + 6) ≤ ms + m.2.1 := a7
  obtain ⟨hx, hb, hr, hml, hown, hts, hlk, hnm, hE, hxt, hf1, hf2, hba, hfl⟩ := hC
  obtain ⟨x2, x3, x4, x5, x6⟩ := h
  obtain ⟨sa, hsa⟩ := hE.2.2.2.2.2.1 _ x4
  intro T hT X
  have hsz : s.heap.size ≤ H.size := by rw [← hT]; exact (vx_frame X.same).1
  have hS := pm_SS hsz hba a3 a5
  have hxt' : c.exceptionTable.toList = [] := by rw [hh] at hxt; exact List.map_eq_nil_iff.mp hxt
  have hat : ∀ w ∈ pm_atN y.1.cls ic, w.before args s = true := fun w hw => (x5 w hw).elim (fun q => hts w q) (fun q => va_Nw.use q.2 (hE.2.2.1 w q.1))
  have hU := vx_Zq.kept hE.2.2.2.2.2.2.1 (pm_ks hba)
  have hN := vx_Zq.kept hE.2.2.2.2.2.2.2.1 (pm_ks hba)
  have hXC : ∀ t : State, s.vm.Alike t.vm → t.heap.size = H.size + 1 → (∀ q : Nat, q < H.size → t.heap[q]? = H[q]?) → pm_X Γ (.inr 0) (pm_al m (199, 0, fun _ => none) 6) (pm_exn 0) s t := by
    intro t hal g1 g2
    have q1 := a3.1.1
    have q2 := a3.1.2
    refine ⟨⟨0, rfl, rfl⟩, ⟨⟨by show t.heap.size + pm_E = Γ.2.2.2.size + (m.1 + 1); omega, by show pm_E ≤ m.1 + 1; omega⟩, fun q hq => by rw [g2 q (by omega)]; exact a3.2.1 q hq, fun i hi hi2 => ?_⟩⟩
    by_cases him : i = m.1
    · subst him
      simp [pm_al] at hi2
    · have hi' : i < m.1 := by
        have : i < m.1 + 1 := hi
        omega
      have hsh : (pm_al m (199, 0, fun _ => none) 6).2.2.1 i = m.2.2.1 i := by simp [pm_al, him]
      rw [hsh] at hi2
      obtain ⟨ce, c1, c2⟩ := (pm_heap_moved hal a3).2.2 i hi' hi2
      exact ⟨ce, by rw [g2 _ (pm_old hE a3 hi')]; exact c1, pm_cell_congr hsh (by funext j; simp [pm_al, him]) (by funext j; simp [pm_al, him]) c2⟩
  exact pm_throwNSW (A := pm_A Γ) (text := text) hx hb (pm_noTrace hfl) hown (hts _ x2) (hts _ x3) hsa hat (List.all_eq_true.mp x6) hU hN hS (a4.2.1.trans hml.symm) d0 d3 d4 d7 d10 (fun x hx9 => by rw [hxt'] at hx9; cases hx9) (by omega) (by rw [pm_sum]; unfold pm_dp at hdp; show _ + (13 * 3 + 43) ≤ _; omega) (by omega) (by omega) hlk hXC a5 (by omega) (by omega) T hT X
end PNS3
/-! throw new NoSuchElementException(".."); a method of which an argument is not asked -/
section PMN
variable {l : Launch} {Γ : pmG} {y z : pmY} {d pc : Nat} {ls st : List Value} {m : pmM}
theorem pm_enterS {args : List Value} {res : pmR} (hfl : l.flags = flags0) (hp : plainName z.1.cls = true) (hh : z.2.2.2.2 = []) (hlen : ls.length ≤ z.2.2.1) (hls : ∀ q ∈ pm_pairs Γ ls, q ∈ lv_args 0 (args.map (pm_mv Γ))) (hfit : (lg_sl (args.map (pm_mv Γ))).length ≤ z.2.2.1)
    (k : pm_G l Γ z d 0 ls [] m res) : pm_C l Γ z d args m res := by
  intro o m' hr
  obtain ⟨h1, h2⟩ := k o m' hr
  refine ⟨h1, vx_ofW (cc := z.2.1) (maxL := z.2.2.1) (ret := z.2.2.2.1) (ws' := pm_tbl) hp (by unfold pm_ws; rw [if_pos hh]) ?_⟩
  intro p e s mth a below meth c s₁ B hml hxt hv
  obtain ⟨rfl, hE, hH⟩ := hv
  have hts := atoms_spec (ws := pm_ws z) B.pre
  have hl := lv_entry (args.map (pm_mv Γ)) (n := z.2.2.1) hfit
  rw [lg_entry_eq]
  refine h2 p e s mth _ below meth c _ s.heap [] 0 0 _ _ _ ⟨B.exec, B.bytes, B.returns, hml, findClass_of_methodNamed B.named, fun w hw => hts w (List.mem_cons_of_mem _ hw), B.notSynchronized, (name_of_methodNamed B.named B.method).1, hE, ?_, Nat.le_refl _, Nat.le_refl _, ⟨by have q1 := hH.1.1; have q2 := hH.1.2; omega, hH.2.1⟩, hfl⟩ (Nat.le_refl _) (Nat.le_refl _) hH ⟨hlen, hl.1, hl.2.1, fun q hq => hl.2.2 q (hls q hq)⟩ (fun q h => by cases h) (by omega) (by omega)
  rw [hh]
  have : c.exceptionTable.toList = [] := by
    cases hc : c.exceptionTable.toList with
    | nil => rfl
    | cons x r => exact (hxt x (by rw [hc]; exact List.mem_cons_self)).elim
  rw [this]
  rfl
end PMN
