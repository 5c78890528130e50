/-! THE PURE MACHINE: a memory of numbered cells (shapes, ints, longs); a judgement pm_G that ties a frame over such a memory to the result that a pure function gives. -/
/-- a cell's shape: its kind (below 100 the number of its class; 100 int[], 101 boolean[], 102 long[], 103 int[][], 104 long[][], 105 byte[]; above: nothing is said of it), its length, its references -/
abbrev pmS : Type := Nat × Nat × (Nat → Option Nat)
/-- cells, slots, shapes, ints, longs -/
abbrev pmM : Type := Nat × Nat × (Nat → pmS) × (Nat → Nat → Int32) × (Nat → Nat → Int64)
/-- returned, or thrown: which -/
abbrev pmO : Type := Option Value ⊕ Nat
abbrev pmR : Type := Option (pmO × pmM)
/-- class numbers, slots of fields, addresses, the heap at the start -/
abbrev pmG : Type := (Nat → ClassId) × (Nat → Nat → Nat) × (Nat → Nat) × Heap
/-- a method: name, bytes, locals, return type, handlers -/
abbrev pmY : Type := MethodName × ByteArray × Nat × Option FieldType × List (Nat × Nat × Nat × Nat)
def pm_E : Nat := 64
def pm_cls : List vw_C := [(RX0, TX0, 9), (RX1, TX1, 4), (RX2, TX2, 6), (RX3, TX3, 2), (RX4, TX4, 6), (RX5, TX5, 4), (RX6, TX6, 10), (RX7, TX7, 8), (RX8, TX8, 15), (RX9, TX9, 55)]
def pm_tbl : List Cond := lw_tbl.filter goodWord
def pm_aty (k : Nat) : FieldType := if k = 101 then .boolean else if k = 102 then .long else if k = 103 then .array .int else if k = 104 then .array .long else if k = 105 then .byte else .int
def pm_fr (ci j : Nat) : Bool := match pm_cls[ci]? with
  | some q => (q.2.1 j).2.2.1 != "I"
  | none => false
def pm_rf (Γ : pmG) (r : Option Nat) : Value := match r with
  | none => .null
  | some b => .ref (Γ.2.2.1 b)
def pm_fv (Γ : pmG) (m : pmM) (k j : Nat) : Value := if pm_fr (m.2.2.1 k).1 j = true then pm_rf Γ ((m.2.2.1 k).2.2 j) else .int (m.2.2.2.1 k j)
def pm_av (Γ : pmG) (m : pmM) (k j : Nat) : Value := if (m.2.2.1 k).1 = 102 then .long (m.2.2.2.2 k j) else if (m.2.2.1 k).1 = 103 ∨ (m.2.2.1 k).1 = 104 then pm_rf Γ ((m.2.2.1 k).2.2 j) else .int (m.2.2.2.1 k j)
def pm_cell (Γ : pmG) (U : State) (m : pmM) (k : Nat) (cell : Cell) : Prop :=
  ((m.2.2.1 k).1 < 100 → cell.cls = Γ.1 (m.2.2.1 k).1 ∧ cell.vm = .none ∧ ∀ q, pm_cls[(m.2.2.1 k).1]? = some q → ∀ j, j < q.2.2 → cell.slots[Γ.2.1 (m.2.2.1 k).1 j]? = some (pm_fv Γ m k j)) ∧
  (100 ≤ (m.2.2.1 k).1 → U.isArrayOf cell (pm_aty (m.2.2.1 k).1) ∧ cell.vm ≠ .unknown ∧ ((m.2.2.1 k).2.1 ≤ cell.slots.size ∧ cell.slots.size.toInt32 = nI (m.2.2.1 k).2.1) ∧ ∀ j, j < (m.2.2.1 k).2.1 → cell.slots[j]? = some (pm_av Γ m k j))
def pm_heap (Γ : pmG) (U : State) (m : pmM) (H : Heap) : Prop :=
  (H.size + pm_E = Γ.2.2.2.size + m.1 ∧ pm_E ≤ m.1) ∧ (∀ q : Nat, q < Γ.2.2.2.size → H[q]? = Γ.2.2.2[q]?) ∧ ∀ k : Nat, k < m.1 → (m.2.2.1 k).1 < 106 → ∃ cell : Cell, H[Γ.2.2.1 k]? = some cell ∧ pm_cell Γ U m k cell
def pm_isN : Cond → Bool
  | .fieldLinkNest _ _ _ _ _ _ => true
  | .methodLinkNest _ _ _ _ => true
  | .castable _ _ => true
  | .declares _ => true
  | .arrayOver (.array _) => true
  | _ => false
/-- an array class over arrays stays known -/
def pm_ovF (comp : ClassId) (x : Class) : Bool := match x.kind with
  | .array component _ => component == comp
  | _ => false
def pm_ovG (vm : Vm) (t : FieldType) (c : Nat) : Option Bool := (vm.classes[c]?).map fun (k : Class) => match k.kind with
  | .array _ ty => decide (ty = FieldType.array t) && decide (vm.findClass ("[" ++ (FieldType.array t).toString) = some c)
  | _ => false
theorem pm_ov (U : State) (t : FieldType) : va_Nw (.arrayOver (.array t)) U ↔ (((U.vm.findClass (FieldType.array t).toString).bind fun comp => (U.vm.classes.findIdx? (pm_ovF comp)).bind (pm_ovG U.vm t)) == some true) = true := Iff.rfl
theorem pm_AO {t : FieldType} {u U : State} (hvm : u.vm.Alike U.vm) (h : va_Nw (.arrayOver (.array t)) u) : va_Nw (.arrayOver (.array t)) U := by
  rw [pm_ov] at h ⊢
  rw [hvm.findClass]
  have hi : ∀ comp, U.vm.classes.findIdx? (pm_ovF comp) = u.vm.classes.findIdx? (pm_ovF comp) := by
    intro comp
    have e : ∀ vm : Vm, vm.classes.findIdx? (pm_ovF comp) = (vm.bare.classes.findIdx? (pm_ovF comp)) := fun vm => (va_idx_bare vm comp).symm
    rw [e U.vm, e u.vm]
    first | rw [hvm.bare_eq] | rw [← hvm.bare_eq]
  have hg : ∀ c, (u.vm.classes[c]?).isSome = true → pm_ovG U.vm t c = pm_ovG u.vm t c := by
    intro c hc
    obtain ⟨k, hk⟩ := Option.isSome_iff_exists.mp hc
    obtain ⟨k', hk', he⟩ := hvm.2.2 _ _ hk
    have hkk : k'.kind = k.kind := by rw [he]
    unfold pm_ovG
    rw [hk, hk', hvm.findClass]
    simp only [Option.map_some]
    rw [hkk]
  cases hc : u.vm.findClass (FieldType.array t).toString with
  | none => rw [hc] at h; exact h
  | some comp =>
    rw [hc] at h
    simp only [Option.bind_some] at h ⊢
    rw [hi comp]
    cases hf : u.vm.classes.findIdx? (pm_ovF comp) with
    | none => rw [hf] at h; exact h
    | some c =>
      rw [hf] at h
      simp only [Option.bind_some] at h ⊢
      have hs : (u.vm.classes[c]?).isSome = true := by
        cases hk : u.vm.classes[c]? with
        | none => unfold pm_ovG at h; rw [hk] at h; simp at h
        | some k => rfl
      rw [hg c hs]
      exact h
def pm_nest : List Cond := lw_tbl.filter pm_isN
/-- which cells are ours: those made since the start -/
abbrev pm_A (Γ : pmG) : Nat → Prop := fun q => Γ.2.2.2.size ≤ q
/-- static fields that are read: class, name, descriptor, what they hold -/
def pm_stat : List (String × String × String × Value) := [("StruckPage$Law", "PLAIN", "[I", .ref 1), ("StruckPage$Search", "RUN_VALUES", "[I", .ref 2), ("java/lang/String", "COMPACT_STRINGS", "Z", .int 1)]
def pm_mv (Γ : pmG) (v : Value) : Value := match v with
  | .ref k => .ref (Γ.2.2.1 k)
  | v => v
/-- texts: class, entry, text, the cell -/
def pm_strs : List (String × Nat × String × Nat) := [("StruckPage$Paper", 51, "line", 3), ("StruckPage$Paper", 57, "cell", 4), ("StruckPage$Paper", 59, "ink", 5), ("StruckPage$Law", 94, "least", 6), ("StruckPage$Law", 100, "most", 7), ("StruckPage$Law", 113, "words", 8), ("StruckPage$Law", 115, "struck", 9), ("StruckPage$Law", 117, "first", 10), ("StruckPage$Law", 119, "line", 11), ("StruckPage$Law", 121, "left", 12), ("StruckPage$Law", 123, "ink", 13), ("StruckPage$Law", 125, "cell", 14), ("StruckPage$Steps", 83, "strike", 15), ("StruckPage$Steps", 89, "run", 16), ("StruckPage$Steps", 91, "begin", 17), ("StruckPage$Steps", 93, "fill", 18), ("StruckPage$Steps", 95, "wipe", 19), ("StruckPage$Steps", 97, "set", 20), ("StruckPage$Steps", 99, "again", 21)]
/-- the words of the exceptions: class, entry, text -/
def pm_msgs : List (String × Nat × String) := [("StruckPage", 355, "out of what the document allows"), ("StruckPage", 362, "no such line"), ("StruckPage", 368, "no such word")]
/-- what is known of the tables, and of what stood in the heap at the start: it stays known as the tables warm -/
def pm_env (Γ : pmG) (U : State) : Prop :=
  (∀ (ci : Nat) (q : vw_C), pm_cls[ci]? = some q → u_Kn U q.1 q.2.1 q.2.2 (Γ.1 ci) (Γ.2.1 ci)) ∧ ((∀ k : Nat, pm_E ≤ k → Γ.2.2.1 k = Γ.2.2.2.size + (k - pm_E)) ∧ ∀ k : Nat, k < pm_E → Γ.2.2.1 k < Γ.2.2.2.size) ∧
  (∀ w ∈ pm_nest, va_Nw w U) ∧ (∀ q ∈ pm_stat, va_Z q.1 q.2.1 q.2.2.1 (pm_mv Γ q.2.2.2) (pm_A Γ) U Γ.2.2.2) ∧
  (∀ q ∈ pm_strs, vk_R q.1 q.2.1 q.2.2.1 (Γ.2.2.1 q.2.2.2) U) ∧ (∀ q ∈ pm_msgs, ∃ a, vk_R q.1 q.2.1 q.2.2 a U) ∧
  vx_Zq Bundle.tN "UNASSIGNED_STACK" Bundle.steD (pm_A Γ) U Γ.2.2.2 ∧ vx_Zq Bundle.tN "SUPPRESSED_SENTINEL" Bundle.listD (pm_A Γ) U Γ.2.2.2 ∧
  (∀ q ∈ pm_strs, va_O "java/lang/String" (Γ.2.2.1 q.2.2.2) (pm_A Γ) U Γ.2.2.2 ∧ va_OF "java/lang/String" "coder" "B" (.int 0) (Γ.2.2.1 q.2.2.2) (pm_A Γ) U Γ.2.2.2 ∧ va_OF "java/lang/String" "value" "[B" (.ref (Γ.2.2.1 (q.2.2.2 + 30))) (Γ.2.2.1 q.2.2.2) (pm_A Γ) U Γ.2.2.2) ∧
  (va_Z "jdk/internal/util/Preconditions" "SIOOBE_FORMATTER" "Ljava/util/function/BiFunction;" .null (pm_A Γ) U Γ.2.2.2 ∨ ∃ k : Nat, va_Z "jdk/internal/util/Preconditions" "SIOOBE_FORMATTER" "Ljava/util/function/BiFunction;" (.ref (Γ.2.2.1 k)) (pm_A Γ) U Γ.2.2.2) ∧ va_Nc "java/lang/IllegalArgumentException" "java/util/NoSuchElementException" U
theorem pm_env.warm {Γ : pmG} {s U : State} (hW : s.WarmedH U.vm) (h : pm_env Γ s) : pm_env Γ U := by
  obtain ⟨h1, h2, h3, h4, h5, h6, h7, h8, h9, h10, h11⟩ := h
  refine ⟨fun ci q hq => u_Kn_moved hW.alike (h1 ci q hq), h2, fun w hw => ?_, fun q hq => (h4 q hq).moved hW.alike, fun q hq => (h5 q hq).warm hW, fun q hq => ?_, h7.moved hW.alike, h8.moved hW.alike, fun q hq => ⟨(h9 q hq).1.moved hW.alike, (h9 q hq).2.1.moved hW.alike, (h9 q hq).2.2.moved hW.alike⟩, h10.imp (fun h => h.moved hW.alike) (fun ⟨k, h⟩ => ⟨k, h.moved hW.alike⟩), h11.moved hW.alike⟩
  · have hn := (List.mem_filter.mp hw).2
    have hz := h3 w hw
    match w, hn, hz with
    | .fieldLinkNest _ _ _ _ _ _, _, hz => exact va_Nw.warmF hW hz
    | .methodLinkNest _ _ _ _, _, hz => exact va_Nw.warmM hW hz
    | .castable _ _, _, hz => exact va_Nw.warmC hW hz
    | .declares _, _, hz => exact va_Nw.warmD hW hz
    | .arrayOver (.array _), _, hz => exact pm_AO hW.alike hz
  · obtain ⟨a, ha⟩ := h6 q hq
    exact ⟨a, ha.warm hW⟩
/-- a local that is not set (or no longer asked) -/
abbrev pmU : Value := .retAddr 0
def pm_pairs (Γ : pmG) (ls : List Value) : List (Nat × Value) := ls.zipIdx.filterMap (fun q => if q.1 = pmU then none else some (q.2, pm_mv Γ q.1))
def pm_ls (Γ : pmG) (n : Nat) (ls : List Value) (A : Array Slot) : Prop := ls.length ≤ n ∧ lv_has A n (pm_pairs Γ ls)
def pm_Q (Γ : pmG) (o : pmO) (m' : pmM) : Array Value → State → Outcome → State → Prop := fun _ _ oc t => (∃ v, o = .inl v ∧ oc = .returned v) ∧ pm_heap Γ t m' t.heap
def pm_exn (k : Nat) : String := if k = 0 then "java/util/NoSuchElementException" else "java/lang/IllegalArgumentException"
def pm_X (Γ : pmG) (o : pmO) (m' : pmM) : String → State → State → Prop := fun E _ t => (∃ k, o = .inr k ∧ E = pm_exn k) ∧ pm_heap Γ t m' t.heap
def pm_ctx (l : Launch) (Γ : pmG) (y : pmY) (d : Nat) (p : Program) (s : State) (mth : MethodId) (args : Array Value) (meth : Method) (c : Code) (R : Room) : Prop :=
  p.tables.exec = Jvm.exec ∧ c.code = y.2.1 ∧ meth.sig.returnType = y.2.2.2.1 ∧ c.maxLocals = y.2.2.1 ∧ s.vm.findClass y.1.cls = some mth.cls ∧ (∀ w ∈ pm_tbl, w.before args s = true) ∧ meth.locks = false ∧ meth.name = y.1.name ∧ pm_env Γ s ∧
  c.exceptionTable.toList.map (fun x => (x.startPc, x.endPc, x.handlerPc, x.catchType)) = y.2.2.2.2 ∧ 2 * d + 8 ≤ R.frames ∧ 100 * d + 200 ≤ R.locals ∧ (Γ.2.2.2.size ≤ s.heap.size ∧ ∀ q : Nat, q < Γ.2.2.2.size → s.heap[q]? = Γ.2.2.2[q]?) ∧ l.flags = flags0
/-- THE JUDGEMENT: where the pure result is there, the machine at this frame comes to it -/
def pm_G (l : Launch) (Γ : pmG) (y : pmY) (d pc : Nat) (ls st : List Value) (m : pmM) (res : pmR) : Prop :=
  ∀ (o : pmO) (m' : pmM), res = some (o, m') → (m.1 ≤ m'.1 ∧ m.2.1 ≤ m'.2.1) ∧
  ∀ (p : Program) (e : Env) (s : State) (mth : MethodId) (args : Array Value) (below : List Frame) (meth : Method) (c : Code) (R : Room) (H : Heap) (locs : List Loc) (cells slots mc ms : Nat) (A : Array Slot),
    pm_ctx l Γ y d p s mth args meth c R → mc ≤ R.cells → ms ≤ R.slots → pm_heap Γ s m H → pm_ls Γ y.2.2.1 ls A → (∀ q ∈ locs, Γ.2.2.2.size ≤ q.base) → cells + m'.1 ≤ mc + m.1 → slots + m'.2.1 ≤ ms + m.2.1 →
    W p l e R s mth args below meth c H locs cells slots (vx_MQ below (pm_Q Γ o m') (pm_X Γ o m') args s mc ms (fun q => Γ.2.2.2.size ≤ q)) (F0 mth pc A (st.map (pm_mv Γ)))
section PMG
variable {l : Launch} {Γ : pmG} {y : pmY} {d pc : Nat} {ls st : List Value} {m : pmM} {res : pmR}
/-- an instruction that changes the stack and the place alone -/
theorem pm_p {pc2 : Nat} {st2 : List Value}
    (h : ∀ (p : Program) (e : Env) (R : Room) (s : State) (mth : MethodId) (args : Array Value) (below : List Frame) (meth : Method) (c : Code) (H : Heap) (locs : List Loc) (cells slots : Nat) (Q : State → Prop) (A : Array Slot), p.tables.exec = Jvm.exec → c.code = y.2.1 → pm_ls Γ y.2.2.1 ls A →
      W p l e R s mth args below meth c H locs cells slots Q (F0 mth pc2 A (st2.map (pm_mv Γ))) → W p l e R s mth args below meth c H locs cells slots Q (F0 mth pc A (st.map (pm_mv Γ))))
    (k : pm_G l Γ y d pc2 ls st2 m res) : pm_G l Γ y d pc ls st m res := by
  intro o m' hr
  obtain ⟨h1, h2⟩ := k o m' hr
  refine ⟨h1, ?_⟩
  intro p e s mth args below meth c R H locs cells slots mc ms A hC a1 a2 a3 a4 a5 a6 a7
  exact h p e R s mth args below meth c H locs cells slots _ A hC.1 hC.2.1 a4 (h2 p e s mth args below meth c R H locs cells slots mc ms A hC a1 a2 a3 a4 a5 a6 a7)
theorem pm_none : pm_G l Γ y d pc ls st m none := fun o m' h => by cases h
theorem pm_at {i n : Nat} {v : Value} {A : Array Slot} (h : pm_ls Γ n ls A) (hv : ls[i]? = some v) (hu : v ≠ pmU) : A[i]? = some (.val (pm_mv Γ v)) := by
  refine h.2.2.2 (i, pm_mv Γ v) ?_
  unfold pm_pairs
  refine List.mem_filterMap.mpr ⟨(v, i), ?_, ?_⟩
  · exact List.mem_zipIdx_iff_getElem?.mpr hv
  · simp [hu]
theorem pm_iadd {a b : Int32} (hd : decode y.2.1 pc = .ok (.iadd, 1)) (k : pm_G l Γ y d (pc + 1) ls (.int (a + b) :: st) m res) : pm_G l Γ y d pc ls (.int b :: .int a :: st) m res := pm_p (fun _ _ _ _ _ _ _ _ _ _ _ _ _ _ _ hx hb _ k => lv_iadd hx hb hd k) k
theorem pm_iload_n {i : Fin 4} {j : Nat} {x : Int32} (hd : decode y.2.1 pc = .ok (.iload_n i, 1)) (hi : (i : Nat) = j) (hv : ls[j]? = some (.int x)) (k : pm_G l Γ y d (pc + 1) ls (.int x :: st) m res) : pm_G l Γ y d pc ls st m res := pm_p (fun _ _ _ _ _ _ _ _ _ _ _ _ _ _ _ hx hb hl k => lv_iload_n hx hb hd hi (pm_at hl hv (by intro h; cases h)) k) k
end PMG
