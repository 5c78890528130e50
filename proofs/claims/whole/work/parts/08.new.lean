/-! returns; new cells; static fields; Math.min, Math.max, Object's constructor, System.arraycopy -/
section PMR
variable {l : Launch} {Γ : pmG} {y : pmY} {d pc : Nat} {ls st : List Value} {m : pmM} {res : pmR}
theorem pm_iret {v : Int32} (hr : y.2.2.2.1 = some .int) (hd : decode y.2.1 pc = .ok (.ireturn, 1)) : pm_G l Γ y d pc ls [.int v] m (some (.inl (some (.int v)), m)) := by
  intro o m' h
  cases h
  refine ⟨⟨Nat.le_refl _, Nat.le_refl _⟩, ?_⟩
  intro p e s mth args below meth c R H locs cells slots mc ms A hC a1 a2 a3 a4 a5 a6 a7
  refine W.widen (k := mc) (n := ms) (by omega) (by omega) (vx_ret ?_)
  exact W.iret hC.1 hC.2.1 (hC.2.2.1.trans hr) (fun t ht hW => ⟨⟨_, rfl, rfl⟩, by rw [ht]; exact pm_heap_moved hW.alike a3⟩) a5 hd hC.2.2.2.2.2.2.1
theorem pm_Wnret {p : Program} {e : Env} {R : Room} {s : State} {m : MethodId} {args : Array Value} {below : List Frame} {meth : Method} {c : Code} {H : Heap} {locs : List Loc} {cells slots : Nat} {cc : ByteArray} {Qc : Array Value → State → Outcome → State → Prop} {free : Addr → Prop} {v : Int32} {w : Value} {ty : FieldType} (hexec : p.tables.exec = Jvm.exec) (hb : c.code = cc) (hr : meth.sig.returnType = some ty) (hty : ty = .boolean ∨ ty = .byte ∨ ty = .char ∨ ty = .short ∨ ty = .int) (hn : narrow ty (.int v) = w)
    (hq : ∀ t : State, t.heap = H → s.WarmedH t.vm → Qc args s (.returned (some w)) t) (hf : ∀ q ∈ locs, free q.base)
    {pc : Nat} {ls : Array Slot} (hdg : decode cc pc = .ok (.ireturn, 1)) (hlocks : meth.locks = false) : W p l e R s m args below meth c H locs cells slots (MQ below Qc args s cells slots free) (F0 m pc ls [.int v]) := by
  intro T hT X
  obtain ⟨fs, hret, hrun, hended, hW, hframe⟩ := X.leave (v := some w) (fun h => by rw [hr] at h; cases h)
  have hmeth' : T.vm.method? m = some meth := X.method'
  refine ⟨T.setFrames fs, ?_, .returned (some w), hrun, hended, hq _ hT hW, locs, ⟨⟨_, rfl⟩, hW, hframe⟩, hf⟩
  rcases hty with rfl | rfl | rfl | rfl | rfl <;>
    (jvm_step X.here [X.here.top, hexec, hb, hdg, hmeth', hr, hn]
     (try refine ⟨rfl, ?_⟩); (try refine ⟨rfl, ?_⟩)
     first | (intro acts; rw [hret _ acts rfl rfl rfl]) | rw [hret _ _ rfl rfl rfl]
     exact Steps.refl _)
theorem pm_nret {ty : FieldType} {v w : Int32} (hr : y.2.2.2.1 = some ty) (hty : ty = .boolean ∨ ty = .byte ∨ ty = .char ∨ ty = .short ∨ ty = .int) (hn : narrow ty (.int v) = .int w) (hd : decode y.2.1 pc = .ok (.ireturn, 1)) : pm_G l Γ y d pc ls [.int v] m (some (.inl (some (.int w)), m)) := by
  intro o m' h
  cases h
  refine ⟨⟨Nat.le_refl _, Nat.le_refl _⟩, ?_⟩
  intro p e s mth args below meth c R H locs cells slots mc ms A hC a1 a2 a3 a4 a5 a6 a7
  refine W.widen (k := mc) (n := ms) (by omega) (by omega) (vx_ret ?_)
  exact pm_Wnret hC.1 hC.2.1 (hC.2.2.1.trans hr) hty hn (fun t ht hW => ⟨⟨_, rfl, rfl⟩, by rw [ht]; exact pm_heap_moved hW.alike a3⟩) a5 hd hC.2.2.2.2.2.2.1
theorem pm_lret {v : Int64} (hr : y.2.2.2.1 = some .long) (hd : decode y.2.1 pc = .ok (.lreturn, 1)) : pm_G l Γ y d pc ls [.long v] m (some (.inl (some (.long v)), m)) := by
  intro o m' h
  cases h
  refine ⟨⟨Nat.le_refl _, Nat.le_refl _⟩, ?_⟩
  intro p e s mth args below meth c R H locs cells slots mc ms A hC a1 a2 a3 a4 a5 a6 a7
  refine W.widen (k := mc) (n := ms) (by omega) (by omega) (vx_ret ?_)
  exact W.lret hC.1 hC.2.1 (hC.2.2.1.trans hr) (fun t ht hW => ⟨⟨_, rfl, rfl⟩, by rw [ht]; exact pm_heap_moved hW.alike a3⟩) a5 hd hC.2.2.2.2.2.2.1
theorem pm_vret (hr : y.2.2.2.1 = none) (hd : decode y.2.1 pc = .ok (.return_, 1)) : pm_G l Γ y d pc ls [] m (some (.inl none, m)) := by
  intro o m' h
  cases h
  refine ⟨⟨Nat.le_refl _, Nat.le_refl _⟩, ?_⟩
  intro p e s mth args below meth c R H locs cells slots mc ms A hC a1 a2 a3 a4 a5 a6 a7
  refine W.widen (k := mc) (n := ms) (by omega) (by omega) (vx_ret ?_)
  exact W.vret hC.1 hC.2.1 (hC.2.2.1.trans hr) (fun t ht hW => ⟨⟨_, rfl, rfl⟩, by rw [ht]; exact pm_heap_moved hW.alike a3⟩) a5 hd hC.2.2.2.2.2.2.1
/-- a new cell -/
def pm_al (m : pmM) (sh : pmS) (w : Nat) : pmM := (m.1 + 1, m.2.1 + w, fun i => if i = m.1 then sh else m.2.2.1 i, fun i j => if i = m.1 then 0 else m.2.2.2.1 i j, fun i j => if i = m.1 then 0 else m.2.2.2.2 i j)
theorem pm_top {s : State} {H : Heap} (hE : pm_env Γ s) (h : pm_heap Γ s m H) : Γ.2.2.1 m.1 = H.size := by
  rw [hE.2.1.1 m.1 h.1.2]
  have := h.1.1
  have := h.1.2
  omega
theorem pm_old {s : State} {H : Heap} (hE : pm_env Γ s) (h : pm_heap Γ s m H) {k : Nat} (hk : k < m.1) : Γ.2.2.1 k < H.size := by
  have h1 := h.1.1
  have h2 := h.1.2
  by_cases hk2 : pm_E ≤ k
  · rw [hE.2.1.1 k hk2]; omega
  · have := hE.2.1.2 k (by omega)
    omega
theorem pm_heap_push {s : State} {H H1 : Heap} {cell : Cell} {sh : pmS} {w : Nat} (hE : pm_env Γ s) (h : pm_heap Γ s m H) (e1 : H1[H.size]? = some cell) (e2 : H1.size = H.size + 1) (e3 : ∀ q, q < H.size → H1[q]? = H[q]?) (hc : pm_cell Γ s (pm_al m sh w) m.1 cell) : pm_heap Γ s (pm_al m sh w) H1 := by
  have h1 := h.1.1
  have h2 := h.1.2
  refine ⟨⟨by show H1.size + pm_E = Γ.2.2.2.size + (m.1 + 1); omega, by show pm_E ≤ m.1 + 1; omega⟩, fun q hq => ?_, fun k hk hk2 => ?_⟩
  · rw [e3 q (by omega)]; exact h.2.1 q hq
  · by_cases hkm : k = m.1
    · subst hkm
      exact ⟨cell, by rw [pm_top hE h]; exact e1, hc⟩
    · have hk' : k < m.1 := by
        have : k < m.1 + 1 := hk
        omega
      have hsh : (pm_al m sh w).2.2.1 k = m.2.2.1 k := by simp [pm_al, hkm]
      rw [hsh] at hk2
      obtain ⟨c, g1, g2⟩ := h.2.2 k hk' hk2
      exact ⟨c, by rw [e3 _ (pm_old hE h hk')]; exact g1, pm_cell_congr hsh (by funext j; simp [pm_al, hkm]) (by funext j; simp [pm_al, hkm]) g2⟩
/-- an instruction that makes cells -/
theorem pm_n {pc2 : Nat} {st2 : List Value} {m2 : pmM} {nc ns : Nat} (hm1 : m2.1 = m.1 + nc) (hm2 : m2.2.1 = m.2.1 + ns)
    (h : ∀ (p : Program) (e : Env) (R : Room) (s : State) (mth : MethodId) (args : Array Value) (below : List Frame) (meth : Method) (c : Code) (H : Heap) (locs : List Loc) (cells slots : Nat) (Q : State → Prop) (A : Array Slot), pm_ctx l Γ y d p s mth args meth c R → pm_heap Γ s m H → pm_ls Γ y.2.2.1 ls A → (∀ q ∈ locs, Γ.2.2.2.size ≤ q.base) → cells + nc ≤ R.cells → slots + ns ≤ R.slots →
      (∀ H', pm_heap Γ s m2 H' → W p l e R s mth args below meth c H' locs (cells + nc) (slots + ns) Q (F0 mth pc2 A (st2.map (pm_mv Γ)))) → W p l e R s mth args below meth c H locs cells slots Q (F0 mth pc A (st.map (pm_mv Γ))))
    (k : pm_G l Γ y d pc2 ls st2 m2 res) : pm_G l Γ y d pc ls st m res := by
  intro o m' hr
  obtain ⟨h1, h2⟩ := k o m' hr
  rw [hm1, hm2] at h1
  refine ⟨⟨by omega, by omega⟩, ?_⟩
  intro p e s mth args below meth c R H locs cells slots mc ms A hC a1 a2 a3 a4 a5 a6 a7
  exact h p e R s mth args below meth c H locs cells slots _ A hC a3 a4 a5 (by omega) (by omega) (fun H' b3 => h2 p e s mth args below meth c R H' locs _ _ mc ms A hC a1 a2 b3 a4 a5 (by rw [hm1]; omega) (by rw [hm2]; omega))
theorem pm_new {q : vw_C} {ty : Nat → FieldType} {ci index : Nat} (hkn : pm_kn ci q ty) (hdef : ∀ j, j < q.2.2 → defaultValue (ty j) = if pm_fr ci j = true then .null else .int 0) (hw1 : Cond.classLink y.1.cls index q.1 ∈ pm_tbl) (hw2 : Cond.instantiable q.1 q.2.2 ∈ pm_tbl) (hw3 : Cond.initialized q.1 ∈ pm_tbl) (hd : decode y.2.1 pc = .ok (.new index, 3))
    {f : Nat → pmM → pmR} (kk : ∀ b m2, pm_G l Γ y d (pc + 3) ls (.ref b :: st) m2 (f b m2)) : pm_G l Γ y d pc ls st m (f m.1 (pm_al m (ci, 0, fun _ => none) q.2.2)) := by
  refine pm_n (m2 := pm_al m (ci, 0, fun _ => none) q.2.2) (nc := 1) (ns := q.2.2) rfl rfl (fun p e R s mth args below meth c H locs cells slots Q A hC hH hl hlo hc hs k9 => ?_) (kk m.1 _)
  obtain ⟨hx, hb, hr, hml, hown, hts, hlk, hnm, hE, -⟩ := hC
  obtain ⟨hcl, hin, hdist, hty, h100⟩ := hkn
  have hKn := hE.1 ci q hcl
  refine W.newcK hx hb hown (hts _ hw1) (hts _ hw2) (hts _ hw3) rfl hd hc hs hKn.2.1 rfl (fun H1 kC hkC e1 z1 o1 => ?_)
  obtain ⟨cell, g1, g2, g3, g4⟩ := u_born ty hts hin hKn hkC e1 hty
  have hrep : pm_heap Γ s (pm_al m (ci, 0, fun _ => none) q.2.2) H1 := by
    refine pm_heap_push hE hH g1 z1 o1 ⟨fun _ => ?_, fun h => ?_⟩
    · have e9 : ((pm_al m (ci, 0, fun _ => none) q.2.2).2.2.1 m.1).1 = ci := by simp [pm_al]
      rw [e9]
      refine ⟨g2, g3, fun q9 hq9 j hj => ?_⟩
      cases Option.some.inj (hq9.symm.trans hcl)
      rw [g4 j hj]
      show some (defaultValue (ty j)) = _
      rw [hdef j hj]
      unfold pm_fv
      rw [e9]
      simp [pm_al, pm_rf]
    · have e9 : ((pm_al m (ci, 0, fun _ => none) q.2.2).2.2.1 m.1).1 = ci := by simp [pm_al]
      rw [e9] at h
      omega
  have k10 := k9 H1 hrep
  rw [← pm_top hE hH]
  exact k10
def pm_na (kd : Nat) (n : Int32) (m : pmM) (f : Nat → pmM → pmR) : pmR := if n < 0 ∨ 1000000 < n.toNatClampNeg then none else f m.1 (pm_al m (kd, n.toNatClampNeg, fun _ => none) n.toNatClampNeg)
theorem pm_newa {kd : Nat} {atype : ArrayType} (hk : (kd = 100 ∧ atype = .int) ∨ (kd = 101 ∧ atype = .boolean) ∨ (kd = 102 ∧ atype = .long)) (hw : Cond.arrayClass (newarray.typeOf atype) ∈ pm_tbl) (hd : decode y.2.1 pc = .ok (.newarray atype, 2)) {n : Int32}
    {f : Nat → pmM → pmR} (kk : ∀ b m2, pm_G l Γ y d (pc + 2) ls (.ref b :: st) m2 (f b m2)) : pm_G l Γ y d pc ls (.int n :: st) m (pm_na kd n m f) := by
  unfold pm_na
  by_cases hn : n < 0 ∨ 1000000 < n.toNatClampNeg
  · rw [if_pos hn]; exact pm_none
  rw [if_neg hn]
  refine pm_n (m2 := pm_al m (kd, n.toNatClampNeg, fun _ => none) n.toNatClampNeg) (nc := 1) (ns := n.toNatClampNeg) rfl rfl (fun p e R s mth args below meth c H locs cells slots Q A hC hH hl hlo hc hs k9 => ?_) (kk m.1 _)
  obtain ⟨hx, hb, hr, hml, hown, hts, hlk, hnm, hE, -⟩ := hC
  have hty : newarray.typeOf atype = pm_aty kd := by rcases hk with ⟨rfl, rfl⟩ | ⟨rfl, rfl⟩ | ⟨rfl, rfl⟩ <;> rfl
  have hbytes : n.toNatClampNeg * componentBytes (newarray.typeOf atype) ≤ 536870912 := by
    have h9 : componentBytes (newarray.typeOf atype) ≤ 8 := by rcases hk with ⟨rfl, rfl⟩ | ⟨rfl, rfl⟩ | ⟨rfl, rfl⟩ <;> decide
    have h8 : n.toNatClampNeg ≤ 1000000 := by
      rcases Nat.lt_or_ge 1000000 n.toNatClampNeg with z | z
      · exact absurd (Or.inr z) hn
      · exact z
    exact Nat.le_trans (Nat.mul_le_mul h8 h9) (by decide)
  refine va_newaK hx hb (hts _ hw) rfl hd rfl (fun z => hn (Or.inl z)) rfl hbytes hc hs rfl (fun H1 cA e1 z1 o1 hAr _ => ?_)
  have hrep : pm_heap Γ s (pm_al m (kd, n.toNatClampNeg, fun _ => none) n.toNatClampNeg) H1 := by
    refine pm_heap_push hE hH e1 z1 o1 ⟨fun h => ?_, fun _ => ?_⟩
    · have e9 : ((pm_al m (kd, n.toNatClampNeg, fun _ => none) n.toNatClampNeg).2.2.1 m.1).1 = kd := by simp [pm_al]
      rw [e9] at h
      rcases hk with ⟨rfl, -⟩ | ⟨rfl, -⟩ | ⟨rfl, -⟩ <;> omega
    · have e9 : (pm_al m (kd, n.toNatClampNeg, fun _ => none) n.toNatClampNeg).2.2.1 m.1 = (kd, n.toNatClampNeg, fun _ => none) := by simp [pm_al]
      rw [e9]
      refine ⟨by rw [← hty]; exact hAr _ _, fun h => (by cases h), ⟨Nat.le_of_eq (arrV_size _ _ _).symm, by rw [arrV_size]; rfl⟩, fun j hj => ?_⟩
      rw [arrV_read _ _ hj]
      unfold pm_av
      rw [e9]
      rcases hk with ⟨rfl, rfl⟩ | ⟨rfl, rfl⟩ | ⟨rfl, rfl⟩ <;> simp [pm_al, newarray.typeOf, defaultValue]
  have k10 := k9 H1 hrep
  rw [← pm_top hE hH]
  exact k10
theorem pm_S0 {s : State} {H : Heap} {locs : List Loc} (hb : Γ.2.2.2.size ≤ s.heap.size ∧ ∀ q : Nat, q < Γ.2.2.2.size → s.heap[q]? = Γ.2.2.2[q]?) (h : pm_heap Γ s m H) (hlo : ∀ q ∈ locs, Γ.2.2.2.size ≤ q.base) : va_S (pm_A Γ) Γ.2.2.2 H locs :=
  ⟨by have h1 := h.1.1; have h2 := h.1.2; omega, fun q hq _ => h.2.1 q hq, hlo⟩
theorem pm_gets {C n ds : String} {v : Value} {index : Nat} (hm : (C, n, ds, v) ∈ pm_stat) (hw : Cond.fieldLink y.1.cls index C n ds ∈ pm_tbl) (hd : decode y.2.1 pc = .ok (.getstatic index, 3)) (kk : pm_G l Γ y d (pc + 3) ls (v :: st) m res) : pm_G l Γ y d pc ls st m res := by
  refine pm_pw (fun p e R s mth args below meth c H locs cells slots Q A hC hH hl hlo hc hs k9 => ?_) kk
  obtain ⟨hx, hb, hr, hml, hown, hts, hlk, hnm, hE, hxt, hf1, hf2, hba, -⟩ := hC
  obtain ⟨cf, kf, fi, f, a, cell, h1, h2, h3, h4, h5, h6, h7, h8⟩ := hE.2.2.2.1 _ hm
  exact W.gets hx hb hown (hts _ hw) h1 h2 h3 h4 (by rw [(pm_S0 hba hH hlo).2.1 a (Array.getElem?_eq_some_iff.mp h5).1 h8]; exact h5) (fun e => by rw [e] at h6; cases h6) h7 rfl hd k9
theorem pm_ldcs {own tx : String} {k index : Nat} (hm : (own, index, tx, k) ∈ pm_strs) (ho : own = y.1.cls) (hd : decode y.2.1 pc = .ok (.ldc index, 2)) (kk : pm_G l Γ y d (pc + 2) ls (.ref k :: st) m res) : pm_G l Γ y d pc ls st m res := by
  subst ho
  exact pm_pw (fun p e R s mth args below meth c H locs cells slots Q A hC hH hl hlo hc hs k9 => va_ldcS hC.1 hC.2.1 hC.2.2.2.2.1 (hC.2.2.2.2.2.2.2.2.1.2.2.2.2.1 _ hm) hd k9) kk
theorem pm_sum (rest : List Value) : ((rest.map (pm_mv Γ)).map fun v => v.category).sum = (rest.map fun v => v.category).sum := by
  induction rest with
  | nil => rfl
  | cons v r ih =>
    simp only [List.map_cons, List.sum_cons]
    rw [pm_cat (Γ := Γ) (v := v) rfl, ih]
/-- how much stands on the stack below a call -/
def pm_dp (st : List Value) : Nat := (st.map fun v => v.category).sum
theorem pm_min {index : Nat} {a b : Int32} (hw : Cond.methodLink y.1.cls index Lib.Math.min.name ∈ pm_tbl) (hw2 : Cond.static Lib.Math.min.name ∈ pm_tbl) (hw3 : Cond.initialized "java/lang/Math" ∈ pm_tbl) (hw4 : Cond.code Lib.Math.min.name Lib.Math.min.code 2 (some .int) ∈ pm_tbl) (hd : decode y.2.1 pc = .ok (.invokestatic index, 3)) (hdp : pm_dp st ≤ 60) (kk : pm_G l Γ y d (pc + 3) ls (.int (if b < a then b else a) :: st) m res) : pm_G l Γ y d pc ls (.int b :: .int a :: st) m res := by
  refine pm_pw (fun p e R s mth args below meth c H locs cells slots Q A hC hH hl hlo hc hs k9 => ?_) kk
  obtain ⟨hx, hb, hr, hml, hown, hts, hlk, hnm, hE, hxt, hf1, hf2, hba, -⟩ := hC
  exact va_mmin hx hb (hml.trans hl.2.1.symm) hown (hts _ hw) (hts _ hw2) (hts _ hw3) (hts _ hw4) (by omega) (by rw [pm_sum]; unfold pm_dp at hdp; omega) hc hs hd k9
theorem pm_max {index : Nat} {a b : Int32} (hw : Cond.methodLink y.1.cls index Lib.Math.max.name ∈ pm_tbl) (hw2 : Cond.static Lib.Math.max.name ∈ pm_tbl) (hw3 : Cond.initialized "java/lang/Math" ∈ pm_tbl) (hw4 : Cond.code Lib.Math.max.name Lib.Math.max.code 2 (some .int) ∈ pm_tbl) (hd : decode y.2.1 pc = .ok (.invokestatic index, 3)) (hdp : pm_dp st ≤ 60) (kk : pm_G l Γ y d (pc + 3) ls (.int (if a < b then b else a) :: st) m res) : pm_G l Γ y d pc ls (.int b :: .int a :: st) m res := by
  refine pm_pw (fun p e R s mth args below meth c H locs cells slots Q A hC hH hl hlo hc hs k9 => ?_) kk
  obtain ⟨hx, hb, hr, hml, hown, hts, hlk, hnm, hE, hxt, hf1, hf2, hba, -⟩ := hC
  exact va_mmax hx hb (hml.trans hl.2.1.symm) hown (hts _ hw) (hts _ hw2) (hts _ hw3) (hts _ hw4) (by omega) (by rw [pm_sum]; unfold pm_dp at hdp; omega) hc hs hd k9
theorem pm_oinit {index a : Nat} (hw : Cond.methodLink y.1.cls index Lib.objectInit ∈ pm_tbl) (hw2 : Cond.instanceMethod Lib.objectInit ∈ pm_tbl) (hw3 : Cond.code Lib.objectInit ⟨#[0xb1]⟩ 1 none ∈ pm_tbl) (hd : decode y.2.1 pc = .ok (.invokespecial index, 3)) (hdp : pm_dp st ≤ 60) (kk : pm_G l Γ y d (pc + 3) ls st m res) : pm_G l Γ y d pc ls (.ref a :: st) m res := by
  refine pm_pw (fun p e R s mth args below meth c H locs cells slots Q A hC hH hl hlo hc hs k9 => ?_) kk
  obtain ⟨hx, hb, hr, hml, hown, hts, hlk, hnm, hE, hxt, hf1, hf2, hba, -⟩ := hC
  exact W.objInit hx hb hown (hts _ hw) (hts _ hw2) (hts _ hw3) rfl (by rw [hml]; exact hl.2.1) rfl hd (by omega) (by rw [pm_sum]; unfold pm_dp at hdp; show 2 * 0 + _ + _ ≤ _; omega) k9
end PMR
