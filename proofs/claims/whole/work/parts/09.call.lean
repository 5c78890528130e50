/-! calls -/
def pm_ws (z : pmY) : List Cond := (if z.2.2.2.2 = [] then Cond.code z.1 z.2.1 z.2.2.1 z.2.2.2.1 else Cond.codeWith z.1 z.2.1 z.2.2.1 z.2.2.2.1 z.2.2.2.2) :: pm_tbl
def pm_rm (d mc ms : Nat) : Room := { frames := 2 * d + 8, cells := mc, slots := ms, locals := 100 * d + 200 }
def pm_Pc (Γ : pmG) (args : List Value) (m : pmM) : Array Value → State → Prop := fun a U => a = (args.map (pm_mv Γ)).toArray ∧ pm_env Γ U ∧ pm_heap Γ U m U.heap
/-- the CONTRACT of a method: what the pure function gives, it does -/
def pm_C (l : Launch) (Γ : pmG) (z : pmY) (d : Nat) (args : List Value) (m : pmM) (res : pmR) : Prop :=
  ∀ (o : pmO) (m' : pmM), res = some (o, m') → (m.1 ≤ m'.1 ∧ m.2.1 ≤ m'.2.1) ∧ vx_Met l z.1 (pm_ws z) (pm_rm d (m'.1 - m.1) (m'.2.1 - m.2.1)) (pm_Pc Γ args m) (pm_Q Γ o m') (pm_X Γ o m') (m'.1 - m.1) (m'.2.1 - m.2.1) (fun q => Γ.2.2.2.size ≤ q)
theorem pm_good : GoodIn pm_tbl pm_tbl := fun w hw => ⟨hw, good_of_word (List.mem_filter.mp hw).2⟩
theorem pm_tbl_of {args : Array Value} {s : State} (h : ∀ w ∈ lw_tbl, w.before args s = true) : ∀ w ∈ pm_tbl, w.before args s = true := fun w hw => h w (List.mem_filter.mp hw).1
theorem pm_blind {Γ : pmG} {args : List Value} {m : pmM} : FrameBlind (pm_Pc Γ args m) := by
  rintro a U g mk ⟨h1, h2, h3⟩
  exact ⟨h1, pm_env.warm (U := U.calling g mk a) (State.WarmedH.refl U) h2, pm_heap_moved (U := U.calling g mk a) (Vm.Alike.refl U.vm) h3⟩
/-- from the judgement at the entry to the contract -/
theorem pm_enter {l : Launch} {Γ : pmG} {z : pmY} {d : Nat} {args ls : List Value} {m : pmM} {res : pmR} (hfl : l.flags = flags0) (hp : plainName z.1.cls = true) (hh : z.2.2.2.2 = []) (hlen : ls.length ≤ z.2.2.1) (hls : pm_pairs Γ ls = lv_args 0 (args.map (pm_mv Γ))) (hfit : (lg_sl (args.map (pm_mv Γ))).length ≤ z.2.2.1)
    (k : pm_G l Γ z d 0 ls [] m res) : pm_C l Γ z d args m res := by
  intro o m' hr
  obtain ⟨h1, h2⟩ := k o m' hr
  refine ⟨h1, vx_ofW (cc := z.2.1) (maxL := z.2.2.1) (ret := z.2.2.2.1) (ws' := pm_tbl) hp (by unfold pm_ws; rw [if_pos hh]) ?_⟩
  intro p e s mth a below meth c s₁ B hml hxt hv
  obtain ⟨rfl, hE, hH⟩ := hv
  have hts := atoms_spec (ws := pm_ws z) B.pre
  have hl := lv_entry (args.map (pm_mv Γ)) (n := z.2.2.1) hfit
  rw [lg_entry_eq]
  refine h2 p e s mth _ below meth c _ s.heap [] 0 0 _ _ _ ⟨B.exec, B.bytes, B.returns, hml, findClass_of_methodNamed B.named, fun w hw => hts w (List.mem_cons_of_mem _ hw), B.notSynchronized, (name_of_methodNamed B.named B.method).1, hE, ?_, Nat.le_refl _, Nat.le_refl _, ⟨by have q1 := hH.1.1; have q2 := hH.1.2; omega, hH.2.1⟩, hfl⟩ (Nat.le_refl _) (Nat.le_refl _) hH ⟨hlen, by rw [hls]; exact hl⟩ (fun q h => by cases h) (by omega) (by omega)
  rw [hh]
  have : c.exceptionTable.toList = [] := by
    cases hc : c.exceptionTable.toList with
    | nil => rfl
    | cons x r => exact (hxt x (by rw [hc]; exact List.mem_cons_self)).elim
  rw [this]
  rfl
section PMK
variable {l : Launch} {Γ : pmG} {y z : pmY} {d pc : Nat} {ls st : List Value} {m : pmM}
/-- behind a call, returned or thrown -/
theorem pm_run {p : Program} {e : Env} {R : Room} {s : State} {mth : MethodId} {args : Array Value} {below : List Frame} {meth : Method} {c : Code} {H : Heap} {locs : List Loc} {cells slots mc1 ms1 : Nat} {Q : State → Prop} {A : Array Slot} {stk rest : List Value} {a : Array Value} {o1 : pmO} {m1 : pmM}
    (hlo : ∀ q ∈ locs, Γ.2.2.2.size ≤ q.base)
    (hr : vx_Run p l e R s mth args below meth c H locs cells slots mc1 ms1 (F0 mth pc A stk) rest (pm_Q Γ o1 m1 a) (pm_X Γ o1 m1) (fun q => Γ.2.2.2.size ≤ q))
    (kR : ∀ v, o1 = .inl v → ∀ H' locs', pm_heap Γ s m1 H' → (∀ q ∈ locs', Γ.2.2.2.size ≤ q.base) → W p l e R s mth args below meth c H' locs' (cells + mc1) (slots + ms1) Q (F0 mth (pc + 3) A (v.toList ++ rest)))
    (kX : ∀ k, o1 = .inr k → ∀ (q : Addr) (ce : Cell) H' locs', pm_heap Γ s m1 H' → (∀ q ∈ locs', Γ.2.2.2.size ≤ q.base) → H'[q]? = some ce → ce.vm = .none → s.vm.findClass (pm_exn k) = some ce.cls → vx_W p l e R s mth args below meth c H' locs' (cells + mc1) (slots + ms1) Q (F0 mth pc A rest) q) :
    W p l e R s mth args below meth c H locs cells slots Q (F0 mth pc A stk) := by
  have hloc : ∀ L : List Loc, (∀ q ∈ L, Γ.2.2.2.size ≤ q.base) → ∀ q ∈ locs ++ L, Γ.2.2.2.size ≤ q.base := fun L hL q hq => (List.mem_append.mp hq).elim (hlo q) (hL q)
  intro T hT X
  rcases hr T hT X with ⟨v, st₀, t, T', L, h0, X', hL, e1, e2, ⟨⟨v', ho, hv⟩, hh⟩, hgo⟩ | ⟨q, st₀, t, T', L, E, ce, h0, X', hL, e1, e2, ⟨⟨k, ho, hE⟩, hh⟩, hce, hcv, hcl, hst⟩
  · cases hv
    have hal : t.vm.Alike s.vm := by rw [← e2]; exact X'.warmed.alike.symm
    have hh' : pm_heap Γ s m1 T'.heap := by rw [e1]; exact pm_heap_moved hal hh
    obtain ⟨t2, a1, b1⟩ := kR v ho T'.heap _ hh' (hloc L hL) T' rfl X'
    exact ⟨t2, hgo _ a1, b1⟩
  · have hal : t.vm.Alike s.vm := by rw [← e2]; exact X'.warmed.alike.symm
    have hh' : pm_heap Γ s m1 T'.heap := by rw [e1]; exact pm_heap_moved hal hh
    obtain ⟨t2, a1, b1⟩ := kX k ho q ce T'.heap _ hh' (hloc L hL) (by rw [e1]; exact hce) hcv (by rw [← hE]; exact hcl) T' rfl X'
    exact ⟨t2, hst.trans a1, b1⟩
/-- what a caller makes of a call's end -/
def pm_cI (r : pmR) (f : Int32 → pmM → pmR) : pmR := match r with
  | some (.inl (some (.int x)), m1) => f x m1
  | some (.inr k, m1) => some (.inr k, m1)
  | _ => none
def pm_cL (r : pmR) (f : Int64 → pmM → pmR) : pmR := match r with
  | some (.inl (some (.long x)), m1) => f x m1
  | some (.inr k, m1) => some (.inr k, m1)
  | _ => none
def pm_cV (r : pmR) (f : pmM → pmR) : pmR := match r with
  | some (.inl none, m1) => f m1
  | some (.inr k, m1) => some (.inr k, m1)
  | _ => none
/-- the receiver is such a one -/
def pm_rc (ci b : Nat) (m : pmM) (r : pmR) : pmR := if b < m.1 ∧ (m.2.2.1 b).1 = ci then r else none
/-- how a call is made: the machine's run of it, where the contract holds -/
def pm_Call (l : Launch) (Γ : pmG) (y z : pmY) (d pc : Nat) (stk st args : List Value) (m : pmM) : Prop :=
  ∀ (o1 : pmO) (m1 : pmM), m.1 ≤ m1.1 → m.2.1 ≤ m1.2.1 → vx_Met l z.1 (pm_ws z) (pm_rm d (m1.1 - m.1) (m1.2.1 - m.2.1)) (pm_Pc Γ args m) (pm_Q Γ o1 m1) (pm_X Γ o1 m1) (m1.1 - m.1) (m1.2.1 - m.2.1) (fun q => Γ.2.2.2.size ≤ q) →
  ∀ (p : Program) (e : Env) (s : State) (mth : MethodId) (margs : Array Value) (below : List Frame) (meth : Method) (c : Code) (R : Room) (H : Heap) (locs : List Loc) (cells slots : Nat) (A : Array Slot),
    pm_ctx l Γ y (d + 1) p s mth margs meth c R → pm_heap Γ s m H → pm_ls Γ y.2.2.1 ls A → cells + (m1.1 - m.1) ≤ R.cells → slots + (m1.2.1 - m.2.1) ≤ R.slots →
    vx_Run p l e R s mth margs below meth c H locs cells slots (m1.1 - m.1) (m1.2.1 - m.2.1) (F0 mth pc A (stk.map (pm_mv Γ))) (st.map (pm_mv Γ)) (pm_Q Γ o1 m1 (args.map (pm_mv Γ)).toArray) (pm_X Γ o1 m1) (fun q => Γ.2.2.2.size ≤ q)
def pm_ck (r : pmR) (g : Option Value → pmM → pmR) : pmR := match r with
  | some (.inl v, m1) => g v m1
  | some (.inr k, m1) => some (.inr k, m1)
  | none => none
/-- the call of a method in a method without handlers -/
theorem pm_calls {stk args : List Value} {r res : pmR} {g : Option Value → pmM → pmR} (hh : y.2.2.2.2 = []) (hcall : pm_Call (ls := ls) l Γ y z d pc stk st args m) (hC : pm_C l Γ z d args m r)
    (kk : ∀ v m1, r = some (.inl v, m1) → pm_G l Γ y (d + 1) (pc + 3) ls (v.toList ++ st) m1 (g v m1)) (hres : res = pm_ck r g) (hvm : ∀ v m1 x, g v m1 = some x → (v.toList.map (pm_mv Γ)) = v.toList) : pm_G l Γ y (d + 1) pc ls stk m res := by
  intro o m' hr
  rw [hres] at hr
  unfold pm_ck at hr
  cases hcr : r with
  | none => rw [hcr] at hr; cases hr
  | some q =>
    obtain ⟨o1, m1⟩ := q
    obtain ⟨⟨b1, b2⟩, hMet⟩ := hC o1 m1 hcr
    have hrun := hcall o1 m1 b1 b2 hMet
    cases o1 with
    | inl v =>
      rw [hcr] at hr
      obtain ⟨⟨c1, c2⟩, h2⟩ := kk v m1 hcr o m' hr
      refine ⟨⟨Nat.le_trans b1 c1, Nat.le_trans b2 c2⟩, ?_⟩
      intro p e s mth margs below meth c R H locs cells slots mc ms A hCt a1 a2 a3 a4 a5 a6 a7
      refine pm_run a5 (hrun p e s mth margs below meth c R H locs cells slots A hCt a3 a4 (by omega) (by omega)) (fun v' hv' H' locs' q1 q2 => ?_) (fun k hk => by cases hk)
      cases hv'
      have := h2 p e s mth margs below meth c R H' locs' (cells + (m1.1 - m.1)) (slots + (m1.2.1 - m.2.1)) mc ms A hCt a1 a2 q1 a4 q2 (by omega) (by omega)
      rw [List.map_append, hvm v m1 _ hr] at this
      exact this
    | inr k =>
      rw [hcr] at hr
      cases hr
      refine ⟨⟨b1, b2⟩, ?_⟩
      intro p e s mth margs below meth c R H locs cells slots mc ms A hCt a1 a2 a3 a4 a5 a6 a7
      refine pm_run a5 (hrun p e s mth margs below meth c R H locs cells slots A hCt a3 a4 (by omega) (by omega)) (fun v' hv' => by cases hv') (fun k' hk' q ce H' locs' q1 q2 q3 q4 q5 => ?_)
      cases hk'
      have hxt : c.exceptionTable.toList = [] := by
        have h9 := hCt.2.2.2.2.2.2.2.2.2.1
        rw [hh] at h9
        exact List.map_eq_nil_iff.mp h9
      exact vx_out (E := pm_exn k) (fun x hx => by rw [hxt] at hx; cases hx) hCt.2.2.2.2.2.2.1 q3 q4 q5 (fun t ht hal => ⟨⟨k, rfl, rfl⟩, by rw [ht]; exact pm_heap_moved hal q1⟩) q2 (by omega) (by omega)
end PMK
