/-! methods with handlers (the law's own): entering, being called, catching -/
section PMD
variable {l : Launch} {Γ : pmG} {y z : pmY} {d pc : Nat} {ls st : List Value} {m : pmM}
theorem pm_enterH {args : List Value} {res : pmR} (hfl : l.flags = flags0) (hp : plainName z.1.cls = true) (hh : z.2.2.2.2 ≠ []) (hlen : ls.length ≤ z.2.2.1) (hls : pm_pairs Γ ls = lv_args 0 (args.map (pm_mv Γ))) (hfit : (lg_sl (args.map (pm_mv Γ))).length ≤ z.2.2.1)
    (k : pm_G l Γ z d 0 ls [] m res) : pm_C l Γ z d args m res := by
  intro o m' hr
  obtain ⟨h1, h2⟩ := k o m' hr
  have hws : pm_ws z = Cond.codeWith z.1 z.2.1 z.2.2.1 z.2.2.2.1 z.2.2.2.2 :: pm_tbl := by unfold pm_ws; rw [if_neg hh]
  refine ⟨h1, vx_ofWH (cc := z.2.1) (maxL := z.2.2.1) (ret := z.2.2.2.1) (hh := z.2.2.2.2) (ws' := pm_tbl) hp hws ?_⟩
  intro p e s mth a below meth c s₁ B hml hv
  obtain ⟨rfl, hE, hH⟩ := hv
  have hts := atoms_spec (ws := pm_ws z) B.pre
  have hcw : (Cond.codeWith z.1 z.2.1 z.2.2.1 z.2.2.2.1 z.2.2.2.2).before (args.map (pm_mv Γ)).toArray s = true := hts _ (by rw [hws]; exact List.mem_cons_self)
  obtain ⟨m9, meth9, c9, e1, e2, e3, -, -, e4, -, -, -⟩ := Cond.codeWith_spec hcw
  have hl := lv_entry (args.map (pm_mv Γ)) (n := z.2.2.1) hfit
  have hcc : c9 = c := by
    have q1 : m9 = mth := Option.some.inj (e1.symm.trans B.named)
    subst q1
    have q2 : meth9 = meth := Option.some.inj (e2.symm.trans B.method)
    subst q2
    have X₀ : Stand p l e (headSpec (pm_ws z) _).room s m9 _ below meth9 c s₁ [] 0 0 := Stand.of_body B
    exact Option.some.inj (e3.symm.trans X₀.code)
  subst hcc
  rw [lg_entry_eq]
  exact h2 p e s mth _ below meth c9 _ s.heap [] 0 0 _ _ _ ⟨B.exec, B.bytes, B.returns, hml, findClass_of_methodNamed B.named, fun w hw => hts w (by rw [hws]; exact List.mem_cons_of_mem _ hw), B.notSynchronized, (name_of_methodNamed B.named B.method).1, hE, e4, Nat.le_refl _, Nat.le_refl _, ⟨by have q1 := hH.1.1; have q2 := hH.1.2; omega, hH.2.1⟩, hfl⟩ (Nat.le_refl _) (Nat.le_refl _) hH ⟨hlen, by rw [hls]; exact hl⟩ (fun q h => by cases h) (by omega) (by omega)
def pm_zOkH (z : pmY) (n : Nat) : Prop := z.2.2.2.2 ≠ [] ∧ Cond.codeWith z.1 z.2.1 z.2.2.1 z.2.2.2.1 z.2.2.2.2 ∈ pm_tbl ∧ Cond.initialized z.1.cls ∈ pm_tbl ∧ (z.1.cls ≠ "java/lang/invoke/MethodHandle" ∧ z.1.cls ≠ "java/lang/invoke/VarHandle" ∧ (parseMethodDescriptor z.1.desc).map (fun d => d.parameters.length) = some n) ∧ z.2.2.1 ≤ 80
theorem pm_SX {index n : Nat} {As stk : List Value} (h : pm_zOkH z n) (hw : Cond.methodLink y.1.cls index z.1 ∈ pm_tbl) (hw2 : Cond.static z.1 ∈ pm_tbl) (hd : decode y.2.1 pc = .ok (.invokestatic index, 3)) (hstk : stk = As.reverse ++ st) (hn : As.length = n) (hdp : pm_dp st ≤ 8) : pm_Call (ls := ls) l Γ y z d pc stk st As m := by
  intro o1 m1 b1 b2 hMet p e s mth margs below meth c R H locs cells slots A hC hH hl hc hs
  obtain ⟨hx, hbb, hr, hml, hown, hts, hlk, hnm, hE, hxt, hf1, hf2, hba, -⟩ := hC
  obtain ⟨g1, g2, g3, ⟨g4, g5, g6⟩, g7⟩ := h
  have hws : pm_ws z = Cond.codeWith z.1 z.2.1 z.2.2.1 z.2.2.2.1 z.2.2.2.2 :: pm_tbl := by unfold pm_ws; rw [if_neg g1]
  have hgood : GoodIn pm_tbl (pm_ws z) := by
    intro w hw9
    rw [hws] at hw9
    rcases List.mem_cons.mp hw9 with e9 | e9
    · rw [e9]; exact pm_good _ g2
    · exact pm_good _ e9
  exact vx_runSX (hh := z.2.2.2.2) (bytes := z.2.1) (maxL := z.2.2.1) (ret := z.2.2.2.1) (g := F0 mth pc A (stk.map (pm_mv Γ))) (As := As.map (pm_mv Γ)) (rest := st.map (pm_mv Γ)) (n := n) (nL := y.2.2.1) ⟨hx, hbb, hml, hown, hts⟩ hMet
    ⟨⟨rfl, rfl, by show 2 * d + 8 + 1 ≤ _; omega, by show 8 + (z.2.2.1 + 11) + (100 * d + 200) ≤ _; omega, pay_in hts hgood, by rw [hws]; exact List.mem_cons_self⟩, hts _ g2, hts _ g3, ⟨g4, g5⟩, fun sig hsig => by rw [hsig] at g6; simpa using g6.symm, hts _ hw, hts _ hw2⟩
    ⟨pm_blind, pm_pre hE hH⟩ rfl (by rw [List.length_map]; exact hn) hl.2.1 (by rw [hstk]; simp) (by rw [pm_sum]; unfold pm_dp at hdp; show 2 * 0 + _ ≤ 8; omega) hd ⟨hc, hs⟩
/-- an exception is put away: the local is no longer asked -/
theorem pm_ls_un {n i : Nat} {w : Value} {A' : Array Slot} {lv : List (Nat × Value)} (hn : ls.length ≤ n) (hnd : pm_nd ls = true) (hlv : lv = (i, w) :: (pm_pairs Γ ls).filter (fun q => !(q.1 == i) && !(q.1 + 1 == i && q.2.category == 2))) (h : lv_has A' n lv) : pm_ls Γ n (pm_set ls i pmU) A' := by
  refine ⟨by unfold pm_set; rw [List.length_set, pm_kill_len]; exact hn, h.1, h.2.1, ?_⟩
  rintro ⟨j, w2⟩ hq
  obtain ⟨v2, h1, h2, rfl⟩ := pm_mem.mp hq
  refine h.2.2 (j, pm_mv Γ v2) ?_
  rw [hlv]
  unfold pm_set at h1
  by_cases hj : i = j
  · subst hj
    have hlen : i < (pm_kill ls i).length := by
      have := (List.getElem?_eq_some_iff.mp h1).1
      rwa [List.length_set] at this
    rw [List.getElem?_set_self hlen] at h1
    exact absurd (Option.some.inj h1).symm h2
  · rw [List.getElem?_set_ne hj] at h1
    obtain ⟨g1, g2⟩ := pm_kill_at h1 h2
    refine List.mem_cons_of_mem _ (List.mem_filter.mpr ⟨pm_mem.mpr ⟨v2, g1, h2, rfl⟩, ?_⟩)
    have e1 : (j == i) = false := by simpa using Ne.symm hj
    rw [Bool.and_eq_true]
    refine ⟨by simp [e1], ?_⟩
    by_cases e2 : j + 1 = i
    · rw [pm_cat2 (g2 e2) (pm_nd_at hnd g1)]; simp
    · simp [e2]
/-- where a handler takes what was thrown -/
def pm_Hd (l : Launch) (Γ : pmG) (y : pmY) (d pc : Nat) (ls : List Value) (k : Nat) (m1 : pmM) (r : pmR) : Prop :=
  r = none ∨ ∃ (pre suf : List (Nat × Nat × Nat × Nat)) (a b hpc ct i len : Nat), y.2.2.2.2 = pre ++ (a, b, hpc, ct) :: suf ∧ (∀ q ∈ pre, k = 1 ∧ q.2.2.2 ≠ 0 ∧ Cond.classLink y.1.cls q.2.2.2 "java/util/NoSuchElementException" ∈ pm_tbl) ∧ a ≤ pc ∧ pc < b ∧ ct ≠ 0 ∧ Cond.classLink y.1.cls ct (pm_exn k) ∈ pm_tbl ∧ Cond.castable (pm_exn k) (pm_exn k) ∈ pm_nest ∧
    ((len = 2 ∧ decode y.2.1 hpc = .ok (.astore i, 2)) ∨ (len = 1 ∧ ∃ j : Fin 4, (j : Nat) = i ∧ decode y.2.1 hpc = .ok (.astore_n j, 1))) ∧ i < y.2.2.1 ∧ pm_nd ls = true ∧ pm_G l Γ y d (hpc + len) (pm_set ls i pmU) [] m1 r
def pm_ckH (r : pmR) (g : Option Value → pmM → pmR) (h : Nat → pmM → pmR) : pmR := match r with
  | some (.inl v, m1) => g v m1
  | some (.inr k, m1) => h k m1
  | none => none
theorem pm_callsH {stk args : List Value} {r res : pmR} {g : Option Value → pmM → pmR} {h : Nat → pmM → pmR} (hcall : pm_Call (ls := ls) l Γ y z d pc stk st args m) (hC : pm_C l Γ z d args m r)
    (kk : ∀ v m1, r = some (.inl v, m1) → pm_G l Γ y (d + 1) (pc + 3) ls (v.toList ++ st) m1 (g v m1)) (kx : ∀ k m1, pm_Hd l Γ y (d + 1) pc ls k m1 (h k m1)) (hres : res = pm_ckH r g h) (hvm : ∀ v m1 x, g v m1 = some x → (v.toList.map (pm_mv Γ)) = v.toList) : pm_G l Γ y (d + 1) pc ls stk m res := by
  intro o m' hr
  rw [hres] at hr
  unfold pm_ckH at hr
  cases hcr : r with
  | none => rw [hcr] at hr; cases hr
  | some q =>
    obtain ⟨o1, m1⟩ := q
    obtain ⟨⟨b1, b2⟩, hMet⟩ := hC o1 m1 hcr
    have hrun := hcall o1 m1 b1 b2 hMet
    cases o1 with
    | inl v =>
      rw [hcr] at hr
      obtain ⟨⟨c1, c2⟩, h2⟩ := kk v m1 hcr o m' hr
      refine ⟨⟨Nat.le_trans b1 c1, Nat.le_trans b2 c2⟩, ?_⟩
      intro p e s mth margs below meth c R H locs cells slots mc ms A hCt a1 a2 a3 a4 a5 a6 a7
      refine pm_run a5 (hrun p e s mth margs below meth c R H locs cells slots A hCt a3 a4 (by omega) (by omega)) (fun v' hv' H' locs' q1 q2 => ?_) (fun k hk => by cases hk)
      cases hv'
      have := h2 p e s mth margs below meth c R H' locs' (cells + (m1.1 - m.1)) (slots + (m1.2.1 - m.2.1)) mc ms A hCt a1 a2 q1 a4 q2 (by omega) (by omega)
      rw [List.map_append, hvm v m1 _ hr] at this
      exact this
    | inr k =>
      rw [hcr] at hr
      have hr : h k m1 = some (o, m') := hr
      rcases kx k m1 with hno | ⟨pre, suf, a, b, hpc, ct, i, len, t1, t2, t3, t4, t5, t6, t7, t8, t9, t10, t11⟩
      · rw [hno] at hr; cases hr
      obtain ⟨⟨c1, c2⟩, h2⟩ := t11 o m' hr
      refine ⟨⟨Nat.le_trans b1 c1, Nat.le_trans b2 c2⟩, ?_⟩
      intro p e s mth margs below meth c R H locs cells slots mc ms A hCt a1 a2 a3 a4 a5 a6 a7
      refine pm_run a5 (hrun p e s mth margs below meth c R H locs cells slots A hCt a3 a4 (by omega) (by omega)) (fun v' hv' => by cases hv') (fun k' hk' q ce H' locs' q1 q2 q3 q4 q5 => ?_)
      cases hk'
      have hCt' := hCt
      obtain ⟨hx, hbb, hr9, hml, hown, hts, hlk, hnm, hE, hxt, hf1, hf2, hba, hfl⟩ := hCt
      rw [t1] at hxt
      have hinj : ∀ (L : List ExceptionTableEntry) (P : List (Nat × Nat × Nat × Nat)), L.map (fun x => (x.startPc, x.endPc, x.handlerPc, x.catchType)) = P → L = P.map (fun q => ⟨q.1, q.2.1, q.2.2.1, q.2.2.2⟩) := by
        intro L P hLP
        rw [← hLP, List.map_map]
        conv => lhs; rw [← List.map_id L]
        rfl
      have htab := hinj _ _ hxt
      rw [List.map_append, List.map_cons] at htab
      refine vx_catch (own := y.1.cls) (name := pm_exn k) (E := pm_exn k) hown (pre.map (fun q => ⟨q.1, q.2.1, q.2.2.1, q.2.2.2⟩)) ⟨a, b, hpc, ct⟩ (suf.map (fun q => ⟨q.1, q.2.1, q.2.2.1, q.2.2.2⟩)) htab (fun x hx9 => ?_) ?_ t5 (hts _ t6) (va_Nw.use rfl (hE.2.2.1 _ t7)) q3 q4 q5 ?_
      · obtain ⟨w, hw, rfl⟩ := List.mem_map.mp hx9
        obtain ⟨u1, u2, u3⟩ := t2 w hw
        refine Or.inr ⟨u2, _, hts _ u3, ?_⟩
        rw [u1]
        exact hE.2.2.2.2.2.2.2.2.2.2
      · simp [covers, t3, t4]
      · rcases t8 with ⟨rfl, hd8⟩ | ⟨rfl, j, hj, hd8⟩
        · exact lv_astore hx hbb hd8 a4.2 t9 rfl (fun A9 h9 => h2 p e s mth margs below meth c R H' locs' (cells + (m1.1 - m.1)) (slots + (m1.2.1 - m.2.1)) mc ms A9 hCt' a1 a2 q1 (pm_ls_un a4.1 t10 rfl h9) q2 (by omega) (by omega))
        · exact lv_astore_n hx hbb hd8 hj a4.2 t9 rfl (fun A9 h9 => h2 p e s mth margs below meth c R H' locs' (cells + (m1.1 - m.1)) (slots + (m1.2.1 - m.2.1)) mc ms A9 hCt' a1 a2 q1 (pm_ls_un a4.1 t10 rfl h9) q2 (by omega) (by omega))
def pm_cIH (r : pmR) (f : Int32 → pmM → pmR) (h : Nat → pmM → pmR) : pmR := match r with
  | some (.inl (some (.int x)), m1) => f x m1
  | some (.inr k, m1) => h k m1
  | _ => none
def pm_cLH (r : pmR) (f : Int64 → pmM → pmR) (h : Nat → pmM → pmR) : pmR := match r with
  | some (.inl (some (.long x)), m1) => f x m1
  | some (.inr k, m1) => h k m1
  | _ => none
theorem pm_kIH {stk args : List Value} {r : pmR} {f : Int32 → pmM → pmR} {h : Nat → pmM → pmR} (hcall : pm_Call (ls := ls) l Γ y z d pc stk st args m) (hC : pm_C l Γ z d args m r) (kx : ∀ k m1, pm_Hd l Γ y (d + 1) pc ls k m1 (h k m1)) (kk : ∀ x m1, pm_G l Γ y (d + 1) (pc + 3) ls (.int x :: st) m1 (f x m1)) : pm_G l Γ y (d + 1) pc ls stk m (pm_cIH r f h) := by
  refine pm_callsH (g := fun v m1 => match v with | some (.int x) => f x m1 | _ => none) (h := h) hcall hC (fun v m1 _ => ?_) kx ?_ (fun v m1 x hr => ?_)
  · cases v with
    | none => exact pm_none
    | some w => cases w <;> first | exact kk _ _ | exact pm_none
  · unfold pm_cIH pm_ckH
    rcases r with _ | ⟨(_ | w) | k, m1⟩
    · rfl
    · rfl
    · cases w <;> rfl
    · rfl
  · cases v with
    | none => rfl
    | some w => cases w <;> first | rfl | cases hr
theorem pm_kLH {stk args : List Value} {r : pmR} {f : Int64 → pmM → pmR} {h : Nat → pmM → pmR} (hcall : pm_Call (ls := ls) l Γ y z d pc stk st args m) (hC : pm_C l Γ z d args m r) (kx : ∀ k m1, pm_Hd l Γ y (d + 1) pc ls k m1 (h k m1)) (kk : ∀ x m1, pm_G l Γ y (d + 1) (pc + 3) ls (.long x :: st) m1 (f x m1)) : pm_G l Γ y (d + 1) pc ls stk m (pm_cLH r f h) := by
  refine pm_callsH (g := fun v m1 => match v with | some (.long x) => f x m1 | _ => none) (h := h) hcall hC (fun v m1 _ => ?_) kx ?_ (fun v m1 x hr => ?_)
  · cases v with
    | none => exact pm_none
    | some w => cases w <;> first | exact kk _ _ | exact pm_none
  · unfold pm_cLH pm_ckH
    rcases r with _ | ⟨(_ | w) | k, m1⟩
    · rfl
    · rfl
    · cases w <;> rfl
    · rfl
  · cases v with
    | none => rfl
    | some w => cases w <;> first | rfl | cases hr
end PMD
