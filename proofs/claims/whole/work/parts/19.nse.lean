/-! throw new NoSuchElementException(".."); a method of which an argument is not asked -/
section PMN
variable {l : Launch} {Γ : pmG} {y z : pmY} {d pc : Nat} {ls st : List Value} {m : pmM}
theorem pm_throwNW {ik is ic : Nat} {text : String} (hh : y.2.2.2.2 = []) (h : pm_xOkN y.1.cls text ik is ic) (hdp : pm_dp st ≤ 50)
    (d0 : decode y.2.1 pc = .ok (.new ik, 3)) (d3 : decode y.2.1 (pc + 3) = .ok (.dup, 1)) (d4 : decode y.2.1 (pc + 4) = .ok (.ldc_w is, 3)) (d7 : decode y.2.1 (pc + 7) = .ok (.invokespecial ic, 3)) (d10 : decode y.2.1 (pc + 10) = .ok (.athrow, 1)) :
    pm_G l Γ y d pc ls st m (some (.inr 0, pm_al m (199, 0, fun _ => none) 6)) := by
  sorry
theorem pm_enterS {args : List Value} {res : pmR} (hfl : l.flags = flags0) (hp : plainName z.1.cls = true) (hh : z.2.2.2.2 = []) (hlen : ls.length ≤ z.2.2.1) (hls : ∀ q ∈ pm_pairs Γ ls, q ∈ lv_args 0 (args.map (pm_mv Γ))) (hfit : (lg_sl (args.map (pm_mv Γ))).length ≤ z.2.2.1)
    (k : pm_G l Γ z d 0 ls [] m res) : pm_C l Γ z d args m res := by
  intro o m' hr
  obtain ⟨h1, h2⟩ := k o m' hr
  refine ⟨h1, vx_ofW (cc := z.2.1) (maxL := z.2.2.1) (ret := z.2.2.2.1) (ws' := pm_tbl) hp (by unfold pm_ws; rw [if_pos hh]) ?_⟩
  intro p e s mth a below meth c s₁ B hml hxt hv
  obtain ⟨rfl, hE, hH⟩ := hv
  have hts := atoms_spec (ws := pm_ws z) B.pre
  have hl := lv_entry (args.map (pm_mv Γ)) (n := z.2.2.1) hfit
  rw [lg_entry_eq]
  refine h2 p e s mth _ below meth c _ s.heap [] 0 0 _ _ _ ⟨B.exec, B.bytes, B.returns, hml, findClass_of_methodNamed B.named, fun w hw => hts w (List.mem_cons_of_mem _ hw), B.notSynchronized, (name_of_methodNamed B.named B.method).1, hE, ?_, Nat.le_refl _, Nat.le_refl _, ⟨by have q1 := hH.1.1; have q2 := hH.1.2; omega, hH.2.1⟩, hfl⟩ (Nat.le_refl _) (Nat.le_refl _) hH ⟨hlen, hl.1, hl.2.1, fun q hq => hl.2.2 q (hls q hq)⟩ (fun q h => by cases h) (by omega) (by omega)
  rw [hh]
  have : c.exceptionTable.toList = [] := by
    cases hc : c.exceptionTable.toList with
    | nil => rfl
    | cons x r => exact (hxt x (by rw [hc]; exact List.mem_cons_self)).elim
  rw [this]
  rfl
end PMN
