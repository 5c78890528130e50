/-! the memory at the start, and that the heap holds it -/
section PSU
variable {b : Nat} {s : State}
def st_byt : List (List Int32) := [[108, 105, 110, 101], [99, 101, 108, 108], [105, 110, 107], [108, 101, 97, 115, 116], [109, 111, 115, 116], [119, 111, 114, 100, 115], [115, 116, 114, 117, 99, 107], [102, 105, 114, 115, 116], [108, 105, 110, 101], [108, 101, 102, 116], [105, 110, 107], [99, 101, 108, 108], [115, 116, 114, 105, 107, 101], [114, 117, 110], [98, 101, 103, 105, 110], [102, 105, 108, 108], [119, 105, 112, 101], [115, 101, 116], [97, 103, 97, 105, 110]]
def st_S (L : Nat) (k : Nat) : pmS := if k = 0 then (100, L, fun _ => none) else if k = 1 then (100, 5, fun _ => none) else if k = 2 then (100, 9, fun _ => none) else if 33 ≤ k ∧ k < 52 then (105, (st_byt.getD (k - 33) []).length, fun _ => none) else (199, 0, fun _ => none)
def st_I (xs : Nat → Int32) (k j : Nat) : Int32 := if k = 0 then xs j else if k = 1 then ([1, -1, 2, -11, -8] : List Int32).getD j 0 else if k = 2 then ([0, 1, 2, 3, 1, 4, 3, 2, 1] : List Int32).getD j 0 else if 33 ≤ k ∧ k < 52 then (st_byt.getD (k - 33) []).getD j 0 else 0
def pm_m0 (L : Nat) (xs : Nat → Int32) : pmM := (64, 0, st_S L, st_I xs, fun _ _ => 0)
def st_ρ (b t1 t2 fm : Nat) (as vs : List Nat) (sz k : Nat) : Nat := if k = 0 then b else if k = 1 then t1 else if k = 2 then t2 else if 3 ≤ k ∧ k < 22 then as.getD (k - 3) b else if 33 ≤ k ∧ k < 52 then vs.getD (k - 33) b else if k = 63 then fm else if k < 64 then b else sz + (k - 64)
theorem st_ex {args : Array Value} {t : Term} {C : String} (h : (Cond.exactly t C).before args s = true) : ∃ a : Nat, t.eval args s none [] s = some (.ref a) := by
  cases hv : t.eval args s none [] s with
  | none => simp [Cond.before, Cond.holds, Cond.value, hv] at h
  | some w => cases w <;> simp_all [Cond.before, Cond.holds, Cond.value]
theorem st_nest (hts : ∀ w ∈ lw_tbl, w.before #[Value.ref b] s = true) : ∀ w ∈ pm_nest, va_Nw w s := by
  intro w hw
  obtain ⟨h1, h2⟩ := List.mem_filter.mp hw
  have h := hts w h1
  match w, h2, h with
  | .fieldLinkNest _ _ _ _ _ _, _, h => exact va_Nw.of rfl h
  | .methodLinkNest _ _ _ _, _, h => exact va_Nw.of rfl h
  | .castable _ _, _, h => exact va_Nw.of rfl h
  | .declares _, _, h => exact va_Nw.of rfl h
  | .arrayOver (.array _), _, h => exact h
set_option maxHeartbeats 8000000 in
set_option maxRecDepth 100000 in
theorem pm_start {L : Nat} {xs : Nat → Int32} (hts : ∀ w ∈ lw_tbl, w.before #[Value.ref b] s = true) (hX : va_X b L xs s s.heap) (hbl : b < s.heap.size) (hL : L < 2 ^ 31) (hg : (Jvm.Cond.and given_1 narrow_1).before #[Value.ref b] s = true) (hk : ∀ (ci : Nat) (q : vw_C), pm_cls[ci]? = some q → ∃ (cC : ClassId) (iS : Nat → Nat), u_Kn s q.1 q.2.1 q.2.2 cC iS) :
    ∃ Γ : pmG, Γ.2.2.2 = s.heap ∧ Γ.2.2.1 0 = b ∧ pm_env Γ s ∧ pm_heap Γ s (pm_m0 L xs) s.heap := by
  have hs := flat_of_before _ hg
  have hA : ∀ a : Nat, a < s.heap.size → ¬ st_A s a := fun a ha => st_nA ha
  have hk2 : ∀ ci : Nat, ∃ z : ClassId × (Nat → Nat), ∀ q, pm_cls[ci]? = some q → u_Kn s q.1 q.2.1 q.2.2 z.1 z.2 := by
    intro ci
    cases hq : pm_cls[ci]? with
    | none => exact ⟨(0, fun _ => 0), fun q h => by cases h⟩
    | some q =>
      obtain ⟨cC, iS, h⟩ := hk ci q hq
      exact ⟨(cC, iS), fun q' h' => by cases h'; exact h⟩
  obtain ⟨f, hf⟩ := Classical.axiomOfChoice hk2
  obtain ⟨t1, hz1, hT1⟩ := st_plain hts hg
  obtain ⟨t2, hz2, hT2⟩ := st_runv hts hg
  obtain ⟨a3, v3, he3, ho3, hc3, hv3, hT33⟩ := st_s3 hg
  obtain ⟨a4, v4, he4, ho4, hc4, hv4, hT34⟩ := st_s4 hg
  obtain ⟨a5, v5, he5, ho5, hc5, hv5, hT35⟩ := st_s5 hg
  obtain ⟨a6, v6, he6, ho6, hc6, hv6, hT36⟩ := st_s6 hg
  obtain ⟨a7, v7, he7, ho7, hc7, hv7, hT37⟩ := st_s7 hg
  obtain ⟨a8, v8, he8, ho8, hc8, hv8, hT38⟩ := st_s8 hg
  obtain ⟨a9, v9, he9, ho9, hc9, hv9, hT39⟩ := st_s9 hg
  obtain ⟨a10, v10, he10, ho10, hc10, hv10, hT40⟩ := st_s10 hg
  obtain ⟨a11, v11, he11, ho11, hc11, hv11, hT41⟩ := st_s11 hg
  obtain ⟨a12, v12, he12, ho12, hc12, hv12, hT42⟩ := st_s12 hg
  obtain ⟨a13, v13, he13, ho13, hc13, hv13, hT43⟩ := st_s13 hg
  obtain ⟨a14, v14, he14, ho14, hc14, hv14, hT44⟩ := st_s14 hg
  obtain ⟨a15, v15, he15, ho15, hc15, hv15, hT45⟩ := st_s15 hg
  obtain ⟨a16, v16, he16, ho16, hc16, hv16, hT46⟩ := st_s16 hg
  obtain ⟨a17, v17, he17, ho17, hc17, hv17, hT47⟩ := st_s17 hg
  obtain ⟨a18, v18, he18, ho18, hc18, hv18, hT48⟩ := st_s18 hg
  obtain ⟨a19, v19, he19, ho19, hc19, hv19, hT49⟩ := st_s19 hg
  obtain ⟨a20, v20, he20, ho20, hc20, hv20, hT50⟩ := st_s20 hg
  obtain ⟨a21, v21, he21, ho21, hc21, hv21, hT51⟩ := st_s21 hg
  have hU := vx_Zqof (C := Bundle.tN) (n := "UNASSIGNED_STACK") (d := Bundle.steD) (A := st_A s) (hts _ (List.mem_of_getElem? (i := 718) (by decide +kernel))) (hts _ (List.mem_of_getElem? (i := 169) (by decide +kernel))) (hs _ (List.mem_of_getElem? (i := 12) (by decide +kernel))) hA
  have hN := vx_Zqof (C := Bundle.tN) (n := "SUPPRESSED_SENTINEL") (d := Bundle.listD) (A := st_A s) (hts _ (List.mem_of_getElem? (i := 720) (by decide +kernel))) (hts _ (List.mem_of_getElem? (i := 169) (by decide +kernel))) (hs _ (List.mem_of_getElem? (i := 13) (by decide +kernel))) hA
  have hFq := (vx_Zqof (C := "jdk/internal/util/Preconditions") (n := "SIOOBE_FORMATTER") (d := "Ljava/util/function/BiFunction;") (A := st_A s) (hts _ (List.mem_of_getElem? (i := 818) (by decide +kernel))) (hts _ (List.mem_of_getElem? (i := 176) (by decide +kernel))) (hs _ (List.mem_of_getElem? (i := 15) (by decide +kernel))) hA).1
  have hCS := va_Zof (C := "java/lang/String") (n := "COMPACT_STRINGS") (d := "Z") (A := st_A s) (hts _ (List.mem_of_getElem? (i := 802) (by decide +kernel))) (hts _ (List.mem_of_getElem? (i := 174) (by decide +kernel))) (va_eqi (hs _ (List.mem_of_getElem? (i := 14) (by decide +kernel)))) hA
  have hNc := va_Nc.of (hs _ (List.mem_of_getElem? (i := 52) (by decide +kernel)))
  obtain ⟨fm, hfm1, hfm2⟩ : ∃ fm : Nat, fm < s.heap.size ∧ (va_Z "jdk/internal/util/Preconditions" "SIOOBE_FORMATTER" "Ljava/util/function/BiFunction;" .null (st_A s) s s.heap ∨ va_Z "jdk/internal/util/Preconditions" "SIOOBE_FORMATTER" "Ljava/util/function/BiFunction;" (.ref fm) (st_A s) s s.heap) := by
    rcases hFq with h | ⟨t, h⟩
    · exact ⟨b, hbl, Or.inl h⟩
    · sorry
  refine ⟨(fun k => (f k).1, fun k => (f k).2, st_ρ b t1 t2 fm [a3, a4, a5, a6, a7, a8, a9, a10, a11, a12, a13, a14, a15, a16, a17, a18, a19, a20, a21] [v3, v4, v5, v6, v7, v8, v9, v10, v11, v12, v13, v14, v15, v16, v17, v18, v19, v20, v21] s.heap.size, s.heap), rfl, rfl, ⟨hf, ⟨fun k hk9 => ?_, fun k hk9 => ?_⟩, st_nest hts, fun q hq => ?_, fun q hq => ?_, fun q hq => ?_, hU, hN, fun q hq => ?_, hfm2, hNc⟩, ?_⟩
  all_goals sorry
end PSU
