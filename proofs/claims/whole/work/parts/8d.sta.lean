/-! the memory at the start, and that the heap holds it. Written by wip/whole/gen/gen8d.py -/
section PSU
variable {b : Nat} {s : State}
def st_ρ (b t1 t2 fm : Nat) (as vs : List Nat) (sz k : Nat) : Nat := if k = 0 then b else if k = 1 then t1 else if k = 2 then t2 else if 3 ≤ k ∧ k < 22 then as.getD (k - 3) b else if 33 ≤ k ∧ k < 52 then vs.getD (k - 33) b else if k = 63 then fm else if k < 64 then b else sz + (k - 64)
theorem st_ex {args : Array Value} {t : Term} {C : String} (h : (Cond.exactly t C).before args s = true) : ∃ a : Nat, t.eval args s none [] s = some (.ref a) := by
  cases hv : t.eval args s none [] s with
  | none => simp [Cond.before, Cond.holds, Cond.value, hv] at h
  | some w => cases w <;> cases hf : s.vm.findClass C <;> simp_all [Cond.before, Cond.holds, Cond.value]
theorem st_nest (hts : ∀ w ∈ lw_tbl, w.before #[Value.ref b] s = true) : ∀ w ∈ pm_nest, va_Nw w s := by
  intro w hw
  obtain ⟨h1, h2⟩ := List.mem_filter.mp hw
  have h := hts w h1
  match w, h2, h with
  | .fieldLinkNest _ _ _ _ _ _, _, h => exact va_Nw.of rfl h
  | .methodLinkNest _ _ _ _, _, h => exact va_Nw.of rfl h
  | .castable _ _, _, h => exact va_Nw.of rfl h
  | .declares _, _, h => exact va_Nw.of rfl h
  | .arrayOver (.array _), _, h => exact h
theorem st_lt {ty : FieldType} {t N : Nat} {f : Nat → Value} {A : Nat → Prop} {H : Heap} (h : va_T ty t N f A s H) : t < H.size := by
  obtain ⟨cell, h1, -⟩ := h
  exact (Array.getElem?_eq_some_iff.mp h1).1
theorem st_lo {E : String} {t : Nat} {A : Nat → Prop} {H : Heap} (h : va_O E t A s H) : t < H.size := by
  obtain ⟨cell, h1, -⟩ := h
  exact (Array.getElem?_eq_some_iff.mp h1).1
theorem st_gd {n b : Nat} (hb : b < n) : ∀ {as : List Nat} (i : Nat), (∀ a ∈ as, a < n) → as.getD i b < n
  | [], i, _ => by simpa using hb
  | a :: as, 0, h => by simpa using h a List.mem_cons_self
  | a :: as, i + 1, h => by simpa using st_gd hb (as := as) i (fun a ha => h a (List.mem_cons_of_mem _ ha))
theorem st_cell {Γ : pmG} {L N kd k t : Nat} {xs : Nat → Int32} {ty : FieldType} {f : Nat → Value} {A : Nat → Prop} {H : Heap} (h : va_T ty t N f A s H) (hS : st_S L k = (kd, N, fun _ => none)) (hk : kd = 100 ∨ kd = 105) (hty : pm_aty kd = ty) (hf : ∀ j, j < N → f j = .int (st_I xs k j)) : ∃ cell : Cell, H[t]? = some cell ∧ pm_cell Γ s (pm_m0 L xs) k cell := by
  obtain ⟨cell, h1, h2, h3, h4, h5, h6, -⟩ := h
  refine ⟨cell, h1, fun h9 => ?_, fun _ => ?_⟩
  · exfalso
    have h9 : (st_S L k).1 < 100 := h9
    rw [hS] at h9
    rcases hk with rfl | rfl
    · exact absurd (show (100 : Nat) < 100 from h9) (by decide)
    · exact absurd (show (105 : Nat) < 100 from h9) (by decide)
  · show s.isArrayOf cell (pm_aty (st_S L k).1) ∧ cell.vm ≠ .unknown ∧ ((st_S L k).2.1 ≤ cell.slots.size ∧ cell.slots.size.toInt32 = nI (st_S L k).2.1) ∧ ∀ j, j < (st_S L k).2.1 → cell.slots[j]? = some (pm_av Γ (pm_m0 L xs) k j)
    have hav : ∀ j, pm_av Γ (pm_m0 L xs) k j = .int (st_I xs k j) := by
      intro j
      show (if (st_S L k).1 = 102 then _ else if (st_S L k).1 = 103 ∨ (st_S L k).1 = 104 then _ else Value.int (st_I xs k j)) = _
      rw [hS]
      show (if kd = 102 then _ else if kd = 103 ∨ kd = 104 then _ else Value.int (st_I xs k j)) = _
      rw [if_neg (by omega), if_neg (by omega)]
    rw [hS]
    refine ⟨by rw [hty]; exact h2, h3, ⟨h4, h5⟩, fun j hj => ?_⟩
    rw [hav j, h6 j hj, hf j hj]
set_option maxHeartbeats 8000000 in
set_option maxRecDepth 100000 in
theorem pm_start {L : Nat} {xs : Nat → Int32} (hts : ∀ w ∈ lw_tbl, w.before #[Value.ref b] s = true) (hX : va_X b L xs s s.heap) (hbl : b < s.heap.size) (hg : (Jvm.Cond.and given_1 narrow_1).before #[Value.ref b] s = true) (hk : ∀ (ci : Nat) (q : vw_C), pm_cls[ci]? = some q → ∃ (cC : ClassId) (iS : Nat → Nat), u_Kn s q.1 q.2.1 q.2.2 cC iS) :
    ∃ Γ : pmG, Γ.2.2.2 = s.heap ∧ Γ.2.2.1 0 = b ∧ pm_env Γ s ∧ pm_heap Γ s (pm_m0 L xs) s.heap := by
  have hs := flat_of_before _ hg
  have hA : ∀ a : Nat, a < s.heap.size → ¬ st_A s a := fun a ha => st_nA ha
  have hk2 : ∀ ci : Nat, ∃ z : ClassId × (Nat → Nat), ∀ q, pm_cls[ci]? = some q → u_Kn s q.1 q.2.1 q.2.2 z.1 z.2 := by
    intro ci
    cases hq : pm_cls[ci]? with
    | none => exact ⟨(0, fun _ => 0), fun q h => by cases h⟩
    | some q =>
      obtain ⟨cC, iS, h⟩ := hk ci q hq
      exact ⟨(cC, iS), fun q' h' => by cases h'; exact h⟩
  obtain ⟨f, hf⟩ := Classical.axiomOfChoice hk2
  obtain ⟨t1, hz1, hT1⟩ := st_plain hts hg
  obtain ⟨t2, hz2, hT2⟩ := st_runv hts hg
  obtain ⟨a3, v3, he3, ho3, hc3, hv3, hT33⟩ := st_s3 hg
  obtain ⟨a4, v4, he4, ho4, hc4, hv4, hT34⟩ := st_s4 hg
  obtain ⟨a5, v5, he5, ho5, hc5, hv5, hT35⟩ := st_s5 hg
  obtain ⟨a6, v6, he6, ho6, hc6, hv6, hT36⟩ := st_s6 hg
  obtain ⟨a7, v7, he7, ho7, hc7, hv7, hT37⟩ := st_s7 hg
  obtain ⟨a8, v8, he8, ho8, hc8, hv8, hT38⟩ := st_s8 hg
  obtain ⟨a9, v9, he9, ho9, hc9, hv9, hT39⟩ := st_s9 hg
  obtain ⟨a10, v10, he10, ho10, hc10, hv10, hT40⟩ := st_s10 hg
  obtain ⟨a11, v11, he11, ho11, hc11, hv11, hT41⟩ := st_s11 hg
  obtain ⟨a12, v12, he12, ho12, hc12, hv12, hT42⟩ := st_s12 hg
  obtain ⟨a13, v13, he13, ho13, hc13, hv13, hT43⟩ := st_s13 hg
  obtain ⟨a14, v14, he14, ho14, hc14, hv14, hT44⟩ := st_s14 hg
  obtain ⟨a15, v15, he15, ho15, hc15, hv15, hT45⟩ := st_s15 hg
  obtain ⟨a16, v16, he16, ho16, hc16, hv16, hT46⟩ := st_s16 hg
  obtain ⟨a17, v17, he17, ho17, hc17, hv17, hT47⟩ := st_s17 hg
  obtain ⟨a18, v18, he18, ho18, hc18, hv18, hT48⟩ := st_s18 hg
  obtain ⟨a19, v19, he19, ho19, hc19, hv19, hT49⟩ := st_s19 hg
  obtain ⟨a20, v20, he20, ho20, hc20, hv20, hT50⟩ := st_s20 hg
  obtain ⟨a21, v21, he21, ho21, hc21, hv21, hT51⟩ := st_s21 hg
  have hU := vx_Zqof (C := Bundle.tN) (n := "UNASSIGNED_STACK") (d := Bundle.steD) (A := st_A s) (hts _ (List.mem_of_getElem? (i := 715) (by decide +kernel))) (hts _ (List.mem_of_getElem? (i := 167) (by decide +kernel))) (hs _ (List.mem_of_getElem? (i := 12) (by decide +kernel))) hA
  have hN := vx_Zqof (C := Bundle.tN) (n := "SUPPRESSED_SENTINEL") (d := Bundle.listD) (A := st_A s) (hts _ (List.mem_of_getElem? (i := 717) (by decide +kernel))) (hts _ (List.mem_of_getElem? (i := 167) (by decide +kernel))) (hs _ (List.mem_of_getElem? (i := 13) (by decide +kernel))) hA
  have hFq := (vx_Zqof (C := "jdk/internal/util/Preconditions") (n := "SIOOBE_FORMATTER") (d := "Ljava/util/function/BiFunction;") (A := st_A s) (hts _ (List.mem_of_getElem? (i := 815) (by decide +kernel))) (hts _ (List.mem_of_getElem? (i := 174) (by decide +kernel))) (hs _ (List.mem_of_getElem? (i := 15) (by decide +kernel))) hA).1
  have hCS := va_Zof (C := "java/lang/String") (n := "COMPACT_STRINGS") (d := "Z") (A := st_A s) (hts _ (List.mem_of_getElem? (i := 799) (by decide +kernel))) (hts _ (List.mem_of_getElem? (i := 172) (by decide +kernel))) (va_eqi (show (Cond.eq (Term.static "java/lang/String" "COMPACT_STRINGS" "Z") (Term.int 1)).before #[Value.ref b] s = true from hs _ (List.mem_of_getElem? (i := 14) (by decide +kernel)))) hA
  have hNc := va_Nc.of (show (Cond.not (Cond.castable "java/lang/IllegalArgumentException" "java/util/NoSuchElementException")).before #[Value.ref b] s = true from hs _ (List.mem_of_getElem? (i := 52) (by decide +kernel)))
  obtain ⟨fm, hfm1, hfm2⟩ : ∃ fm : Nat, fm < s.heap.size ∧ (va_Z "jdk/internal/util/Preconditions" "SIOOBE_FORMATTER" "Ljava/util/function/BiFunction;" .null (st_A s) s s.heap ∨ ∃ k : Nat, va_Z "jdk/internal/util/Preconditions" "SIOOBE_FORMATTER" "Ljava/util/function/BiFunction;" (.ref (st_ρ b t1 t2 fm [a3, a4, a5, a6, a7, a8, a9, a10, a11, a12, a13, a14, a15, a16, a17, a18, a19, a20, a21] [v3, v4, v5, v6, v7, v8, v9, v10, v11, v12, v13, v14, v15, v16, v17, v18, v19, v20, v21] s.heap.size k)) (st_A s) s s.heap) := by
    rcases hFq with h | ⟨t, h⟩
    · exact ⟨b, hbl, Or.inl h⟩
    · by_cases ht : t < s.heap.size
      · exact ⟨t, ht, Or.inr ⟨63, h⟩⟩
      · refine ⟨b, hbl, Or.inr ⟨64 + (t - s.heap.size), ?_⟩⟩
        have e : st_ρ b t1 t2 b [a3, a4, a5, a6, a7, a8, a9, a10, a11, a12, a13, a14, a15, a16, a17, a18, a19, a20, a21] [v3, v4, v5, v6, v7, v8, v9, v10, v11, v12, v13, v14, v15, v16, v17, v18, v19, v20, v21] s.heap.size (64 + (t - s.heap.size)) = t := by
          unfold st_ρ
          rw [if_neg (by omega), if_neg (by omega), if_neg (by omega), if_neg (by omega), if_neg (by omega), if_neg (by omega), if_neg (by omega)]
          omega
        rw [e]
        exact h
  have hAs : ∀ a ∈ [a3, a4, a5, a6, a7, a8, a9, a10, a11, a12, a13, a14, a15, a16, a17, a18, a19, a20, a21], a < s.heap.size := List.forall_mem_cons.mpr ⟨st_lo ho3, List.forall_mem_cons.mpr ⟨st_lo ho4, List.forall_mem_cons.mpr ⟨st_lo ho5, List.forall_mem_cons.mpr ⟨st_lo ho6, List.forall_mem_cons.mpr ⟨st_lo ho7, List.forall_mem_cons.mpr ⟨st_lo ho8, List.forall_mem_cons.mpr ⟨st_lo ho9, List.forall_mem_cons.mpr ⟨st_lo ho10, List.forall_mem_cons.mpr ⟨st_lo ho11, List.forall_mem_cons.mpr ⟨st_lo ho12, List.forall_mem_cons.mpr ⟨st_lo ho13, List.forall_mem_cons.mpr ⟨st_lo ho14, List.forall_mem_cons.mpr ⟨st_lo ho15, List.forall_mem_cons.mpr ⟨st_lo ho16, List.forall_mem_cons.mpr ⟨st_lo ho17, List.forall_mem_cons.mpr ⟨st_lo ho18, List.forall_mem_cons.mpr ⟨st_lo ho19, List.forall_mem_cons.mpr ⟨st_lo ho20, List.forall_mem_cons.mpr ⟨st_lo ho21, fun _ h => absurd h List.not_mem_nil⟩⟩⟩⟩⟩⟩⟩⟩⟩⟩⟩⟩⟩⟩⟩⟩⟩⟩⟩
  have hVs : ∀ a ∈ [v3, v4, v5, v6, v7, v8, v9, v10, v11, v12, v13, v14, v15, v16, v17, v18, v19, v20, v21], a < s.heap.size := List.forall_mem_cons.mpr ⟨st_lt hT33, List.forall_mem_cons.mpr ⟨st_lt hT34, List.forall_mem_cons.mpr ⟨st_lt hT35, List.forall_mem_cons.mpr ⟨st_lt hT36, List.forall_mem_cons.mpr ⟨st_lt hT37, List.forall_mem_cons.mpr ⟨st_lt hT38, List.forall_mem_cons.mpr ⟨st_lt hT39, List.forall_mem_cons.mpr ⟨st_lt hT40, List.forall_mem_cons.mpr ⟨st_lt hT41, List.forall_mem_cons.mpr ⟨st_lt hT42, List.forall_mem_cons.mpr ⟨st_lt hT43, List.forall_mem_cons.mpr ⟨st_lt hT44, List.forall_mem_cons.mpr ⟨st_lt hT45, List.forall_mem_cons.mpr ⟨st_lt hT46, List.forall_mem_cons.mpr ⟨st_lt hT47, List.forall_mem_cons.mpr ⟨st_lt hT48, List.forall_mem_cons.mpr ⟨st_lt hT49, List.forall_mem_cons.mpr ⟨st_lt hT50, List.forall_mem_cons.mpr ⟨st_lt hT51, fun _ h => absurd h List.not_mem_nil⟩⟩⟩⟩⟩⟩⟩⟩⟩⟩⟩⟩⟩⟩⟩⟩⟩⟩⟩
  refine ⟨(fun k => (f k).1, fun k => (f k).2, st_ρ b t1 t2 fm [a3, a4, a5, a6, a7, a8, a9, a10, a11, a12, a13, a14, a15, a16, a17, a18, a19, a20, a21] [v3, v4, v5, v6, v7, v8, v9, v10, v11, v12, v13, v14, v15, v16, v17, v18, v19, v20, v21] s.heap.size, s.heap), rfl, rfl, ⟨hf, ⟨fun k hk9 => ?_, fun k hk9 => ?_⟩, st_nest hts, List.forall_mem_cons.mpr ⟨hz1, List.forall_mem_cons.mpr ⟨hz2, List.forall_mem_cons.mpr ⟨hCS, fun _ h => absurd h List.not_mem_nil⟩⟩⟩, List.forall_mem_cons.mpr ⟨vk_R.of (hts _ (List.mem_of_getElem? (i := 785) (by decide +kernel))) he3, List.forall_mem_cons.mpr ⟨vk_R.of (hts _ (List.mem_of_getElem? (i := 838) (by decide +kernel))) he4, List.forall_mem_cons.mpr ⟨vk_R.of (hts _ (List.mem_of_getElem? (i := 839) (by decide +kernel))) he5, List.forall_mem_cons.mpr ⟨vk_R.of (hts _ (List.mem_of_getElem? (i := 913) (by decide +kernel))) he6, List.forall_mem_cons.mpr ⟨vk_R.of (hts _ (List.mem_of_getElem? (i := 915) (by decide +kernel))) he7, List.forall_mem_cons.mpr ⟨vk_R.of (hts _ (List.mem_of_getElem? (i := 923) (by decide +kernel))) he8, List.forall_mem_cons.mpr ⟨vk_R.of (hts _ (List.mem_of_getElem? (i := 924) (by decide +kernel))) he9, List.forall_mem_cons.mpr ⟨vk_R.of (hts _ (List.mem_of_getElem? (i := 925) (by decide +kernel))) he10, List.forall_mem_cons.mpr ⟨vk_R.of (hts _ (List.mem_of_getElem? (i := 926) (by decide +kernel))) he11, List.forall_mem_cons.mpr ⟨vk_R.of (hts _ (List.mem_of_getElem? (i := 927) (by decide +kernel))) he12, List.forall_mem_cons.mpr ⟨vk_R.of (hts _ (List.mem_of_getElem? (i := 928) (by decide +kernel))) he13, List.forall_mem_cons.mpr ⟨vk_R.of (hts _ (List.mem_of_getElem? (i := 929) (by decide +kernel))) he14, List.forall_mem_cons.mpr ⟨vk_R.of (hts _ (List.mem_of_getElem? (i := 958) (by decide +kernel))) he15, List.forall_mem_cons.mpr ⟨vk_R.of (hts _ (List.mem_of_getElem? (i := 960) (by decide +kernel))) he16, List.forall_mem_cons.mpr ⟨vk_R.of (hts _ (List.mem_of_getElem? (i := 961) (by decide +kernel))) he17, List.forall_mem_cons.mpr ⟨vk_R.of (hts _ (List.mem_of_getElem? (i := 962) (by decide +kernel))) he18, List.forall_mem_cons.mpr ⟨vk_R.of (hts _ (List.mem_of_getElem? (i := 963) (by decide +kernel))) he19, List.forall_mem_cons.mpr ⟨vk_R.of (hts _ (List.mem_of_getElem? (i := 964) (by decide +kernel))) he20, List.forall_mem_cons.mpr ⟨vk_R.of (hts _ (List.mem_of_getElem? (i := 965) (by decide +kernel))) he21, fun _ h => absurd h List.not_mem_nil⟩⟩⟩⟩⟩⟩⟩⟩⟩⟩⟩⟩⟩⟩⟩⟩⟩⟩⟩, List.forall_mem_cons.mpr ⟨(st_ex (C := "java/lang/String") (hs _ (List.mem_of_getElem? (i := 53) (by decide +kernel)))).imp fun _ h => vk_R.of (hts _ (List.mem_of_getElem? (i := 728) (by decide +kernel))) h, List.forall_mem_cons.mpr ⟨(st_ex (C := "java/lang/String") (hs _ (List.mem_of_getElem? (i := 435) (by decide +kernel)))).imp fun _ h => vk_R.of (hts _ (List.mem_of_getElem? (i := 1110) (by decide +kernel))) h, List.forall_mem_cons.mpr ⟨(st_ex (C := "java/lang/String") (hs _ (List.mem_of_getElem? (i := 471) (by decide +kernel)))).imp fun _ h => vk_R.of (hts _ (List.mem_of_getElem? (i := 1137) (by decide +kernel))) h, fun _ h => absurd h List.not_mem_nil⟩⟩⟩, hU, hN, List.forall_mem_cons.mpr ⟨⟨ho3, hc3, hv3⟩, List.forall_mem_cons.mpr ⟨⟨ho4, hc4, hv4⟩, List.forall_mem_cons.mpr ⟨⟨ho5, hc5, hv5⟩, List.forall_mem_cons.mpr ⟨⟨ho6, hc6, hv6⟩, List.forall_mem_cons.mpr ⟨⟨ho7, hc7, hv7⟩, List.forall_mem_cons.mpr ⟨⟨ho8, hc8, hv8⟩, List.forall_mem_cons.mpr ⟨⟨ho9, hc9, hv9⟩, List.forall_mem_cons.mpr ⟨⟨ho10, hc10, hv10⟩, List.forall_mem_cons.mpr ⟨⟨ho11, hc11, hv11⟩, List.forall_mem_cons.mpr ⟨⟨ho12, hc12, hv12⟩, List.forall_mem_cons.mpr ⟨⟨ho13, hc13, hv13⟩, List.forall_mem_cons.mpr ⟨⟨ho14, hc14, hv14⟩, List.forall_mem_cons.mpr ⟨⟨ho15, hc15, hv15⟩, List.forall_mem_cons.mpr ⟨⟨ho16, hc16, hv16⟩, List.forall_mem_cons.mpr ⟨⟨ho17, hc17, hv17⟩, List.forall_mem_cons.mpr ⟨⟨ho18, hc18, hv18⟩, List.forall_mem_cons.mpr ⟨⟨ho19, hc19, hv19⟩, List.forall_mem_cons.mpr ⟨⟨ho20, hc20, hv20⟩, List.forall_mem_cons.mpr ⟨⟨ho21, hc21, hv21⟩, fun _ h => absurd h List.not_mem_nil⟩⟩⟩⟩⟩⟩⟩⟩⟩⟩⟩⟩⟩⟩⟩⟩⟩⟩⟩, hfm2, hNc⟩, ⟨⟨rfl, Nat.le_refl _⟩, fun q hq => rfl, fun k hk9 hk8 => ?_⟩⟩
  · have hk9 : 64 ≤ k := hk9
    show st_ρ b t1 t2 fm [a3, a4, a5, a6, a7, a8, a9, a10, a11, a12, a13, a14, a15, a16, a17, a18, a19, a20, a21] [v3, v4, v5, v6, v7, v8, v9, v10, v11, v12, v13, v14, v15, v16, v17, v18, v19, v20, v21] s.heap.size k = s.heap.size + (k - 64)
    unfold st_ρ
    rw [if_neg (by omega), if_neg (by omega), if_neg (by omega), if_neg (by omega), if_neg (by omega), if_neg (by omega), if_neg (by omega)]
  · have hk9 : k < 64 := hk9
    show st_ρ b t1 t2 fm [a3, a4, a5, a6, a7, a8, a9, a10, a11, a12, a13, a14, a15, a16, a17, a18, a19, a20, a21] [v3, v4, v5, v6, v7, v8, v9, v10, v11, v12, v13, v14, v15, v16, v17, v18, v19, v20, v21] s.heap.size k < s.heap.size
    unfold st_ρ
    by_cases e0 : k = 0
    · rw [if_pos e0]; exact hbl
    rw [if_neg e0]
    by_cases e1 : k = 1
    · rw [if_pos e1]; exact st_lt hT1
    rw [if_neg e1]
    by_cases e2 : k = 2
    · rw [if_pos e2]; exact st_lt hT2
    rw [if_neg e2]
    by_cases e3 : 3 ≤ k ∧ k < 22
    · rw [if_pos e3]; exact st_gd hbl _ hAs
    rw [if_neg e3]
    by_cases e4 : 33 ≤ k ∧ k < 52
    · rw [if_pos e4]; exact st_gd hbl _ hVs
    rw [if_neg e4]
    by_cases e5 : k = 63
    · rw [if_pos e5]; exact hfm1
    rw [if_neg e5, if_pos hk9]; exact hbl
  · have hk8 : (st_S L k).1 < 106 := hk8
    have hk9 : k < 64 := hk9
    rcases (by omega : k = 0 ∨ k = 1 ∨ k = 2 ∨ k = 33 ∨ k = 34 ∨ k = 35 ∨ k = 36 ∨ k = 37 ∨ k = 38 ∨ k = 39 ∨ k = 40 ∨ k = 41 ∨ k = 42 ∨ k = 43 ∨ k = 44 ∨ k = 45 ∨ k = 46 ∨ k = 47 ∨ k = 48 ∨ k = 49 ∨ k = 50 ∨ k = 51 ∨ (k ≠ 0 ∧ k ≠ 1 ∧ k ≠ 2 ∧ ¬ (33 ≤ k ∧ k < 52))) with rfl | rfl | rfl | rfl | rfl | rfl | rfl | rfl | rfl | rfl | rfl | rfl | rfl | rfl | rfl | rfl | rfl | rfl | rfl | rfl | rfl | rfl | ⟨e0, e1, e2, e3⟩
    · obtain ⟨scr, g1, g2, g3, g4, g5⟩ := hX
      exact st_cell (ty := .int) (t := b) (N := L) (f := fun j => .int (xs j)) (A := fun _ => False) (H := s.heap) ⟨scr, g1, g2, g3, by omega, by rw [g4], g5, fun h => h⟩ rfl (Or.inl rfl) rfl (fun j _ => rfl)
    · exact st_cell hT1 rfl (Or.inl rfl) rfl (fun j _ => rfl)
    · exact st_cell hT2 rfl (Or.inl rfl) rfl (fun j _ => rfl)
    · exact st_cell hT33 rfl (Or.inr rfl) rfl (fun j _ => rfl)
    · exact st_cell hT34 rfl (Or.inr rfl) rfl (fun j _ => rfl)
    · exact st_cell hT35 rfl (Or.inr rfl) rfl (fun j _ => rfl)
    · exact st_cell hT36 rfl (Or.inr rfl) rfl (fun j _ => rfl)
    · exact st_cell hT37 rfl (Or.inr rfl) rfl (fun j _ => rfl)
    · exact st_cell hT38 rfl (Or.inr rfl) rfl (fun j _ => rfl)
    · exact st_cell hT39 rfl (Or.inr rfl) rfl (fun j _ => rfl)
    · exact st_cell hT40 rfl (Or.inr rfl) rfl (fun j _ => rfl)
    · exact st_cell hT41 rfl (Or.inr rfl) rfl (fun j _ => rfl)
    · exact st_cell hT42 rfl (Or.inr rfl) rfl (fun j _ => rfl)
    · exact st_cell hT43 rfl (Or.inr rfl) rfl (fun j _ => rfl)
    · exact st_cell hT44 rfl (Or.inr rfl) rfl (fun j _ => rfl)
    · exact st_cell hT45 rfl (Or.inr rfl) rfl (fun j _ => rfl)
    · exact st_cell hT46 rfl (Or.inr rfl) rfl (fun j _ => rfl)
    · exact st_cell hT47 rfl (Or.inr rfl) rfl (fun j _ => rfl)
    · exact st_cell hT48 rfl (Or.inr rfl) rfl (fun j _ => rfl)
    · exact st_cell hT49 rfl (Or.inr rfl) rfl (fun j _ => rfl)
    · exact st_cell hT50 rfl (Or.inr rfl) rfl (fun j _ => rfl)
    · exact st_cell hT51 rfl (Or.inr rfl) rfl (fun j _ => rfl)
    · exfalso
      unfold st_S at hk8
      rw [if_neg e0, if_neg e1, if_neg e2, if_neg e3] at hk8
      exact absurd hk8 (by decide)
theorem st_cls (hts : ∀ w ∈ lw_tbl, w.before #[Value.ref b] s = true) (ci : Nat) (q : vw_C) (hq : pm_cls[ci]? = some q) : ∃ (cC : ClassId) (iS : Nat → Nat), u_Kn s q.1 q.2.1 q.2.2 cC iS := by
  match ci, hq with
  | 0, hq => cases hq; exact u_known (n := 9) (pm_tbl_of hts) pm_w0 (hts (.instantiable "StruckPage$Desk" 9) (List.mem_of_getElem? (i := 353) (by decide +kernel)))
  | 1, hq => cases hq; exact u_known (n := 4) (pm_tbl_of hts) pm_w1 (hts (.instantiable "StruckPage$Law" 4) (List.mem_of_getElem? (i := 267) (by decide +kernel)))
  | 2, hq => cases hq; exact u_known (n := 6) (pm_tbl_of hts) pm_w2 (hts (.instantiable "StruckPage$Paper" 6) (List.mem_of_getElem? (i := 232) (by decide +kernel)))
  | 3, hq => cases hq; exact u_known (n := 2) (pm_tbl_of hts) pm_w3 (hts (.instantiable "StruckPage$Saying" 2) (List.mem_of_getElem? (i := 295) (by decide +kernel)))
  | 4, hq => cases hq; exact u_known (n := 6) (pm_tbl_of hts) pm_w4 (hts (.instantiable "StruckPage$Search" 6) (List.mem_of_getElem? (i := 414) (by decide +kernel)))
  | 5, hq => cases hq; exact u_known (n := 4) (pm_tbl_of hts) pm_w5 (hts (.instantiable "StruckPage$Shelf" 4) (List.mem_of_getElem? (i := 393) (by decide +kernel)))
  | 6, hq => cases hq; exact u_known (n := 10) (pm_tbl_of hts) pm_w6 (hts (.instantiable "StruckPage$Steps" 10) (List.mem_of_getElem? (i := 313) (by decide +kernel)))
  | 7, hq => cases hq; exact u_known (n := 8) (pm_tbl_of hts) pm_w7 (hts (.instantiable "StruckPage$Text" 8) (List.mem_of_getElem? (i := 187) (by decide +kernel)))
  | 8, hq => cases hq; exact u_known (n := 15) (pm_tbl_of hts) pm_w8 (hts (.instantiable "StruckPage" 15) (List.mem_of_getElem? (i := 179) (by decide +kernel)))
  | 9, hq => cases hq; exact u_known (n := 55) (pm_tbl_of hts) pm_w9 (hts (.instantiable "StruckPageModel" 55) (List.mem_of_getElem? (i := 1346) (by decide +kernel)))
  | n + 10, hq => exact absurd hq (by simp [pm_cls])
end PSU
