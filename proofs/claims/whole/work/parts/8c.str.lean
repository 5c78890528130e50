/-! the start: constant texts, static rows -/
section PST
variable {b : Nat} {s : State}
theorem st_eq {args : Array Value} {t : Term} {z : Int32} (h : (Cond.eq t (.int z)).before args s = true) : t.eval args s none [] s = some (.int z) := by
  cases hv : t.eval args s none [] s with
  | none => simp [Cond.before, Cond.holds, Cond.value, hv] at h
  | some w =>
    have hz : (Term.int z).eval args s none [] s = some (.int z) := rfl
    simp only [Cond.before, Cond.holds, Cond.value, hv, hz] at h
    cases w <;> simp_all
abbrev st_A (s : State) : Nat → Prop := fun q => s.heap.size ≤ q
theorem st_nA {a : Nat} (h : a < s.heap.size) : ¬ st_A s a := Nat.not_le.mpr h
set_option maxHeartbeats 4000000 in
theorem st_s3 (hg : (Jvm.Cond.and given_1 narrow_1).before #[Value.ref b] s = true) : ∃ a v : Nat, (Term.string "StruckPage$Paper" 51).eval #[Value.ref b] s none [] s = some (.ref a) ∧ va_O "java/lang/String" a (st_A s) s s.heap ∧ va_OF "java/lang/String" "coder" "B" (.int 0) a (st_A s) s s.heap ∧ va_OF "java/lang/String" "value" "[B" (.ref v) a (st_A s) s s.heap ∧ va_T .byte v 4 (fun j => .int (([108, 105, 110, 101] : List Int32).getD j 0)) (st_A s) s s.heap := by
  have hs := flat_of_before _ hg
  obtain ⟨adK, adV, h1, h2⟩ := vk_Sof (args := #[Value.ref b]) (s := s) (N := 1) (tm := fun _ => Term.string "StruckPage$Paper" 51) (len := [4]) (byt := [[108, 105, 110, 101]]) (A := st_A s) (fun i hi => by
      obtain rfl : i = 0 := by omega
      decide) (fun i hi => by
      obtain rfl : i = 0 := by omega
      exact (hs _ (List.mem_of_getElem? (i := 88) (by decide +kernel)))) (fun i hi => by
      obtain rfl : i = 0 := by omega
      exact (hs _ (List.mem_of_getElem? (i := 89) (by decide +kernel)))) (fun i hi => by
      obtain rfl : i = 0 := by omega
      exact (hs _ (List.mem_of_getElem? (i := 90) (by decide +kernel)))) (fun i hi => by
      obtain rfl : i = 0 := by omega
      exact (hs _ (List.mem_of_getElem? (i := 91) (by decide +kernel)))) (fun i hi => by
      obtain rfl : i = 0 := by omega
      exact lt_s (lt_s (lt_s (lt_s (lt_0) (hs _ (List.mem_of_getElem? (i := 92) (by decide +kernel)))) (hs _ (List.mem_of_getElem? (i := 93) (by decide +kernel)))) (hs _ (List.mem_of_getElem? (i := 94) (by decide +kernel)))) (hs _ (List.mem_of_getElem? (i := 95) (by decide +kernel)))) (fun i j hi hj hne => absurd (show i = j by omega) hne) (fun a ha => st_nA ha)
  obtain ⟨q1, q2, q3, q4⟩ := h1.1 0 (by decide)
  exact ⟨adK 0, adV 0, h2 0 (by decide), q1, q2, q3, q4⟩
set_option maxHeartbeats 4000000 in
theorem st_s4 (hg : (Jvm.Cond.and given_1 narrow_1).before #[Value.ref b] s = true) : ∃ a v : Nat, (Term.string "StruckPage$Paper" 57).eval #[Value.ref b] s none [] s = some (.ref a) ∧ va_O "java/lang/String" a (st_A s) s s.heap ∧ va_OF "java/lang/String" "coder" "B" (.int 0) a (st_A s) s s.heap ∧ va_OF "java/lang/String" "value" "[B" (.ref v) a (st_A s) s s.heap ∧ va_T .byte v 4 (fun j => .int (([99, 101, 108, 108] : List Int32).getD j 0)) (st_A s) s s.heap := by
  have hs := flat_of_before _ hg
  obtain ⟨adK, adV, h1, h2⟩ := vk_Sof (args := #[Value.ref b]) (s := s) (N := 1) (tm := fun _ => Term.string "StruckPage$Paper" 57) (len := [4]) (byt := [[99, 101, 108, 108]]) (A := st_A s) (fun i hi => by
      obtain rfl : i = 0 := by omega
      decide) (fun i hi => by
      obtain rfl : i = 0 := by omega
      exact (hs _ (List.mem_of_getElem? (i := 97) (by decide +kernel)))) (fun i hi => by
      obtain rfl : i = 0 := by omega
      exact (hs _ (List.mem_of_getElem? (i := 98) (by decide +kernel)))) (fun i hi => by
      obtain rfl : i = 0 := by omega
      exact (hs _ (List.mem_of_getElem? (i := 99) (by decide +kernel)))) (fun i hi => by
      obtain rfl : i = 0 := by omega
      exact (hs _ (List.mem_of_getElem? (i := 100) (by decide +kernel)))) (fun i hi => by
      obtain rfl : i = 0 := by omega
      exact lt_s (lt_s (lt_s (lt_s (lt_0) (hs _ (List.mem_of_getElem? (i := 101) (by decide +kernel)))) (hs _ (List.mem_of_getElem? (i := 102) (by decide +kernel)))) (hs _ (List.mem_of_getElem? (i := 103) (by decide +kernel)))) (hs _ (List.mem_of_getElem? (i := 104) (by decide +kernel)))) (fun i j hi hj hne => absurd (show i = j by omega) hne) (fun a ha => st_nA ha)
  obtain ⟨q1, q2, q3, q4⟩ := h1.1 0 (by decide)
  exact ⟨adK 0, adV 0, h2 0 (by decide), q1, q2, q3, q4⟩
set_option maxHeartbeats 4000000 in
theorem st_s5 (hg : (Jvm.Cond.and given_1 narrow_1).before #[Value.ref b] s = true) : ∃ a v : Nat, (Term.string "StruckPage$Paper" 59).eval #[Value.ref b] s none [] s = some (.ref a) ∧ va_O "java/lang/String" a (st_A s) s s.heap ∧ va_OF "java/lang/String" "coder" "B" (.int 0) a (st_A s) s s.heap ∧ va_OF "java/lang/String" "value" "[B" (.ref v) a (st_A s) s s.heap ∧ va_T .byte v 3 (fun j => .int (([105, 110, 107] : List Int32).getD j 0)) (st_A s) s s.heap := by
  have hs := flat_of_before _ hg
  obtain ⟨adK, adV, h1, h2⟩ := vk_Sof (args := #[Value.ref b]) (s := s) (N := 1) (tm := fun _ => Term.string "StruckPage$Paper" 59) (len := [3]) (byt := [[105, 110, 107]]) (A := st_A s) (fun i hi => by
      obtain rfl : i = 0 := by omega
      decide) (fun i hi => by
      obtain rfl : i = 0 := by omega
      exact (hs _ (List.mem_of_getElem? (i := 107) (by decide +kernel)))) (fun i hi => by
      obtain rfl : i = 0 := by omega
      exact (hs _ (List.mem_of_getElem? (i := 108) (by decide +kernel)))) (fun i hi => by
      obtain rfl : i = 0 := by omega
      exact (hs _ (List.mem_of_getElem? (i := 109) (by decide +kernel)))) (fun i hi => by
      obtain rfl : i = 0 := by omega
      exact (hs _ (List.mem_of_getElem? (i := 110) (by decide +kernel)))) (fun i hi => by
      obtain rfl : i = 0 := by omega
      exact lt_s (lt_s (lt_s (lt_0) (hs _ (List.mem_of_getElem? (i := 111) (by decide +kernel)))) (hs _ (List.mem_of_getElem? (i := 112) (by decide +kernel)))) (hs _ (List.mem_of_getElem? (i := 113) (by decide +kernel)))) (fun i j hi hj hne => absurd (show i = j by omega) hne) (fun a ha => st_nA ha)
  obtain ⟨q1, q2, q3, q4⟩ := h1.1 0 (by decide)
  exact ⟨adK 0, adV 0, h2 0 (by decide), q1, q2, q3, q4⟩
set_option maxHeartbeats 4000000 in
theorem st_s6 (hg : (Jvm.Cond.and given_1 narrow_1).before #[Value.ref b] s = true) : ∃ a v : Nat, (Term.string "StruckPage$Law" 94).eval #[Value.ref b] s none [] s = some (.ref a) ∧ va_O "java/lang/String" a (st_A s) s s.heap ∧ va_OF "java/lang/String" "coder" "B" (.int 0) a (st_A s) s s.heap ∧ va_OF "java/lang/String" "value" "[B" (.ref v) a (st_A s) s s.heap ∧ va_T .byte v 5 (fun j => .int (([108, 101, 97, 115, 116] : List Int32).getD j 0)) (st_A s) s s.heap := by
  have hs := flat_of_before _ hg
  obtain ⟨adK, adV, h1, h2⟩ := vk_Sof (args := #[Value.ref b]) (s := s) (N := 1) (tm := fun _ => Term.string "StruckPage$Law" 94) (len := [5]) (byt := [[108, 101, 97, 115, 116]]) (A := st_A s) (fun i hi => by
      obtain rfl : i = 0 := by omega
      decide) (fun i hi => by
      obtain rfl : i = 0 := by omega
      exact (hs _ (List.mem_of_getElem? (i := 117) (by decide +kernel)))) (fun i hi => by
      obtain rfl : i = 0 := by omega
      exact (hs _ (List.mem_of_getElem? (i := 118) (by decide +kernel)))) (fun i hi => by
      obtain rfl : i = 0 := by omega
      exact (hs _ (List.mem_of_getElem? (i := 119) (by decide +kernel)))) (fun i hi => by
      obtain rfl : i = 0 := by omega
      exact (hs _ (List.mem_of_getElem? (i := 120) (by decide +kernel)))) (fun i hi => by
      obtain rfl : i = 0 := by omega
      exact lt_s (lt_s (lt_s (lt_s (lt_s (lt_0) (hs _ (List.mem_of_getElem? (i := 121) (by decide +kernel)))) (hs _ (List.mem_of_getElem? (i := 122) (by decide +kernel)))) (hs _ (List.mem_of_getElem? (i := 123) (by decide +kernel)))) (hs _ (List.mem_of_getElem? (i := 124) (by decide +kernel)))) (hs _ (List.mem_of_getElem? (i := 125) (by decide +kernel)))) (fun i j hi hj hne => absurd (show i = j by omega) hne) (fun a ha => st_nA ha)
  obtain ⟨q1, q2, q3, q4⟩ := h1.1 0 (by decide)
  exact ⟨adK 0, adV 0, h2 0 (by decide), q1, q2, q3, q4⟩
set_option maxHeartbeats 4000000 in
theorem st_s7 (hg : (Jvm.Cond.and given_1 narrow_1).before #[Value.ref b] s = true) : ∃ a v : Nat, (Term.string "StruckPage$Law" 100).eval #[Value.ref b] s none [] s = some (.ref a) ∧ va_O "java/lang/String" a (st_A s) s s.heap ∧ va_OF "java/lang/String" "coder" "B" (.int 0) a (st_A s) s s.heap ∧ va_OF "java/lang/String" "value" "[B" (.ref v) a (st_A s) s s.heap ∧ va_T .byte v 4 (fun j => .int (([109, 111, 115, 116] : List Int32).getD j 0)) (st_A s) s s.heap := by
  have hs := flat_of_before _ hg
  obtain ⟨adK, adV, h1, h2⟩ := vk_Sof (args := #[Value.ref b]) (s := s) (N := 1) (tm := fun _ => Term.string "StruckPage$Law" 100) (len := [4]) (byt := [[109, 111, 115, 116]]) (A := st_A s) (fun i hi => by
      obtain rfl : i = 0 := by omega
      decide) (fun i hi => by
      obtain rfl : i = 0 := by omega
      exact (hs _ (List.mem_of_getElem? (i := 130) (by decide +kernel)))) (fun i hi => by
      obtain rfl : i = 0 := by omega
      exact (hs _ (List.mem_of_getElem? (i := 131) (by decide +kernel)))) (fun i hi => by
      obtain rfl : i = 0 := by omega
      exact (hs _ (List.mem_of_getElem? (i := 132) (by decide +kernel)))) (fun i hi => by
      obtain rfl : i = 0 := by omega
      exact (hs _ (List.mem_of_getElem? (i := 133) (by decide +kernel)))) (fun i hi => by
      obtain rfl : i = 0 := by omega
      exact lt_s (lt_s (lt_s (lt_s (lt_0) (hs _ (List.mem_of_getElem? (i := 134) (by decide +kernel)))) (hs _ (List.mem_of_getElem? (i := 135) (by decide +kernel)))) (hs _ (List.mem_of_getElem? (i := 136) (by decide +kernel)))) (hs _ (List.mem_of_getElem? (i := 137) (by decide +kernel)))) (fun i j hi hj hne => absurd (show i = j by omega) hne) (fun a ha => st_nA ha)
  obtain ⟨q1, q2, q3, q4⟩ := h1.1 0 (by decide)
  exact ⟨adK 0, adV 0, h2 0 (by decide), q1, q2, q3, q4⟩
set_option maxHeartbeats 4000000 in
theorem st_s8 (hg : (Jvm.Cond.and given_1 narrow_1).before #[Value.ref b] s = true) : ∃ a v : Nat, (Term.string "StruckPage$Law" 113).eval #[Value.ref b] s none [] s = some (.ref a) ∧ va_O "java/lang/String" a (st_A s) s s.heap ∧ va_OF "java/lang/String" "coder" "B" (.int 0) a (st_A s) s s.heap ∧ va_OF "java/lang/String" "value" "[B" (.ref v) a (st_A s) s s.heap ∧ va_T .byte v 5 (fun j => .int (([119, 111, 114, 100, 115] : List Int32).getD j 0)) (st_A s) s s.heap := by
  have hs := flat_of_before _ hg
  obtain ⟨adK, adV, h1, h2⟩ := vk_Sof (args := #[Value.ref b]) (s := s) (N := 1) (tm := fun _ => Term.string "StruckPage$Law" 113) (len := [5]) (byt := [[119, 111, 114, 100, 115]]) (A := st_A s) (fun i hi => by
      obtain rfl : i = 0 := by omega
      decide) (fun i hi => by
      obtain rfl : i = 0 := by omega
      exact (hs _ (List.mem_of_getElem? (i := 143) (by decide +kernel)))) (fun i hi => by
      obtain rfl : i = 0 := by omega
      exact (hs _ (List.mem_of_getElem? (i := 144) (by decide +kernel)))) (fun i hi => by
      obtain rfl : i = 0 := by omega
      exact (hs _ (List.mem_of_getElem? (i := 145) (by decide +kernel)))) (fun i hi => by
      obtain rfl : i = 0 := by omega
      exact (hs _ (List.mem_of_getElem? (i := 146) (by decide +kernel)))) (fun i hi => by
      obtain rfl : i = 0 := by omega
      exact lt_s (lt_s (lt_s (lt_s (lt_s (lt_0) (hs _ (List.mem_of_getElem? (i := 147) (by decide +kernel)))) (hs _ (List.mem_of_getElem? (i := 148) (by decide +kernel)))) (hs _ (List.mem_of_getElem? (i := 149) (by decide +kernel)))) (hs _ (List.mem_of_getElem? (i := 150) (by decide +kernel)))) (hs _ (List.mem_of_getElem? (i := 151) (by decide +kernel)))) (fun i j hi hj hne => absurd (show i = j by omega) hne) (fun a ha => st_nA ha)
  obtain ⟨q1, q2, q3, q4⟩ := h1.1 0 (by decide)
  exact ⟨adK 0, adV 0, h2 0 (by decide), q1, q2, q3, q4⟩
set_option maxHeartbeats 4000000 in
theorem st_s9 (hg : (Jvm.Cond.and given_1 narrow_1).before #[Value.ref b] s = true) : ∃ a v : Nat, (Term.string "StruckPage$Law" 115).eval #[Value.ref b] s none [] s = some (.ref a) ∧ va_O "java/lang/String" a (st_A s) s s.heap ∧ va_OF "java/lang/String" "coder" "B" (.int 0) a (st_A s) s s.heap ∧ va_OF "java/lang/String" "value" "[B" (.ref v) a (st_A s) s s.heap ∧ va_T .byte v 6 (fun j => .int (([115, 116, 114, 117, 99, 107] : List Int32).getD j 0)) (st_A s) s s.heap := by
  have hs := flat_of_before _ hg
  obtain ⟨adK, adV, h1, h2⟩ := vk_Sof (args := #[Value.ref b]) (s := s) (N := 1) (tm := fun _ => Term.string "StruckPage$Law" 115) (len := [6]) (byt := [[115, 116, 114, 117, 99, 107]]) (A := st_A s) (fun i hi => by
      obtain rfl : i = 0 := by omega
      decide) (fun i hi => by
      obtain rfl : i = 0 := by omega
      exact (hs _ (List.mem_of_getElem? (i := 158) (by decide +kernel)))) (fun i hi => by
      obtain rfl : i = 0 := by omega
      exact (hs _ (List.mem_of_getElem? (i := 159) (by decide +kernel)))) (fun i hi => by
      obtain rfl : i = 0 := by omega
      exact (hs _ (List.mem_of_getElem? (i := 160) (by decide +kernel)))) (fun i hi => by
      obtain rfl : i = 0 := by omega
      exact (hs _ (List.mem_of_getElem? (i := 161) (by decide +kernel)))) (fun i hi => by
      obtain rfl : i = 0 := by omega
      exact lt_s (lt_s (lt_s (lt_s (lt_s (lt_s (lt_0) (hs _ (List.mem_of_getElem? (i := 162) (by decide +kernel)))) (hs _ (List.mem_of_getElem? (i := 163) (by decide +kernel)))) (hs _ (List.mem_of_getElem? (i := 164) (by decide +kernel)))) (hs _ (List.mem_of_getElem? (i := 165) (by decide +kernel)))) (hs _ (List.mem_of_getElem? (i := 166) (by decide +kernel)))) (hs _ (List.mem_of_getElem? (i := 167) (by decide +kernel)))) (fun i j hi hj hne => absurd (show i = j by omega) hne) (fun a ha => st_nA ha)
  obtain ⟨q1, q2, q3, q4⟩ := h1.1 0 (by decide)
  exact ⟨adK 0, adV 0, h2 0 (by decide), q1, q2, q3, q4⟩
set_option maxHeartbeats 4000000 in
theorem st_s10 (hg : (Jvm.Cond.and given_1 narrow_1).before #[Value.ref b] s = true) : ∃ a v : Nat, (Term.string "StruckPage$Law" 117).eval #[Value.ref b] s none [] s = some (.ref a) ∧ va_O "java/lang/String" a (st_A s) s s.heap ∧ va_OF "java/lang/String" "coder" "B" (.int 0) a (st_A s) s s.heap ∧ va_OF "java/lang/String" "value" "[B" (.ref v) a (st_A s) s s.heap ∧ va_T .byte v 5 (fun j => .int (([102, 105, 114, 115, 116] : List Int32).getD j 0)) (st_A s) s s.heap := by
  have hs := flat_of_before _ hg
  obtain ⟨adK, adV, h1, h2⟩ := vk_Sof (args := #[Value.ref b]) (s := s) (N := 1) (tm := fun _ => Term.string "StruckPage$Law" 117) (len := [5]) (byt := [[102, 105, 114, 115, 116]]) (A := st_A s) (fun i hi => by
      obtain rfl : i = 0 := by omega
      decide) (fun i hi => by
      obtain rfl : i = 0 := by omega
      exact (hs _ (List.mem_of_getElem? (i := 175) (by decide +kernel)))) (fun i hi => by
      obtain rfl : i = 0 := by omega
      exact (hs _ (List.mem_of_getElem? (i := 176) (by decide +kernel)))) (fun i hi => by
      obtain rfl : i = 0 := by omega
      exact (hs _ (List.mem_of_getElem? (i := 177) (by decide +kernel)))) (fun i hi => by
      obtain rfl : i = 0 := by omega
      exact (hs _ (List.mem_of_getElem? (i := 178) (by decide +kernel)))) (fun i hi => by
      obtain rfl : i = 0 := by omega
      exact lt_s (lt_s (lt_s (lt_s (lt_s (lt_0) (hs _ (List.mem_of_getElem? (i := 179) (by decide +kernel)))) (hs _ (List.mem_of_getElem? (i := 180) (by decide +kernel)))) (hs _ (List.mem_of_getElem? (i := 181) (by decide +kernel)))) (hs _ (List.mem_of_getElem? (i := 182) (by decide +kernel)))) (hs _ (List.mem_of_getElem? (i := 183) (by decide +kernel)))) (fun i j hi hj hne => absurd (show i = j by omega) hne) (fun a ha => st_nA ha)
  obtain ⟨q1, q2, q3, q4⟩ := h1.1 0 (by decide)
  exact ⟨adK 0, adV 0, h2 0 (by decide), q1, q2, q3, q4⟩
set_option maxHeartbeats 4000000 in
theorem st_s11 (hg : (Jvm.Cond.and given_1 narrow_1).before #[Value.ref b] s = true) : ∃ a v : Nat, (Term.string "StruckPage$Law" 119).eval #[Value.ref b] s none [] s = some (.ref a) ∧ va_O "java/lang/String" a (st_A s) s s.heap ∧ va_OF "java/lang/String" "coder" "B" (.int 0) a (st_A s) s s.heap ∧ va_OF "java/lang/String" "value" "[B" (.ref v) a (st_A s) s s.heap ∧ va_T .byte v 4 (fun j => .int (([108, 105, 110, 101] : List Int32).getD j 0)) (st_A s) s s.heap := by
  have hs := flat_of_before _ hg
  obtain ⟨adK, adV, h1, h2⟩ := vk_Sof (args := #[Value.ref b]) (s := s) (N := 1) (tm := fun _ => Term.string "StruckPage$Law" 119) (len := [4]) (byt := [[108, 105, 110, 101]]) (A := st_A s) (fun i hi => by
      obtain rfl : i = 0 := by omega
      decide) (fun i hi => by
      obtain rfl : i = 0 := by omega
      exact (hs _ (List.mem_of_getElem? (i := 192) (by decide +kernel)))) (fun i hi => by
      obtain rfl : i = 0 := by omega
      exact (hs _ (List.mem_of_getElem? (i := 193) (by decide +kernel)))) (fun i hi => by
      obtain rfl : i = 0 := by omega
      exact (hs _ (List.mem_of_getElem? (i := 194) (by decide +kernel)))) (fun i hi => by
      obtain rfl : i = 0 := by omega
      exact (hs _ (List.mem_of_getElem? (i := 195) (by decide +kernel)))) (fun i hi => by
      obtain rfl : i = 0 := by omega
      exact lt_s (lt_s (lt_s (lt_s (lt_0) (hs _ (List.mem_of_getElem? (i := 196) (by decide +kernel)))) (hs _ (List.mem_of_getElem? (i := 197) (by decide +kernel)))) (hs _ (List.mem_of_getElem? (i := 198) (by decide +kernel)))) (hs _ (List.mem_of_getElem? (i := 199) (by decide +kernel)))) (fun i j hi hj hne => absurd (show i = j by omega) hne) (fun a ha => st_nA ha)
  obtain ⟨q1, q2, q3, q4⟩ := h1.1 0 (by decide)
  exact ⟨adK 0, adV 0, h2 0 (by decide), q1, q2, q3, q4⟩
set_option maxHeartbeats 4000000 in
theorem st_s12 (hg : (Jvm.Cond.and given_1 narrow_1).before #[Value.ref b] s = true) : ∃ a v : Nat, (Term.string "StruckPage$Law" 121).eval #[Value.ref b] s none [] s = some (.ref a) ∧ va_O "java/lang/String" a (st_A s) s s.heap ∧ va_OF "java/lang/String" "coder" "B" (.int 0) a (st_A s) s s.heap ∧ va_OF "java/lang/String" "value" "[B" (.ref v) a (st_A s) s s.heap ∧ va_T .byte v 4 (fun j => .int (([108, 101, 102, 116] : List Int32).getD j 0)) (st_A s) s s.heap := by
  have hs := flat_of_before _ hg
  obtain ⟨adK, adV, h1, h2⟩ := vk_Sof (args := #[Value.ref b]) (s := s) (N := 1) (tm := fun _ => Term.string "StruckPage$Law" 121) (len := [4]) (byt := [[108, 101, 102, 116]]) (A := st_A s) (fun i hi => by
      obtain rfl : i = 0 := by omega
      decide) (fun i hi => by
      obtain rfl : i = 0 := by omega
      exact (hs _ (List.mem_of_getElem? (i := 209) (by decide +kernel)))) (fun i hi => by
      obtain rfl : i = 0 := by omega
      exact (hs _ (List.mem_of_getElem? (i := 210) (by decide +kernel)))) (fun i hi => by
      obtain rfl : i = 0 := by omega
      exact (hs _ (List.mem_of_getElem? (i := 211) (by decide +kernel)))) (fun i hi => by
      obtain rfl : i = 0 := by omega
      exact (hs _ (List.mem_of_getElem? (i := 212) (by decide +kernel)))) (fun i hi => by
      obtain rfl : i = 0 := by omega
      exact lt_s (lt_s (lt_s (lt_s (lt_0) (hs _ (List.mem_of_getElem? (i := 213) (by decide +kernel)))) (hs _ (List.mem_of_getElem? (i := 214) (by decide +kernel)))) (hs _ (List.mem_of_getElem? (i := 215) (by decide +kernel)))) (hs _ (List.mem_of_getElem? (i := 216) (by decide +kernel)))) (fun i j hi hj hne => absurd (show i = j by omega) hne) (fun a ha => st_nA ha)
  obtain ⟨q1, q2, q3, q4⟩ := h1.1 0 (by decide)
  exact ⟨adK 0, adV 0, h2 0 (by decide), q1, q2, q3, q4⟩
set_option maxHeartbeats 4000000 in
theorem st_s13 (hg : (Jvm.Cond.and given_1 narrow_1).before #[Value.ref b] s = true) : ∃ a v : Nat, (Term.string "StruckPage$Law" 123).eval #[Value.ref b] s none [] s = some (.ref a) ∧ va_O "java/lang/String" a (st_A s) s s.heap ∧ va_OF "java/lang/String" "coder" "B" (.int 0) a (st_A s) s s.heap ∧ va_OF "java/lang/String" "value" "[B" (.ref v) a (st_A s) s s.heap ∧ va_T .byte v 3 (fun j => .int (([105, 110, 107] : List Int32).getD j 0)) (st_A s) s s.heap := by
  have hs := flat_of_before _ hg
  obtain ⟨adK, adV, h1, h2⟩ := vk_Sof (args := #[Value.ref b]) (s := s) (N := 1) (tm := fun _ => Term.string "StruckPage$Law" 123) (len := [3]) (byt := [[105, 110, 107]]) (A := st_A s) (fun i hi => by
      obtain rfl : i = 0 := by omega
      decide) (fun i hi => by
      obtain rfl : i = 0 := by omega
      exact (hs _ (List.mem_of_getElem? (i := 227) (by decide +kernel)))) (fun i hi => by
      obtain rfl : i = 0 := by omega
      exact (hs _ (List.mem_of_getElem? (i := 228) (by decide +kernel)))) (fun i hi => by
      obtain rfl : i = 0 := by omega
      exact (hs _ (List.mem_of_getElem? (i := 229) (by decide +kernel)))) (fun i hi => by
      obtain rfl : i = 0 := by omega
      exact (hs _ (List.mem_of_getElem? (i := 230) (by decide +kernel)))) (fun i hi => by
      obtain rfl : i = 0 := by omega
      exact lt_s (lt_s (lt_s (lt_0) (hs _ (List.mem_of_getElem? (i := 231) (by decide +kernel)))) (hs _ (List.mem_of_getElem? (i := 232) (by decide +kernel)))) (hs _ (List.mem_of_getElem? (i := 233) (by decide +kernel)))) (fun i j hi hj hne => absurd (show i = j by omega) hne) (fun a ha => st_nA ha)
  obtain ⟨q1, q2, q3, q4⟩ := h1.1 0 (by decide)
  exact ⟨adK 0, adV 0, h2 0 (by decide), q1, q2, q3, q4⟩
set_option maxHeartbeats 4000000 in
theorem st_s14 (hg : (Jvm.Cond.and given_1 narrow_1).before #[Value.ref b] s = true) : ∃ a v : Nat, (Term.string "StruckPage$Law" 125).eval #[Value.ref b] s none [] s = some (.ref a) ∧ va_O "java/lang/String" a (st_A s) s s.heap ∧ va_OF "java/lang/String" "coder" "B" (.int 0) a (st_A s) s s.heap ∧ va_OF "java/lang/String" "value" "[B" (.ref v) a (st_A s) s s.heap ∧ va_T .byte v 4 (fun j => .int (([99, 101, 108, 108] : List Int32).getD j 0)) (st_A s) s s.heap := by
  have hs := flat_of_before _ hg
  obtain ⟨adK, adV, h1, h2⟩ := vk_Sof (args := #[Value.ref b]) (s := s) (N := 1) (tm := fun _ => Term.string "StruckPage$Law" 125) (len := [4]) (byt := [[99, 101, 108, 108]]) (A := st_A s) (fun i hi => by
      obtain rfl : i = 0 := by omega
      decide) (fun i hi => by
      obtain rfl : i = 0 := by omega
      exact (hs _ (List.mem_of_getElem? (i := 245) (by decide +kernel)))) (fun i hi => by
      obtain rfl : i = 0 := by omega
      exact (hs _ (List.mem_of_getElem? (i := 246) (by decide +kernel)))) (fun i hi => by
      obtain rfl : i = 0 := by omega
      exact (hs _ (List.mem_of_getElem? (i := 247) (by decide +kernel)))) (fun i hi => by
      obtain rfl : i = 0 := by omega
      exact (hs _ (List.mem_of_getElem? (i := 248) (by decide +kernel)))) (fun i hi => by
      obtain rfl : i = 0 := by omega
      exact lt_s (lt_s (lt_s (lt_s (lt_0) (hs _ (List.mem_of_getElem? (i := 249) (by decide +kernel)))) (hs _ (List.mem_of_getElem? (i := 250) (by decide +kernel)))) (hs _ (List.mem_of_getElem? (i := 251) (by decide +kernel)))) (hs _ (List.mem_of_getElem? (i := 252) (by decide +kernel)))) (fun i j hi hj hne => absurd (show i = j by omega) hne) (fun a ha => st_nA ha)
  obtain ⟨q1, q2, q3, q4⟩ := h1.1 0 (by decide)
  exact ⟨adK 0, adV 0, h2 0 (by decide), q1, q2, q3, q4⟩
set_option maxHeartbeats 4000000 in
theorem st_s15 (hg : (Jvm.Cond.and given_1 narrow_1).before #[Value.ref b] s = true) : ∃ a v : Nat, (Term.string "StruckPage$Steps" 83).eval #[Value.ref b] s none [] s = some (.ref a) ∧ va_O "java/lang/String" a (st_A s) s s.heap ∧ va_OF "java/lang/String" "coder" "B" (.int 0) a (st_A s) s s.heap ∧ va_OF "java/lang/String" "value" "[B" (.ref v) a (st_A s) s s.heap ∧ va_T .byte v 6 (fun j => .int (([115, 116, 114, 105, 107, 101] : List Int32).getD j 0)) (st_A s) s s.heap := by
  have hs := flat_of_before _ hg
  obtain ⟨adK, adV, h1, h2⟩ := vk_Sof (args := #[Value.ref b]) (s := s) (N := 1) (tm := fun _ => Term.string "StruckPage$Steps" 83) (len := [6]) (byt := [[115, 116, 114, 105, 107, 101]]) (A := st_A s) (fun i hi => by
      obtain rfl : i = 0 := by omega
      decide) (fun i hi => by
      obtain rfl : i = 0 := by omega
      exact (hs _ (List.mem_of_getElem? (i := 265) (by decide +kernel)))) (fun i hi => by
      obtain rfl : i = 0 := by omega
      exact (hs _ (List.mem_of_getElem? (i := 266) (by decide +kernel)))) (fun i hi => by
      obtain rfl : i = 0 := by omega
      exact (hs _ (List.mem_of_getElem? (i := 267) (by decide +kernel)))) (fun i hi => by
      obtain rfl : i = 0 := by omega
      exact (hs _ (List.mem_of_getElem? (i := 268) (by decide +kernel)))) (fun i hi => by
      obtain rfl : i = 0 := by omega
      exact lt_s (lt_s (lt_s (lt_s (lt_s (lt_s (lt_0) (hs _ (List.mem_of_getElem? (i := 269) (by decide +kernel)))) (hs _ (List.mem_of_getElem? (i := 270) (by decide +kernel)))) (hs _ (List.mem_of_getElem? (i := 271) (by decide +kernel)))) (hs _ (List.mem_of_getElem? (i := 272) (by decide +kernel)))) (hs _ (List.mem_of_getElem? (i := 273) (by decide +kernel)))) (hs _ (List.mem_of_getElem? (i := 274) (by decide +kernel)))) (fun i j hi hj hne => absurd (show i = j by omega) hne) (fun a ha => st_nA ha)
  obtain ⟨q1, q2, q3, q4⟩ := h1.1 0 (by decide)
  exact ⟨adK 0, adV 0, h2 0 (by decide), q1, q2, q3, q4⟩
set_option maxHeartbeats 4000000 in
theorem st_s16 (hg : (Jvm.Cond.and given_1 narrow_1).before #[Value.ref b] s = true) : ∃ a v : Nat, (Term.string "StruckPage$Steps" 89).eval #[Value.ref b] s none [] s = some (.ref a) ∧ va_O "java/lang/String" a (st_A s) s s.heap ∧ va_OF "java/lang/String" "coder" "B" (.int 0) a (st_A s) s s.heap ∧ va_OF "java/lang/String" "value" "[B" (.ref v) a (st_A s) s s.heap ∧ va_T .byte v 3 (fun j => .int (([114, 117, 110] : List Int32).getD j 0)) (st_A s) s s.heap := by
  have hs := flat_of_before _ hg
  obtain ⟨adK, adV, h1, h2⟩ := vk_Sof (args := #[Value.ref b]) (s := s) (N := 1) (tm := fun _ => Term.string "StruckPage$Steps" 89) (len := [3]) (byt := [[114, 117, 110]]) (A := st_A s) (fun i hi => by
      obtain rfl : i = 0 := by omega
      decide) (fun i hi => by
      obtain rfl : i = 0 := by omega
      exact (hs _ (List.mem_of_getElem? (i := 288) (by decide +kernel)))) (fun i hi => by
      obtain rfl : i = 0 := by omega
      exact (hs _ (List.mem_of_getElem? (i := 289) (by decide +kernel)))) (fun i hi => by
      obtain rfl : i = 0 := by omega
      exact (hs _ (List.mem_of_getElem? (i := 290) (by decide +kernel)))) (fun i hi => by
      obtain rfl : i = 0 := by omega
      exact (hs _ (List.mem_of_getElem? (i := 291) (by decide +kernel)))) (fun i hi => by
      obtain rfl : i = 0 := by omega
      exact lt_s (lt_s (lt_s (lt_0) (hs _ (List.mem_of_getElem? (i := 292) (by decide +kernel)))) (hs _ (List.mem_of_getElem? (i := 293) (by decide +kernel)))) (hs _ (List.mem_of_getElem? (i := 294) (by decide +kernel)))) (fun i j hi hj hne => absurd (show i = j by omega) hne) (fun a ha => st_nA ha)
  obtain ⟨q1, q2, q3, q4⟩ := h1.1 0 (by decide)
  exact ⟨adK 0, adV 0, h2 0 (by decide), q1, q2, q3, q4⟩
set_option maxHeartbeats 4000000 in
theorem st_s17 (hg : (Jvm.Cond.and given_1 narrow_1).before #[Value.ref b] s = true) : ∃ a v : Nat, (Term.string "StruckPage$Steps" 91).eval #[Value.ref b] s none [] s = some (.ref a) ∧ va_O "java/lang/String" a (st_A s) s s.heap ∧ va_OF "java/lang/String" "coder" "B" (.int 0) a (st_A s) s s.heap ∧ va_OF "java/lang/String" "value" "[B" (.ref v) a (st_A s) s s.heap ∧ va_T .byte v 5 (fun j => .int (([98, 101, 103, 105, 110] : List Int32).getD j 0)) (st_A s) s s.heap := by
  have hs := flat_of_before _ hg
  obtain ⟨adK, adV, h1, h2⟩ := vk_Sof (args := #[Value.ref b]) (s := s) (N := 1) (tm := fun _ => Term.string "StruckPage$Steps" 91) (len := [5]) (byt := [[98, 101, 103, 105, 110]]) (A := st_A s) (fun i hi => by
      obtain rfl : i = 0 := by omega
      decide) (fun i hi => by
      obtain rfl : i = 0 := by omega
      exact (hs _ (List.mem_of_getElem? (i := 309) (by decide +kernel)))) (fun i hi => by
      obtain rfl : i = 0 := by omega
      exact (hs _ (List.mem_of_getElem? (i := 310) (by decide +kernel)))) (fun i hi => by
      obtain rfl : i = 0 := by omega
      exact (hs _ (List.mem_of_getElem? (i := 311) (by decide +kernel)))) (fun i hi => by
      obtain rfl : i = 0 := by omega
      exact (hs _ (List.mem_of_getElem? (i := 312) (by decide +kernel)))) (fun i hi => by
      obtain rfl : i = 0 := by omega
      exact lt_s (lt_s (lt_s (lt_s (lt_s (lt_0) (hs _ (List.mem_of_getElem? (i := 313) (by decide +kernel)))) (hs _ (List.mem_of_getElem? (i := 314) (by decide +kernel)))) (hs _ (List.mem_of_getElem? (i := 315) (by decide +kernel)))) (hs _ (List.mem_of_getElem? (i := 316) (by decide +kernel)))) (hs _ (List.mem_of_getElem? (i := 317) (by decide +kernel)))) (fun i j hi hj hne => absurd (show i = j by omega) hne) (fun a ha => st_nA ha)
  obtain ⟨q1, q2, q3, q4⟩ := h1.1 0 (by decide)
  exact ⟨adK 0, adV 0, h2 0 (by decide), q1, q2, q3, q4⟩
set_option maxHeartbeats 4000000 in
theorem st_s18 (hg : (Jvm.Cond.and given_1 narrow_1).before #[Value.ref b] s = true) : ∃ a v : Nat, (Term.string "StruckPage$Steps" 93).eval #[Value.ref b] s none [] s = some (.ref a) ∧ va_O "java/lang/String" a (st_A s) s s.heap ∧ va_OF "java/lang/String" "coder" "B" (.int 0) a (st_A s) s s.heap ∧ va_OF "java/lang/String" "value" "[B" (.ref v) a (st_A s) s s.heap ∧ va_T .byte v 4 (fun j => .int (([102, 105, 108, 108] : List Int32).getD j 0)) (st_A s) s s.heap := by
  have hs := flat_of_before _ hg
  obtain ⟨adK, adV, h1, h2⟩ := vk_Sof (args := #[Value.ref b]) (s := s) (N := 1) (tm := fun _ => Term.string "StruckPage$Steps" 93) (len := [4]) (byt := [[102, 105, 108, 108]]) (A := st_A s) (fun i hi => by
      obtain rfl : i = 0 := by omega
      decide) (fun i hi => by
      obtain rfl : i = 0 := by omega
      exact (hs _ (List.mem_of_getElem? (i := 333) (by decide +kernel)))) (fun i hi => by
      obtain rfl : i = 0 := by omega
      exact (hs _ (List.mem_of_getElem? (i := 334) (by decide +kernel)))) (fun i hi => by
      obtain rfl : i = 0 := by omega
      exact (hs _ (List.mem_of_getElem? (i := 335) (by decide +kernel)))) (fun i hi => by
      obtain rfl : i = 0 := by omega
      exact (hs _ (List.mem_of_getElem? (i := 336) (by decide +kernel)))) (fun i hi => by
      obtain rfl : i = 0 := by omega
      exact lt_s (lt_s (lt_s (lt_s (lt_0) (hs _ (List.mem_of_getElem? (i := 337) (by decide +kernel)))) (hs _ (List.mem_of_getElem? (i := 338) (by decide +kernel)))) (hs _ (List.mem_of_getElem? (i := 339) (by decide +kernel)))) (hs _ (List.mem_of_getElem? (i := 340) (by decide +kernel)))) (fun i j hi hj hne => absurd (show i = j by omega) hne) (fun a ha => st_nA ha)
  obtain ⟨q1, q2, q3, q4⟩ := h1.1 0 (by decide)
  exact ⟨adK 0, adV 0, h2 0 (by decide), q1, q2, q3, q4⟩
set_option maxHeartbeats 4000000 in
theorem st_s19 (hg : (Jvm.Cond.and given_1 narrow_1).before #[Value.ref b] s = true) : ∃ a v : Nat, (Term.string "StruckPage$Steps" 95).eval #[Value.ref b] s none [] s = some (.ref a) ∧ va_O "java/lang/String" a (st_A s) s s.heap ∧ va_OF "java/lang/String" "coder" "B" (.int 0) a (st_A s) s s.heap ∧ va_OF "java/lang/String" "value" "[B" (.ref v) a (st_A s) s s.heap ∧ va_T .byte v 4 (fun j => .int (([119, 105, 112, 101] : List Int32).getD j 0)) (st_A s) s s.heap := by
  have hs := flat_of_before _ hg
  obtain ⟨adK, adV, h1, h2⟩ := vk_Sof (args := #[Value.ref b]) (s := s) (N := 1) (tm := fun _ => Term.string "StruckPage$Steps" 95) (len := [4]) (byt := [[119, 105, 112, 101]]) (A := st_A s) (fun i hi => by
      obtain rfl : i = 0 := by omega
      decide) (fun i hi => by
      obtain rfl : i = 0 := by omega
      exact (hs _ (List.mem_of_getElem? (i := 357) (by decide +kernel)))) (fun i hi => by
      obtain rfl : i = 0 := by omega
      exact (hs _ (List.mem_of_getElem? (i := 358) (by decide +kernel)))) (fun i hi => by
      obtain rfl : i = 0 := by omega
      exact (hs _ (List.mem_of_getElem? (i := 359) (by decide +kernel)))) (fun i hi => by
      obtain rfl : i = 0 := by omega
      exact (hs _ (List.mem_of_getElem? (i := 360) (by decide +kernel)))) (fun i hi => by
      obtain rfl : i = 0 := by omega
      exact lt_s (lt_s (lt_s (lt_s (lt_0) (hs _ (List.mem_of_getElem? (i := 361) (by decide +kernel)))) (hs _ (List.mem_of_getElem? (i := 362) (by decide +kernel)))) (hs _ (List.mem_of_getElem? (i := 363) (by decide +kernel)))) (hs _ (List.mem_of_getElem? (i := 364) (by decide +kernel)))) (fun i j hi hj hne => absurd (show i = j by omega) hne) (fun a ha => st_nA ha)
  obtain ⟨q1, q2, q3, q4⟩ := h1.1 0 (by decide)
  exact ⟨adK 0, adV 0, h2 0 (by decide), q1, q2, q3, q4⟩
set_option maxHeartbeats 4000000 in
theorem st_s20 (hg : (Jvm.Cond.and given_1 narrow_1).before #[Value.ref b] s = true) : ∃ a v : Nat, (Term.string "StruckPage$Steps" 97).eval #[Value.ref b] s none [] s = some (.ref a) ∧ va_O "java/lang/String" a (st_A s) s s.heap ∧ va_OF "java/lang/String" "coder" "B" (.int 0) a (st_A s) s s.heap ∧ va_OF "java/lang/String" "value" "[B" (.ref v) a (st_A s) s s.heap ∧ va_T .byte v 3 (fun j => .int (([115, 101, 116] : List Int32).getD j 0)) (st_A s) s s.heap := by
  have hs := flat_of_before _ hg
  obtain ⟨adK, adV, h1, h2⟩ := vk_Sof (args := #[Value.ref b]) (s := s) (N := 1) (tm := fun _ => Term.string "StruckPage$Steps" 97) (len := [3]) (byt := [[115, 101, 116]]) (A := st_A s) (fun i hi => by
      obtain rfl : i = 0 := by omega
      decide) (fun i hi => by
      obtain rfl : i = 0 := by omega
      exact (hs _ (List.mem_of_getElem? (i := 382) (by decide +kernel)))) (fun i hi => by
      obtain rfl : i = 0 := by omega
      exact (hs _ (List.mem_of_getElem? (i := 383) (by decide +kernel)))) (fun i hi => by
      obtain rfl : i = 0 := by omega
      exact (hs _ (List.mem_of_getElem? (i := 384) (by decide +kernel)))) (fun i hi => by
      obtain rfl : i = 0 := by omega
      exact (hs _ (List.mem_of_getElem? (i := 385) (by decide +kernel)))) (fun i hi => by
      obtain rfl : i = 0 := by omega
      exact lt_s (lt_s (lt_s (lt_0) (hs _ (List.mem_of_getElem? (i := 386) (by decide +kernel)))) (hs _ (List.mem_of_getElem? (i := 387) (by decide +kernel)))) (hs _ (List.mem_of_getElem? (i := 388) (by decide +kernel)))) (fun i j hi hj hne => absurd (show i = j by omega) hne) (fun a ha => st_nA ha)
  obtain ⟨q1, q2, q3, q4⟩ := h1.1 0 (by decide)
  exact ⟨adK 0, adV 0, h2 0 (by decide), q1, q2, q3, q4⟩
set_option maxHeartbeats 4000000 in
theorem st_s21 (hg : (Jvm.Cond.and given_1 narrow_1).before #[Value.ref b] s = true) : ∃ a v : Nat, (Term.string "StruckPage$Steps" 99).eval #[Value.ref b] s none [] s = some (.ref a) ∧ va_O "java/lang/String" a (st_A s) s s.heap ∧ va_OF "java/lang/String" "coder" "B" (.int 0) a (st_A s) s s.heap ∧ va_OF "java/lang/String" "value" "[B" (.ref v) a (st_A s) s s.heap ∧ va_T .byte v 5 (fun j => .int (([97, 103, 97, 105, 110] : List Int32).getD j 0)) (st_A s) s s.heap := by
  have hs := flat_of_before _ hg
  obtain ⟨adK, adV, h1, h2⟩ := vk_Sof (args := #[Value.ref b]) (s := s) (N := 1) (tm := fun _ => Term.string "StruckPage$Steps" 99) (len := [5]) (byt := [[97, 103, 97, 105, 110]]) (A := st_A s) (fun i hi => by
      obtain rfl : i = 0 := by omega
      decide) (fun i hi => by
      obtain rfl : i = 0 := by omega
      exact (hs _ (List.mem_of_getElem? (i := 407) (by decide +kernel)))) (fun i hi => by
      obtain rfl : i = 0 := by omega
      exact (hs _ (List.mem_of_getElem? (i := 408) (by decide +kernel)))) (fun i hi => by
      obtain rfl : i = 0 := by omega
      exact (hs _ (List.mem_of_getElem? (i := 409) (by decide +kernel)))) (fun i hi => by
      obtain rfl : i = 0 := by omega
      exact (hs _ (List.mem_of_getElem? (i := 410) (by decide +kernel)))) (fun i hi => by
      obtain rfl : i = 0 := by omega
      exact lt_s (lt_s (lt_s (lt_s (lt_s (lt_0) (hs _ (List.mem_of_getElem? (i := 411) (by decide +kernel)))) (hs _ (List.mem_of_getElem? (i := 412) (by decide +kernel)))) (hs _ (List.mem_of_getElem? (i := 413) (by decide +kernel)))) (hs _ (List.mem_of_getElem? (i := 414) (by decide +kernel)))) (hs _ (List.mem_of_getElem? (i := 415) (by decide +kernel)))) (fun i j hi hj hne => absurd (show i = j by omega) hne) (fun a ha => st_nA ha)
  obtain ⟨q1, q2, q3, q4⟩ := h1.1 0 (by decide)
  exact ⟨adK 0, adV 0, h2 0 (by decide), q1, q2, q3, q4⟩
theorem st_plain (hts : ∀ w ∈ lw_tbl, w.before #[Value.ref b] s = true) (hg : (Jvm.Cond.and given_1 narrow_1).before #[Value.ref b] s = true) : ∃ t : Nat, va_Z "StruckPage$Law" "PLAIN" "[I" (.ref t) (st_A s) s s.heap ∧ va_T .int t 5 (fun j => .int (([1, -1, 2, -11, -8] : List Int32).getD j 0)) (st_A s) s s.heap := by
  have hs := flat_of_before _ hg
  obtain ⟨t, h1, h2⟩ := va_Tof (args := #[Value.ref b]) (s := s) (tm := Term.static "StruckPage$Law" "PLAIN" "[I") (ty := .int) (N := 5) (f := fun j => .int (([1, -1, 2, -11, -8] : List Int32).getD j 0)) (A := st_A s) (by decide) (hs _ (List.mem_of_getElem? (i := 5) (by decide +kernel))) (st_eq (hs _ (List.mem_of_getElem? (i := 6) (by decide +kernel)))) (lt_s (lt_s (lt_s (lt_s (lt_s (lt_0) (st_eq (hs _ (List.mem_of_getElem? (i := 7) (by decide +kernel))))) (st_eq (hs _ (List.mem_of_getElem? (i := 8) (by decide +kernel))))) (st_eq (hs _ (List.mem_of_getElem? (i := 9) (by decide +kernel))))) (st_eq (hs _ (List.mem_of_getElem? (i := 10) (by decide +kernel))))) (st_eq (hs _ (List.mem_of_getElem? (i := 11) (by decide +kernel))))) (fun a ha => st_nA ha)
  exact ⟨t, va_Zof (hts _ (List.mem_of_getElem? (i := 277) (by decide +kernel))) (hts _ (List.mem_of_getElem? (i := 159) (by decide +kernel))) h1 (fun a ha => st_nA ha), h2⟩
theorem st_runv (hts : ∀ w ∈ lw_tbl, w.before #[Value.ref b] s = true) (hg : (Jvm.Cond.and given_1 narrow_1).before #[Value.ref b] s = true) : ∃ t : Nat, va_Z "StruckPage$Search" "RUN_VALUES" "[I" (.ref t) (st_A s) s s.heap ∧ va_T .int t 9 (fun j => .int (([0, 1, 2, 3, 1, 4, 3, 2, 1] : List Int32).getD j 0)) (st_A s) s s.heap := by
  have hs := flat_of_before _ hg
  obtain ⟨t, h1, h2⟩ := va_Tof (args := #[Value.ref b]) (s := s) (tm := Term.static "StruckPage$Search" "RUN_VALUES" "[I") (ty := .int) (N := 9) (f := fun j => .int (([0, 1, 2, 3, 1, 4, 3, 2, 1] : List Int32).getD j 0)) (A := st_A s) (by decide) (hs _ (List.mem_of_getElem? (i := 20) (by decide +kernel))) (st_eq (hs _ (List.mem_of_getElem? (i := 21) (by decide +kernel)))) (lt_s (lt_s (lt_s (lt_s (lt_s (lt_s (lt_s (lt_s (lt_s (lt_0) (st_eq (hs _ (List.mem_of_getElem? (i := 22) (by decide +kernel))))) (st_eq (hs _ (List.mem_of_getElem? (i := 23) (by decide +kernel))))) (st_eq (hs _ (List.mem_of_getElem? (i := 24) (by decide +kernel))))) (st_eq (hs _ (List.mem_of_getElem? (i := 25) (by decide +kernel))))) (st_eq (hs _ (List.mem_of_getElem? (i := 26) (by decide +kernel))))) (st_eq (hs _ (List.mem_of_getElem? (i := 27) (by decide +kernel))))) (st_eq (hs _ (List.mem_of_getElem? (i := 28) (by decide +kernel))))) (st_eq (hs _ (List.mem_of_getElem? (i := 29) (by decide +kernel))))) (st_eq (hs _ (List.mem_of_getElem? (i := 30) (by decide +kernel))))) (fun a ha => st_nA ha)
  exact ⟨t, va_Zof (hts _ (List.mem_of_getElem? (i := 1221) (by decide +kernel))) (hts _ (List.mem_of_getElem? (i := 165) (by decide +kernel))) h1 (fun a ha => st_nA ha), h2⟩
end PST
