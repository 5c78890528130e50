section PML
theorem pm_cat {Γ : pmG} {v : Value} {n : Nat} (h : v.category = n) : (pm_mv Γ v).category = n := by
  cases v <;> exact h
theorem pm_mem {Γ : pmG} {ls : List Value} {j : Nat} {w : Value} : (j, w) ∈ pm_pairs Γ ls ↔ ∃ v, ls[j]? = some v ∧ v ≠ pmU ∧ w = pm_mv Γ v := by
  unfold pm_pairs
  constructor
  · intro h
    obtain ⟨⟨v, i⟩, h1, h2⟩ := List.mem_filterMap.mp h
    by_cases hu : v = pmU
    · simp [hu] at h2
    · simp only [hu, if_false, Option.some.injEq, Prod.mk.injEq] at h2
      obtain ⟨rfl, rfl⟩ := h2
      exact ⟨v, List.mem_zipIdx_iff_getElem?.mp h1, hu, rfl⟩
  · rintro ⟨v, h1, h2, rfl⟩
    exact List.mem_filterMap.mpr ⟨(v, j), List.mem_zipIdx_iff_getElem?.mpr h1, by simp [h2]⟩
/-- a long that ends at a place that is stored to is gone -/
def pm_kill (ls : List Value) (i : Nat) : List Value := match i with
  | 0 => ls
  | j + 1 => match ls[j]? with
    | some (.long _) => ls.set j pmU
    | _ => ls
def pm_set (ls : List Value) (i : Nat) (v : Value) : List Value := (pm_kill ls i).set i v
theorem pm_kill_at {ls : List Value} {i j : Nat} {v : Value} (h : (pm_kill ls i)[j]? = some v) (hu : v ≠ pmU) : ls[j]? = some v ∧ (j + 1 = i → ∀ x, v ≠ .long x) := by
  unfold pm_kill at h
  split at h
  · exact ⟨h, fun e => by omega⟩
  · rename_i k
    split at h
    · rename_i x hx
      by_cases hj : k = j
      · subst hj
        rw [List.getElem?_set_self (List.getElem?_eq_some_iff.mp hx).1] at h
        exact absurd (Option.some.inj h).symm hu
      · rw [List.getElem?_set_ne hj] at h
        exact ⟨h, fun e => by omega⟩
    · rename_i hx
      refine ⟨h, fun e x ex => ?_⟩
      have : j = k := by omega
      subst this; subst ex
      exact hx x h
theorem pm_kill_len (ls : List Value) (i : Nat) : (pm_kill ls i).length = ls.length := by
  unfold pm_kill
  split
  · rfl
  · split
    · rw [List.length_set]
    · rfl
theorem pm_cat2 {Γ : pmG} {v : Value} (h : ∀ x, v ≠ .long x) (hd : ∀ x, v ≠ .double x) : ((pm_mv Γ v).category == 2) = false := by
  cases v with
  | long x => exact absurd rfl (h x)
  | double x => exact absurd rfl (hd x)
  | _ => rfl
end PML
/-! instructions that touch stack, locals and place alone -/
section PMO
variable {l : Launch} {Γ : pmG} {y : pmY} {d pc : Nat} {ls ls2 st : List Value} {m : pmM} {res A B : pmR}
theorem pm_isub {a b : Int32} (hd : decode y.2.1 pc = .ok (.isub, 1))  (k : pm_G l Γ y d (pc + 1) ls (.int (a - b) :: st) m res) : pm_G l Γ y d pc ls (.int b :: .int a :: st) m res := pm_p (fun _ _ _ _ _ _ _ _ _ _ _ _ _ _ _ hx hb hl k => lv_isub hx hb hd k) k
theorem pm_imul {a b : Int32} (hd : decode y.2.1 pc = .ok (.imul, 1))  (k : pm_G l Γ y d (pc + 1) ls (.int (a * b) :: st) m res) : pm_G l Γ y d pc ls (.int b :: .int a :: st) m res := pm_p (fun _ _ _ _ _ _ _ _ _ _ _ _ _ _ _ hx hb hl k => lv_imul hx hb hd k) k
theorem pm_iand {a b : Int32} (hd : decode y.2.1 pc = .ok (.iand, 1))  (k : pm_G l Γ y d (pc + 1) ls (.int (a &&& b) :: st) m res) : pm_G l Γ y d pc ls (.int b :: .int a :: st) m res := pm_p (fun _ _ _ _ _ _ _ _ _ _ _ _ _ _ _ hx hb hl k => lv_iand hx hb hd k) k
theorem pm_ior {a b : Int32} (hd : decode y.2.1 pc = .ok (.ior, 1))  (k : pm_G l Γ y d (pc + 1) ls (.int (a ||| b) :: st) m res) : pm_G l Γ y d pc ls (.int b :: .int a :: st) m res := pm_p (fun _ _ _ _ _ _ _ _ _ _ _ _ _ _ _ hx hb hl k => lv_ior hx hb hd k) k
theorem pm_ixor {a b : Int32} (hd : decode y.2.1 pc = .ok (.ixor, 1))  (k : pm_G l Γ y d (pc + 1) ls (.int (a ^^^ b) :: st) m res) : pm_G l Γ y d pc ls (.int b :: .int a :: st) m res := pm_p (fun _ _ _ _ _ _ _ _ _ _ _ _ _ _ _ hx hb hl k => lv_ixor hx hb hd k) k
theorem pm_ishl {a b : Int32} (hd : decode y.2.1 pc = .ok (.ishl, 1))  (k : pm_G l Γ y d (pc + 1) ls (.int (a <<< (b &&& 31)) :: st) m res) : pm_G l Γ y d pc ls (.int b :: .int a :: st) m res := pm_p (fun _ _ _ _ _ _ _ _ _ _ _ _ _ _ _ hx hb hl k => lv_ishl hx hb hd k) k
theorem pm_ishr {a b : Int32} (hd : decode y.2.1 pc = .ok (.ishr, 1))  (k : pm_G l Γ y d (pc + 1) ls (.int (a >>> (b &&& 31)) :: st) m res) : pm_G l Γ y d pc ls (.int b :: .int a :: st) m res := pm_p (fun _ _ _ _ _ _ _ _ _ _ _ _ _ _ _ hx hb hl k => lv_ishr hx hb hd k) k
theorem pm_iushr {a b : Int32} (hd : decode y.2.1 pc = .ok (.iushr, 1))  (k : pm_G l Γ y d (pc + 1) ls (.int ((a.toUInt32 >>> (b.toUInt32 &&& Int32.toUInt32 31)).toInt32) :: st) m res) : pm_G l Γ y d pc ls (.int b :: .int a :: st) m res := pm_p (fun _ _ _ _ _ _ _ _ _ _ _ _ _ _ _ hx hb hl k => lv_iushr hx hb hd rfl k) k
theorem pm_ineg {a : Int32} (hd : decode y.2.1 pc = .ok (.ineg, 1))  (k : pm_G l Γ y d (pc + 1) ls (.int (-a) :: st) m res) : pm_G l Γ y d pc ls (.int a :: st) m res := pm_p (fun _ _ _ _ _ _ _ _ _ _ _ _ _ _ _ hx hb hl k => lv_ineg hx hb hd k) k
theorem pm_ladd {a b : Int64} (hd : decode y.2.1 pc = .ok (.ladd, 1))  (k : pm_G l Γ y d (pc + 1) ls (.long (a + b) :: st) m res) : pm_G l Γ y d pc ls (.long b :: .long a :: st) m res := pm_p (fun _ _ _ _ _ _ _ _ _ _ _ _ _ _ _ hx hb hl k => lv_ladd hx hb hd k) k
theorem pm_lsub {a b : Int64} (hd : decode y.2.1 pc = .ok (.lsub, 1))  (k : pm_G l Γ y d (pc + 1) ls (.long (a - b) :: st) m res) : pm_G l Γ y d pc ls (.long b :: .long a :: st) m res := pm_p (fun _ _ _ _ _ _ _ _ _ _ _ _ _ _ _ hx hb hl k => lv_lsub hx hb hd k) k
theorem pm_lmul {a b : Int64} (hd : decode y.2.1 pc = .ok (.lmul, 1))  (k : pm_G l Γ y d (pc + 1) ls (.long (a * b) :: st) m res) : pm_G l Γ y d pc ls (.long b :: .long a :: st) m res := pm_p (fun _ _ _ _ _ _ _ _ _ _ _ _ _ _ _ hx hb hl k => lv_lmul hx hb hd k) k
theorem pm_lshl {a : Int64} {b : Int32} (hd : decode y.2.1 pc = .ok (.lshl, 1))  (k : pm_G l Γ y d (pc + 1) ls (.long (a <<< (b.toInt64 &&& 63)) :: st) m res) : pm_G l Γ y d pc ls (.int b :: .long a :: st) m res := pm_p (fun _ _ _ _ _ _ _ _ _ _ _ _ _ _ _ hx hb hl k => lv_lshl hx hb hd rfl k) k
theorem pm_lcmp {a b : Int64} (hd : decode y.2.1 pc = .ok (.lcmp, 1))  (k : pm_G l Γ y d (pc + 1) ls (.int (lg_cmp a b) :: st) m res) : pm_G l Γ y d pc ls (.long b :: .long a :: st) m res := pm_p (fun _ _ _ _ _ _ _ _ _ _ _ _ _ _ _ hx hb hl k => W.lcmp hx hb hd k) k
theorem pm_i2l {a : Int32} (hd : decode y.2.1 pc = .ok (.i2l, 1))  (k : pm_G l Γ y d (pc + 1) ls (.long a.toInt64 :: st) m res) : pm_G l Γ y d pc ls (.int a :: st) m res := pm_p (fun _ _ _ _ _ _ _ _ _ _ _ _ _ _ _ hx hb hl k => lv_i2l hx hb hd rfl k) k
theorem pm_i2c {a : Int32} (hd : decode y.2.1 pc = .ok (.i2c, 1))  (k : pm_G l Γ y d (pc + 1) ls (.int (a.toUInt32 % 65536).toInt32 :: st) m res) : pm_G l Γ y d pc ls (.int a :: st) m res := pm_p (fun _ _ _ _ _ _ _ _ _ _ _ _ _ _ _ hx hb hl k => lv_i2c hx hb hd rfl k) k
theorem pm_iconst {n : Int} {v : Int32} (hd : decode y.2.1 pc = .ok (.iconst n, 1)) (hv : Int32.ofInt n = v) (k : pm_G l Γ y d (pc + 1) ls (.int v :: st) m res) : pm_G l Γ y d pc ls st m res := pm_p (fun _ _ _ _ _ _ _ _ _ _ _ _ _ _ _ hx hb hl k => lv_iconst hx hb hd hv k) k
theorem pm_bipush {n : Int} {v : Int32} (hd : decode y.2.1 pc = .ok (.bipush n, 2)) (hv : (Int8.ofInt n).toInt32 = v) (k : pm_G l Γ y d (pc + 2) ls (.int v :: st) m res) : pm_G l Γ y d pc ls st m res := pm_p (fun _ _ _ _ _ _ _ _ _ _ _ _ _ _ _ hx hb hl k => lv_bipush hx hb hd hv k) k
theorem pm_sipush {n : Int} {v : Int32} (hd : decode y.2.1 pc = .ok (.sipush n, 3)) (hv : (Int16.ofInt n).toInt32 = v) (k : pm_G l Γ y d (pc + 3) ls (.int v :: st) m res) : pm_G l Γ y d pc ls st m res := pm_p (fun _ _ _ _ _ _ _ _ _ _ _ _ _ _ _ hx hb hl k => lv_sipush hx hb hd hv k) k
theorem pm_lconst {n : Fin 2} {v : Int64} (hd : decode y.2.1 pc = .ok (.lconst n, 1)) (hv : Int64.ofNat (n : Nat) = v) (k : pm_G l Γ y d (pc + 1) ls (.long v :: st) m res) : pm_G l Γ y d pc ls st m res := pm_p (fun _ _ _ _ _ _ _ _ _ _ _ _ _ _ _ hx hb hl k => lv_lconst hx hb hd hv k) k
theorem pm_iload {i : Nat} {x : Int32} (hd : decode y.2.1 pc = .ok (.iload i, 2)) (hv : ls[i]? = some (.int x)) (k : pm_G l Γ y d (pc + 2) ls (.int x :: st) m res) : pm_G l Γ y d pc ls st m res := pm_p (fun _ _ _ _ _ _ _ _ _ _ _ _ _ _ _ hx hb hl k => lv_iload hx hb hd (pm_at hl hv (by intro h; cases h)) k) k
theorem pm_lload {i : Nat} {x : Int64} (hd : decode y.2.1 pc = .ok (.lload i, 2)) (hv : ls[i]? = some (.long x)) (k : pm_G l Γ y d (pc + 2) ls (.long x :: st) m res) : pm_G l Γ y d pc ls st m res := pm_p (fun _ _ _ _ _ _ _ _ _ _ _ _ _ _ _ hx hb hl k => lv_lload hx hb hd (pm_at hl hv (by intro h; cases h)) k) k
theorem pm_lload_n {i : Fin 4} {j : Nat} {x : Int64} (hd : decode y.2.1 pc = .ok (.lload_n i, 1)) (hi : (i : Nat) = j) (hv : ls[j]? = some (.long x)) (k : pm_G l Γ y d (pc + 1) ls (.long x :: st) m res) : pm_G l Γ y d pc ls st m res := pm_p (fun _ _ _ _ _ _ _ _ _ _ _ _ _ _ _ hx hb hl k => lv_lload_n hx hb hd hi (pm_at hl hv (by intro h; cases h)) k) k
theorem pm_aload {i : Nat} {x : Nat} (hd : decode y.2.1 pc = .ok (.aload i, 2)) (hv : ls[i]? = some (.ref x)) (k : pm_G l Γ y d (pc + 2) ls (.ref x :: st) m res) : pm_G l Γ y d pc ls st m res := pm_p (fun _ _ _ _ _ _ _ _ _ _ _ _ _ _ _ hx hb hl k => lv_aload hx hb hd (pm_at hl hv (by intro h; cases h)) k) k
theorem pm_aload_n {i : Fin 4} {j : Nat} {x : Nat} (hd : decode y.2.1 pc = .ok (.aload_n i, 1)) (hi : (i : Nat) = j) (hv : ls[j]? = some (.ref x)) (k : pm_G l Γ y d (pc + 1) ls (.ref x :: st) m res) : pm_G l Γ y d pc ls st m res := pm_p (fun _ _ _ _ _ _ _ _ _ _ _ _ _ _ _ hx hb hl k => lv_aload_n hx hb hd hi (pm_at hl hv (by intro h; cases h)) k) k
theorem pm_dup {v : Value} (hd : decode y.2.1 pc = .ok (.dup, 1)) (hv : v.category = 1) (k : pm_G l Γ y d (pc + 1) ls (v :: v :: st) m res) : pm_G l Γ y d pc ls (v :: st) m res := pm_p (fun _ _ _ _ _ _ _ _ _ _ _ _ _ _ _ hx hb hl k => lv_dup hx hb hd (pm_cat hv) k) k
theorem pm_dup2 {v w : Value} (hd : decode y.2.1 pc = .ok (.dup2, 1)) (hv : v.category = 1) (hw : w.category = 1) (k : pm_G l Γ y d (pc + 1) ls (v :: w :: v :: w :: st) m res) : pm_G l Γ y d pc ls (v :: w :: st) m res := pm_p (fun _ _ _ _ _ _ _ _ _ _ _ _ _ _ _ hx hb hl k => lv_dup2_11 hx hb hd (pm_cat hv) (pm_cat hw) k) k
theorem pm_pop {v : Value} (hd : decode y.2.1 pc = .ok (.pop, 1)) (hv : v.category = 1) (k : pm_G l Γ y d (pc + 1) ls st m res) : pm_G l Γ y d pc ls (v :: st) m res := pm_p (fun _ _ _ _ _ _ _ _ _ _ _ _ _ _ _ hx hb hl k => lv_pop hx hb hd (pm_cat hv) k) k
theorem pm_goto {off : Int} {tgt : Nat} (hd : decode y.2.1 pc = .ok (.goto off, 3)) (ht : (pc : Int) + off = (tgt : Int)) (k : pm_G l Γ y d tgt ls st m res) : pm_G l Γ y d pc ls st m res := pm_p (fun _ _ _ _ _ _ _ _ _ _ _ _ _ _ _ hx hb hl k => lv_goto hx hb hd ht k) k
theorem pm_if_eq {x : Int32} {off : Int} {tgt : Nat} (hd : decode y.2.1 pc = .ok (.ifCond .eq off, 3)) (ht : (pc : Int) + off = (tgt : Int)) (kt : pm_G l Γ y d tgt ls st m A) (kf : pm_G l Γ y d (pc + 3) ls st m B) : pm_G l Γ y d pc ls (.int x :: st) m (if x = 0 then A else B) := by
  by_cases c9 : x = 0
  · rw [if_pos c9]; exact pm_p (fun _ _ _ _ _ _ _ _ _ _ _ _ _ _ _ hx hb hl k => lv_if_eq hx hb hd ht (fun _ => k) (fun h => absurd c9 h)) kt
  · rw [if_neg c9]; exact pm_p (fun _ _ _ _ _ _ _ _ _ _ _ _ _ _ _ hx hb hl k => lv_if_eq hx hb hd ht (fun h => absurd h c9) (fun _ => k)) kf
theorem pm_if_ne {x : Int32} {off : Int} {tgt : Nat} (hd : decode y.2.1 pc = .ok (.ifCond .ne off, 3)) (ht : (pc : Int) + off = (tgt : Int)) (kt : pm_G l Γ y d tgt ls st m A) (kf : pm_G l Γ y d (pc + 3) ls st m B) : pm_G l Γ y d pc ls (.int x :: st) m (if x = 0 then B else A) := by
  by_cases c9 : x = 0
  · rw [if_pos c9]; exact pm_p (fun _ _ _ _ _ _ _ _ _ _ _ _ _ _ _ hx hb hl k => lv_if_ne hx hb hd ht (fun h => absurd c9 h) (fun _ => k)) kf
  · rw [if_neg c9]; exact pm_p (fun _ _ _ _ _ _ _ _ _ _ _ _ _ _ _ hx hb hl k => lv_if_ne hx hb hd ht (fun _ => k) (fun h => absurd h c9)) kt
theorem pm_if_lt {x : Int32} {off : Int} {tgt : Nat} (hd : decode y.2.1 pc = .ok (.ifCond .lt off, 3)) (ht : (pc : Int) + off = (tgt : Int)) (kt : pm_G l Γ y d tgt ls st m A) (kf : pm_G l Γ y d (pc + 3) ls st m B) : pm_G l Γ y d pc ls (.int x :: st) m (if x < 0 then A else B) := by
  by_cases c9 : x < 0
  · rw [if_pos c9]; exact pm_p (fun _ _ _ _ _ _ _ _ _ _ _ _ _ _ _ hx hb hl k => lv_if_lt hx hb hd ht (fun _ => k) (fun h => absurd c9 h)) kt
  · rw [if_neg c9]; exact pm_p (fun _ _ _ _ _ _ _ _ _ _ _ _ _ _ _ hx hb hl k => lv_if_lt hx hb hd ht (fun h => absurd h c9) (fun _ => k)) kf
theorem pm_if_ge {x : Int32} {off : Int} {tgt : Nat} (hd : decode y.2.1 pc = .ok (.ifCond .ge off, 3)) (ht : (pc : Int) + off = (tgt : Int)) (kt : pm_G l Γ y d tgt ls st m A) (kf : pm_G l Γ y d (pc + 3) ls st m B) : pm_G l Γ y d pc ls (.int x :: st) m (if 0 ≤ x then A else B) := by
  by_cases c9 : 0 ≤ x
  · rw [if_pos c9]; exact pm_p (fun _ _ _ _ _ _ _ _ _ _ _ _ _ _ _ hx hb hl k => lv_if_ge hx hb hd ht (fun _ => k) (fun h => absurd c9 h)) kt
  · rw [if_neg c9]; exact pm_p (fun _ _ _ _ _ _ _ _ _ _ _ _ _ _ _ hx hb hl k => lv_if_ge hx hb hd ht (fun h => absurd h c9) (fun _ => k)) kf
theorem pm_if_gt {x : Int32} {off : Int} {tgt : Nat} (hd : decode y.2.1 pc = .ok (.ifCond .gt off, 3)) (ht : (pc : Int) + off = (tgt : Int)) (kt : pm_G l Γ y d tgt ls st m A) (kf : pm_G l Γ y d (pc + 3) ls st m B) : pm_G l Γ y d pc ls (.int x :: st) m (if 0 < x then A else B) := by
  by_cases c9 : 0 < x
  · rw [if_pos c9]; exact pm_p (fun _ _ _ _ _ _ _ _ _ _ _ _ _ _ _ hx hb hl k => lv_if_gt hx hb hd ht (fun _ => k) (fun h => absurd c9 h)) kt
  · rw [if_neg c9]; exact pm_p (fun _ _ _ _ _ _ _ _ _ _ _ _ _ _ _ hx hb hl k => lv_if_gt hx hb hd ht (fun h => absurd h c9) (fun _ => k)) kf
theorem pm_if_le {x : Int32} {off : Int} {tgt : Nat} (hd : decode y.2.1 pc = .ok (.ifCond .le off, 3)) (ht : (pc : Int) + off = (tgt : Int)) (kt : pm_G l Γ y d tgt ls st m A) (kf : pm_G l Γ y d (pc + 3) ls st m B) : pm_G l Γ y d pc ls (.int x :: st) m (if x ≤ 0 then A else B) := by
  by_cases c9 : x ≤ 0
  · rw [if_pos c9]; exact pm_p (fun _ _ _ _ _ _ _ _ _ _ _ _ _ _ _ hx hb hl k => lv_if_le hx hb hd ht (fun _ => k) (fun h => absurd c9 h)) kt
  · rw [if_neg c9]; exact pm_p (fun _ _ _ _ _ _ _ _ _ _ _ _ _ _ _ hx hb hl k => lv_if_le hx hb hd ht (fun h => absurd h c9) (fun _ => k)) kf
theorem pm_icmp_eq {x z : Int32} {off : Int} {tgt : Nat} (hd : decode y.2.1 pc = .ok (.if_icmp .eq off, 3)) (ht : (pc : Int) + off = (tgt : Int)) (kt : pm_G l Γ y d tgt ls st m A) (kf : pm_G l Γ y d (pc + 3) ls st m B) : pm_G l Γ y d pc ls (.int z :: .int x :: st) m (if x = z then A else B) := by
  by_cases c9 : x = z
  · rw [if_pos c9]; exact pm_p (fun _ _ _ _ _ _ _ _ _ _ _ _ _ _ _ hx hb hl k => lv_icmp_eq hx hb hd ht (fun _ => k) (fun h => absurd c9 h)) kt
  · rw [if_neg c9]; exact pm_p (fun _ _ _ _ _ _ _ _ _ _ _ _ _ _ _ hx hb hl k => lv_icmp_eq hx hb hd ht (fun h => absurd h c9) (fun _ => k)) kf
theorem pm_icmp_ne {x z : Int32} {off : Int} {tgt : Nat} (hd : decode y.2.1 pc = .ok (.if_icmp .ne off, 3)) (ht : (pc : Int) + off = (tgt : Int)) (kt : pm_G l Γ y d tgt ls st m A) (kf : pm_G l Γ y d (pc + 3) ls st m B) : pm_G l Γ y d pc ls (.int z :: .int x :: st) m (if x = z then B else A) := by
  by_cases c9 : x = z
  · rw [if_pos c9]; exact pm_p (fun _ _ _ _ _ _ _ _ _ _ _ _ _ _ _ hx hb hl k => lv_icmp_ne hx hb hd ht (fun h => absurd c9 h) (fun _ => k)) kf
  · rw [if_neg c9]; exact pm_p (fun _ _ _ _ _ _ _ _ _ _ _ _ _ _ _ hx hb hl k => lv_icmp_ne hx hb hd ht (fun _ => k) (fun h => absurd h c9)) kt
theorem pm_icmp_lt {x z : Int32} {off : Int} {tgt : Nat} (hd : decode y.2.1 pc = .ok (.if_icmp .lt off, 3)) (ht : (pc : Int) + off = (tgt : Int)) (kt : pm_G l Γ y d tgt ls st m A) (kf : pm_G l Γ y d (pc + 3) ls st m B) : pm_G l Γ y d pc ls (.int z :: .int x :: st) m (if x < z then A else B) := by
  by_cases c9 : x < z
  · rw [if_pos c9]; exact pm_p (fun _ _ _ _ _ _ _ _ _ _ _ _ _ _ _ hx hb hl k => lv_icmp_lt hx hb hd ht (fun _ => k) (fun h => absurd c9 h)) kt
  · rw [if_neg c9]; exact pm_p (fun _ _ _ _ _ _ _ _ _ _ _ _ _ _ _ hx hb hl k => lv_icmp_lt hx hb hd ht (fun h => absurd h c9) (fun _ => k)) kf
theorem pm_icmp_ge {x z : Int32} {off : Int} {tgt : Nat} (hd : decode y.2.1 pc = .ok (.if_icmp .ge off, 3)) (ht : (pc : Int) + off = (tgt : Int)) (kt : pm_G l Γ y d tgt ls st m A) (kf : pm_G l Γ y d (pc + 3) ls st m B) : pm_G l Γ y d pc ls (.int z :: .int x :: st) m (if z ≤ x then A else B) := by
  by_cases c9 : z ≤ x
  · rw [if_pos c9]; exact pm_p (fun _ _ _ _ _ _ _ _ _ _ _ _ _ _ _ hx hb hl k => lv_icmp_ge hx hb hd ht (fun _ => k) (fun h => absurd c9 h)) kt
  · rw [if_neg c9]; exact pm_p (fun _ _ _ _ _ _ _ _ _ _ _ _ _ _ _ hx hb hl k => lv_icmp_ge hx hb hd ht (fun h => absurd h c9) (fun _ => k)) kf
theorem pm_icmp_gt {x z : Int32} {off : Int} {tgt : Nat} (hd : decode y.2.1 pc = .ok (.if_icmp .gt off, 3)) (ht : (pc : Int) + off = (tgt : Int)) (kt : pm_G l Γ y d tgt ls st m A) (kf : pm_G l Γ y d (pc + 3) ls st m B) : pm_G l Γ y d pc ls (.int z :: .int x :: st) m (if z < x then A else B) := by
  by_cases c9 : z < x
  · rw [if_pos c9]; exact pm_p (fun _ _ _ _ _ _ _ _ _ _ _ _ _ _ _ hx hb hl k => lv_icmp_gt hx hb hd ht (fun _ => k) (fun h => absurd c9 h)) kt
  · rw [if_neg c9]; exact pm_p (fun _ _ _ _ _ _ _ _ _ _ _ _ _ _ _ hx hb hl k => lv_icmp_gt hx hb hd ht (fun h => absurd h c9) (fun _ => k)) kf
theorem pm_icmp_le {x z : Int32} {off : Int} {tgt : Nat} (hd : decode y.2.1 pc = .ok (.if_icmp .le off, 3)) (ht : (pc : Int) + off = (tgt : Int)) (kt : pm_G l Γ y d tgt ls st m A) (kf : pm_G l Γ y d (pc + 3) ls st m B) : pm_G l Γ y d pc ls (.int z :: .int x :: st) m (if x ≤ z then A else B) := by
  by_cases c9 : x ≤ z
  · rw [if_pos c9]; exact pm_p (fun _ _ _ _ _ _ _ _ _ _ _ _ _ _ _ hx hb hl k => lv_icmp_le hx hb hd ht (fun _ => k) (fun h => absurd c9 h)) kt
  · rw [if_neg c9]; exact pm_p (fun _ _ _ _ _ _ _ _ _ _ _ _ _ _ _ hx hb hl k => lv_icmp_le hx hb hd ht (fun h => absurd h c9) (fun _ => k)) kf
theorem pm_idiv {a b : Int32} (hd : decode y.2.1 pc = .ok (.idiv, 1)) (k : pm_G l Γ y d (pc + 1) ls (.int (a / b) :: st) m res) : pm_G l Γ y d pc ls (.int b :: .int a :: st) m (if b = 0 then none else res) := by
  by_cases c9 : b = 0
  · rw [if_pos c9]; exact pm_none
  · rw [if_neg c9]; exact pm_p (fun _ _ _ _ _ _ _ _ _ _ _ _ _ _ _ hx hb hl k => lv_idiv hx hb hd c9 k) k
theorem pm_irem {a b : Int32} (hd : decode y.2.1 pc = .ok (.irem, 1)) (k : pm_G l Γ y d (pc + 1) ls (.int (a - a / b * b) :: st) m res) : pm_G l Γ y d pc ls (.int b :: .int a :: st) m (if b = 0 then none else res) := by
  by_cases c9 : b = 0
  · rw [if_pos c9]; exact pm_none
  · rw [if_neg c9]; exact pm_p (fun _ _ _ _ _ _ _ _ _ _ _ _ _ _ _ hx hb hl k => lv_irem hx hb hd c9 k) k
theorem pm_ldiv {a b : Int64} (hd : decode y.2.1 pc = .ok (.ldiv, 1)) (k : pm_G l Γ y d (pc + 1) ls (.long (a / b) :: st) m res) : pm_G l Γ y d pc ls (.long b :: .long a :: st) m (if b = 0 then none else res) := by
  by_cases c9 : b = 0
  · rw [if_pos c9]; exact pm_none
  · rw [if_neg c9]; exact pm_p (fun _ _ _ _ _ _ _ _ _ _ _ _ _ _ _ hx hb hl k => lv_ldiv hx hb hd c9 k) k
theorem pm_lrem {a b : Int64} (hd : decode y.2.1 pc = .ok (.lrem, 1)) (k : pm_G l Γ y d (pc + 1) ls (.long (a - a / b * b) :: st) m res) : pm_G l Γ y d pc ls (.long b :: .long a :: st) m (if b = 0 then none else res) := by
  by_cases c9 : b = 0
  · rw [if_pos c9]; exact pm_none
  · rw [if_neg c9]; exact pm_p (fun _ _ _ _ _ _ _ _ _ _ _ _ _ _ _ hx hb hl k => lv_lrem hx hb hd c9 k) k
theorem pm_swIn {dflt lo hi : Int} {offs : Array Int} {len : Nat} {x : Int32} {off : Int} {tgt : Nat} (hd : decode y.2.1 pc = .ok (.tableswitch dflt lo hi offs, len)) (h1 : ¬ x.toInt < lo) (h2 : ¬ hi < x.toInt) (ho : offs[(x.toInt - lo).toNat]? = some off) (ht : (pc : Int) + off = (tgt : Int)) (k : pm_G l Γ y d tgt ls st m res) : pm_G l Γ y d pc ls (.int x :: st) m res := pm_p (fun _ _ _ _ _ _ _ _ _ _ _ _ _ _ _ hx hb hl k => lv_tableIn hx hb hd h1 h2 ho ht k) k
theorem pm_swOut {dflt lo hi : Int} {offs : Array Int} {len : Nat} {x : Int32} {tgt : Nat} (hd : decode y.2.1 pc = .ok (.tableswitch dflt lo hi offs, len)) (h : x.toInt < lo ∨ hi < x.toInt) (ht : (pc : Int) + dflt = (tgt : Int)) (k : pm_G l Γ y d tgt ls st m res) : pm_G l Γ y d pc ls (.int x :: st) m res := pm_p (fun _ _ _ _ _ _ _ _ _ _ _ _ _ _ _ hx hb hl k => lv_tableOut hx hb hd h ht k) k
theorem pm_swL {dflt : Int} {ps : Array (Int × Int)} {len : Nat} {x : Int32} {off : Int} {tgt : Nat} (hd : decode y.2.1 pc = .ok (.lookupswitch dflt ps, len)) (hp : (ps.toList.zip (ps.toList.drop 1)).all (fun (a, next) => a.1 < next.1) = true) (ho : Op.lookupswitch.offset ps.toList dflt x.toInt = off) (ht : (pc : Int) + off = (tgt : Int)) (k : pm_G l Γ y d tgt ls st m res) : pm_G l Γ y d pc ls (.int x :: st) m res := pm_p (fun _ _ _ _ _ _ _ _ _ _ _ _ _ _ _ hx hb hl k => lv_lookup hx hb hd hp ho ht k) k
theorem pm_case {x c : Int32} (kt : x = c → pm_G l Γ y d pc ls (.int x :: st) m A) (kf : ¬ x = c → pm_G l Γ y d pc ls (.int x :: st) m B) : pm_G l Γ y d pc ls (.int x :: st) m (if x = c then A else B) := by
  by_cases c9 : x = c
  · rw [if_pos c9]; exact kt c9
  · rw [if_neg c9]; exact kf c9
theorem pm_pw {pc2 : Nat} {st2 : List Value}
    (h : ∀ (p : Program) (e : Env) (R : Room) (s : State) (mth : MethodId) (args : Array Value) (below : List Frame) (meth : Method) (c : Code) (H : Heap) (locs : List Loc) (cells slots : Nat) (Q : State → Prop) (A : Array Slot), pm_ctx l Γ y d p s mth args meth c R → pm_heap Γ s m H → pm_ls Γ y.2.2.1 ls A → (∀ q ∈ locs, Γ.2.2.2.size ≤ q.base) → cells ≤ R.cells → slots ≤ R.slots →
      W p l e R s mth args below meth c H locs cells slots Q (F0 mth pc2 A (st2.map (pm_mv Γ))) → W p l e R s mth args below meth c H locs cells slots Q (F0 mth pc A (st.map (pm_mv Γ))))
    (k : pm_G l Γ y d pc2 ls st2 m res) : pm_G l Γ y d pc ls st m res := by
  intro o m' hr
  obtain ⟨h1, h2⟩ := k o m' hr
  refine ⟨h1, ?_⟩
  intro p e s mth args below meth c R H locs cells slots mc ms A hC a1 a2 a3 a4 a5 a6 a7
  exact h p e R s mth args below meth c H locs cells slots _ A hC a3 a4 a5 (by omega) (by omega) (h2 p e s mth args below meth c R H locs cells slots mc ms A hC a1 a2 a3 a4 a5 a6 a7)
theorem pm_ldc {index : Nat} {v : Int32} (hd : decode y.2.1 pc = .ok (.ldc index, 2)) (hw : Cond.constant y.1.cls index v ∈ pm_tbl) (k : pm_G l Γ y d (pc + 2) ls (.int v :: st) m res) : pm_G l Γ y d pc ls st m res := pm_pw (fun _ _ _ _ _ _ _ _ _ _ _ _ _ _ _ hC hH hl hlo hc hs k => lv_ldc hC.1 hC.2.1 hC.2.2.2.2.1 (hC.2.2.2.2.2.1 _ hw) hd k) k
theorem pm_ldcw {index : Nat} {v : Int32} (hd : decode y.2.1 pc = .ok (.ldc_w index, 3)) (hw : Cond.constant y.1.cls index v ∈ pm_tbl) (k : pm_G l Γ y d (pc + 3) ls (.int v :: st) m res) : pm_G l Γ y d pc ls st m res := pm_pw (fun _ _ _ _ _ _ _ _ _ _ _ _ _ _ _ hC hH hl hlo hc hs k => lv_ldcw hC.1 hC.2.1 hC.2.2.2.2.1 (hC.2.2.2.2.2.1 _ hw) hd k) k
theorem pm_ldc2 {index : Nat} {v : Int64} (hd : decode y.2.1 pc = .ok (.ldc2_w index, 3)) (hw : Cond.constantLong y.1.cls index v ∈ pm_tbl) (k : pm_G l Γ y d (pc + 3) ls (.long v :: st) m res) : pm_G l Γ y d pc ls st m res := pm_pw (fun _ _ _ _ _ _ _ _ _ _ _ _ _ _ _ hC hH hl hlo hc hs k => lv_ldc2 hC.1 hC.2.1 hC.2.2.2.2.1 (hC.2.2.2.2.2.1 _ hw) hd k) k
end PMO
section PMT
variable {l : Launch} {Γ : pmG} {y : pmY} {d pc : Nat} {ls ls2 st : List Value} {m : pmM} {res A B : pmR}
/-- no local is a double -/
def pm_nd (ls : List Value) : Bool := ls.all (fun v => match v with | .double _ => false | _ => true)
theorem pm_nd_at {ls : List Value} (h : pm_nd ls = true) {j : Nat} {v : Value} (hv : ls[j]? = some v) : ∀ x, v ≠ .double x := by
  intro x e
  subst e
  have := List.all_eq_true.mp h _ (List.mem_of_getElem? hv)
  simp at this
theorem pm_ls_set {n i : Nat} {v : Value} {A' : Array Slot} {lv : List (Nat × Value)} (hn : ls.length ≤ n) (hnd : pm_nd ls = true) (hlv : lv = (i, pm_mv Γ v) :: (pm_pairs Γ ls).filter (fun q => !(q.1 == i) && !(q.1 + 1 == i && q.2.category == 2))) (h : lv_has A' n lv) : pm_ls Γ n (pm_set ls i v) A' := by
  refine ⟨by unfold pm_set; rw [List.length_set, pm_kill_len]; exact hn, h.1, h.2.1, ?_⟩
  rintro ⟨j, w⟩ hq
  obtain ⟨v2, h1, h2, rfl⟩ := pm_mem.mp hq
  refine h.2.2 (j, pm_mv Γ v2) ?_
  rw [hlv]
  unfold pm_set at h1
  by_cases hj : i = j
  · subst hj
    have hlen : i < (pm_kill ls i).length := by
      have := (List.getElem?_eq_some_iff.mp h1).1
      rwa [List.length_set] at this
    rw [List.getElem?_set_self hlen] at h1
    cases h1
    exact List.mem_cons_self
  · rw [List.getElem?_set_ne hj] at h1
    obtain ⟨g1, g2⟩ := pm_kill_at h1 h2
    refine List.mem_cons_of_mem _ (List.mem_filter.mpr ⟨pm_mem.mpr ⟨v2, g1, h2, rfl⟩, ?_⟩)
    have e1 : (j == i) = false := by simpa using Ne.symm hj
    rw [Bool.and_eq_true]
    refine ⟨by simp [e1], ?_⟩
    by_cases e2 : j + 1 = i
    · rw [pm_cat2 (g2 e2) (pm_nd_at hnd g1)]; simp
    · simp [e2]
theorem pm_ls_set2 {n i : Nat} {v : Value} {A' : Array Slot} {lv : List (Nat × Value)} (hn : ls.length ≤ n) (hnd : pm_nd ls = true) (hlv : lv = (i, pm_mv Γ v) :: (pm_pairs Γ ls).filter (fun q => !(q.1 == i) && (!(q.1 == i + 1) && !(q.1 + 1 == i && q.2.category == 2)))) (h : lv_has A' n lv) : pm_ls Γ n ((pm_set ls i v).set (i + 1) pmU) A' := by
  refine ⟨by unfold pm_set; rw [List.length_set, List.length_set, pm_kill_len]; exact hn, h.1, h.2.1, ?_⟩
  rintro ⟨j, w⟩ hq
  obtain ⟨v2, h1, h2, rfl⟩ := pm_mem.mp hq
  refine h.2.2 (j, pm_mv Γ v2) ?_
  rw [hlv]
  by_cases hj1 : i + 1 = j
  · subst hj1
    have hlen : i + 1 < (pm_set ls i v).length := by
      have := (List.getElem?_eq_some_iff.mp h1).1
      rwa [List.length_set] at this
    rw [List.getElem?_set_self hlen] at h1
    exact absurd (Option.some.inj h1).symm h2
  rw [List.getElem?_set_ne hj1] at h1
  unfold pm_set at h1
  by_cases hj : i = j
  · subst hj
    have hlen : i < (pm_kill ls i).length := by
      have := (List.getElem?_eq_some_iff.mp h1).1
      rwa [List.length_set] at this
    rw [List.getElem?_set_self hlen] at h1
    cases h1
    exact List.mem_cons_self
  · rw [List.getElem?_set_ne hj] at h1
    obtain ⟨g1, g2⟩ := pm_kill_at h1 h2
    refine List.mem_cons_of_mem _ (List.mem_filter.mpr ⟨pm_mem.mpr ⟨v2, g1, h2, rfl⟩, ?_⟩)
    have e1 : (j == i) = false := by simpa using Ne.symm hj
    have e3 : (j == i + 1) = false := by simpa using Ne.symm hj1
    rw [Bool.and_eq_true, Bool.and_eq_true]
    refine ⟨by simp [e1], by simp [e3], ?_⟩
    by_cases e2 : j + 1 = i
    · rw [pm_cat2 (g2 e2) (pm_nd_at hnd g1)]; simp
    · simp [e2]
/-- an instruction that changes a local -/
theorem pm_l {pc2 : Nat} {st2 : List Value}
    (h : ∀ (p : Program) (e : Env) (R : Room) (s : State) (mth : MethodId) (args : Array Value) (below : List Frame) (meth : Method) (c : Code) (H : Heap) (locs : List Loc) (cells slots : Nat) (Q : State → Prop) (A : Array Slot), p.tables.exec = Jvm.exec → c.code = y.2.1 → pm_ls Γ y.2.2.1 ls A →
      (∀ A', pm_ls Γ y.2.2.1 ls2 A' → W p l e R s mth args below meth c H locs cells slots Q (F0 mth pc2 A' (st2.map (pm_mv Γ)))) → W p l e R s mth args below meth c H locs cells slots Q (F0 mth pc A (st.map (pm_mv Γ))))
    (k : pm_G l Γ y d pc2 ls2 st2 m res) : pm_G l Γ y d pc ls st m res := by
  intro o m' hr
  obtain ⟨h1, h2⟩ := k o m' hr
  refine ⟨h1, ?_⟩
  intro p e s mth args below meth c R H locs cells slots mc ms A hC a1 a2 a3 a4 a5 a6 a7
  exact h p e R s mth args below meth c H locs cells slots _ A hC.1 hC.2.1 a4 (fun A' a4' => h2 p e s mth args below meth c R H locs cells slots mc ms A' hC a1 a2 a3 a4' a5 a6 a7)
/-- fewer locals are asked -/
theorem pm_drop (hlen : ls2.length ≤ ls.length) (hs : ∀ (i : Nat) (v : Value), ls2[i]? = some v → v = pmU ∨ ls[i]? = some v) (k : pm_G l Γ y d pc ls2 st m res) : pm_G l Γ y d pc ls st m res := by
  intro o m' hr
  obtain ⟨h1, h2⟩ := k o m' hr
  refine ⟨h1, ?_⟩
  intro p e s mth args below meth c R H locs cells slots mc ms A hC a1 a2 a3 a4 a5 a6 a7
  refine h2 p e s mth args below meth c R H locs cells slots mc ms A hC a1 a2 a3 ⟨Nat.le_trans hlen a4.1, a4.2.1, a4.2.2.1, ?_⟩ a5 a6 a7
  rintro ⟨j, w⟩ hq
  obtain ⟨v2, g1, g2, rfl⟩ := pm_mem.mp hq
  rcases hs j v2 g1 with e | e
  · exact absurd e g2
  · exact a4.2.2.2 _ (pm_mem.mpr ⟨v2, e, g2, rfl⟩)
theorem pm_istore {i : Nat} {x : Int32} (hd : decode y.2.1 pc = .ok (.istore i, 2))  (hnd : pm_nd ls = true) (hn : i < y.2.2.1) (he : pm_set ls i (.int x) = ls2) (k : pm_G l Γ y d (pc + 2) ls2 st m res) : pm_G l Γ y d pc ls (.int x :: st) m res := pm_l (fun _ _ _ _ _ _ _ _ _ _ _ _ _ _ _ hx hb hl k => lv_istore hx hb hd  hl.2 hn rfl (fun A9 h9 => k A9 (he ▸ pm_ls_set hl.1 hnd rfl h9))) k
theorem pm_istore_n {i : Fin 4} {j : Nat} {x : Int32} (hd : decode y.2.1 pc = .ok (.istore_n i, 1)) (hi : (i : Nat) = j) (hnd : pm_nd ls = true) (hn : j < y.2.2.1) (he : pm_set ls j (.int x) = ls2) (k : pm_G l Γ y d (pc + 1) ls2 st m res) : pm_G l Γ y d pc ls (.int x :: st) m res := pm_l (fun _ _ _ _ _ _ _ _ _ _ _ _ _ _ _ hx hb hl k => lv_istore_n hx hb hd hi hl.2 hn rfl (fun A9 h9 => k A9 (he ▸ pm_ls_set hl.1 hnd rfl h9))) k
theorem pm_astore {i : Nat} {x : Nat} (hd : decode y.2.1 pc = .ok (.astore i, 2))  (hnd : pm_nd ls = true) (hn : i < y.2.2.1) (he : pm_set ls i (.ref x) = ls2) (k : pm_G l Γ y d (pc + 2) ls2 st m res) : pm_G l Γ y d pc ls (.ref x :: st) m res := pm_l (fun _ _ _ _ _ _ _ _ _ _ _ _ _ _ _ hx hb hl k => lv_astore hx hb hd  hl.2 hn rfl (fun A9 h9 => k A9 (he ▸ pm_ls_set hl.1 hnd rfl h9))) k
theorem pm_astore_n {i : Fin 4} {j : Nat} {x : Nat} (hd : decode y.2.1 pc = .ok (.astore_n i, 1)) (hi : (i : Nat) = j) (hnd : pm_nd ls = true) (hn : j < y.2.2.1) (he : pm_set ls j (.ref x) = ls2) (k : pm_G l Γ y d (pc + 1) ls2 st m res) : pm_G l Γ y d pc ls (.ref x :: st) m res := pm_l (fun _ _ _ _ _ _ _ _ _ _ _ _ _ _ _ hx hb hl k => lv_astore_n hx hb hd hi hl.2 hn rfl (fun A9 h9 => k A9 (he ▸ pm_ls_set hl.1 hnd rfl h9))) k
theorem pm_lstore {i : Nat} {x : Int64} (hd : decode y.2.1 pc = .ok (.lstore i, 2))  (hnd : pm_nd ls = true) (hn : i + 1 < y.2.2.1) (he : (pm_set ls i (.long x)).set (i + 1) pmU = ls2) (k : pm_G l Γ y d (pc + 2) ls2 st m res) : pm_G l Γ y d pc ls (.long x :: st) m res := pm_l (fun _ _ _ _ _ _ _ _ _ _ _ _ _ _ _ hx hb hl k => lv_lstore hx hb hd  hl.2 hn rfl (fun A9 h9 => k A9 (he ▸ pm_ls_set2 hl.1 hnd rfl h9))) k
theorem pm_lstore_n {i : Fin 4} {j : Nat} {x : Int64} (hd : decode y.2.1 pc = .ok (.lstore_n i, 1)) (hi : (i : Nat) = j) (hnd : pm_nd ls = true) (hn : j + 1 < y.2.2.1) (he : (pm_set ls j (.long x)).set (j + 1) pmU = ls2) (k : pm_G l Γ y d (pc + 1) ls2 st m res) : pm_G l Γ y d pc ls (.long x :: st) m res := pm_l (fun _ _ _ _ _ _ _ _ _ _ _ _ _ _ _ hx hb hl k => lv_lstore_n hx hb hd hi hl.2 hn rfl (fun A9 h9 => k A9 (he ▸ pm_ls_set2 hl.1 hnd rfl h9))) k
theorem pm_iinc {i : Nat} {n : Int} {x v : Int32} (hd : decode y.2.1 pc = .ok (.iinc i n, 3)) (hv : ls[i]? = some (.int x)) (hx9 : x + Int32.ofInt n = v) (hnd : pm_nd ls = true) (hn : i < y.2.2.1) (he : pm_set ls i (.int v) = ls2) (k : pm_G l Γ y d (pc + 3) ls2 st m res) : pm_G l Γ y d pc ls st m res := by
  refine pm_l (fun _ _ _ _ _ _ _ _ _ _ _ _ _ _ _ hx hb hl k => ?_) k
  have hm : (i, Value.int x) ∈ pm_pairs Γ ls := pm_mem.mpr ⟨.int x, hv, (by intro h; cases h), rfl⟩
  obtain ⟨k9, hk9⟩ := List.getElem?_of_mem hm
  exact lv_iinc hx hb hd hl.2 hk9 hx9 hn rfl (fun A9 h9 => k A9 (he ▸ pm_ls_set hl.1 hnd rfl h9))
/-- a value of the stack gets a name -/
theorem pm_nmI {v : Int32} {f : Int32 → pmR} (k : ∀ x, pm_G l Γ y d pc ls (.int x :: st) m (f x)) : pm_G l Γ y d pc ls (.int v :: st) m (f v) := k v
end PMT
