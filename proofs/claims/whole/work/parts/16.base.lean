/-! what the printed walks use -/
section PMZ
variable {l : Launch} {Γ : pmG} {y : pmY} {d pc : Nat} {ls ls2 st : List Value} {m : pmM} {res : pmR}
theorem pm_in {w : Cond} (i : Nat) (h : lw_tbl[i]? = some w) (g : goodWord w = true) : w ∈ pm_tbl := List.mem_filter.mpr ⟨List.mem_of_getElem? h, g⟩
theorem pm_inN {w : Cond} (i : Nat) (h : lw_tbl[i]? = some w) (g : pm_isN w = true) : w ∈ pm_nest := List.mem_filter.mpr ⟨List.mem_of_getElem? h, g⟩
theorem pm_inL {ws : List Cond} (ps : List Nat) (hp : ws = ps.filterMap (fun i => lw_tbl[i]?)) (hg : ws.all goodWord = true) : ∀ w ∈ ws, w ∈ pm_tbl := by
  intro w hw
  refine List.mem_filter.mpr ⟨?_, List.all_eq_true.mp hg w hw⟩
  rw [hp] at hw
  obtain ⟨i, -, hi⟩ := List.mem_filterMap.mp hw
  exact List.mem_of_getElem? hi
/-- fewer locals are asked: by places -/
def pm_le : List Value → List Value → Prop
  | [], _ => True
  | _ :: _, [] => False
  | v :: r, w :: r2 => (v = pmU ∨ v = w) ∧ pm_le r r2
theorem pm_le_n {l2 : List Value} : pm_le [] l2 := trivial
theorem pm_le_u {r r2 : List Value} {w : Value} (h : pm_le r r2) : pm_le (pmU :: r) (w :: r2) := ⟨Or.inl rfl, h⟩
theorem pm_le_v {r r2 : List Value} {v : Value} (h : pm_le r r2) : pm_le (v :: r) (v :: r2) := ⟨Or.inr rfl, h⟩
theorem pm_le_spec : ∀ {l2 l1 : List Value}, pm_le l2 l1 → ∀ (i : Nat) (v : Value), l2[i]? = some v → v = pmU ∨ l1[i]? = some v
  | [], _, _, i, v, h => by simp at h
  | _ :: _, [], h, _, _, _ => h.elim
  | a :: r, b :: r2, h, 0, v, hv => by
    simp only [List.getElem?_cons_zero, Option.some.injEq] at hv ⊢
    subst hv
    rcases h.1 with e | e
    · exact Or.inl e
    · exact Or.inr e.symm
  | a :: r, b :: r2, h, i + 1, v, hv => by
    simp only [List.getElem?_cons_succ] at hv ⊢
    exact pm_le_spec h.2 i v hv
theorem pm_eqls (h : ls = ls2) (k : pm_G l Γ y d pc ls2 st m res) : pm_G l Γ y d pc ls st m res := h ▸ k
def pm_bI (v : Int32) (f : Int32 → pmR) : pmR := f v
def pm_bL (v : Int64) (f : Int64 → pmR) : pmR := f v
theorem pm_bIn {v : Int32} {f : Int32 → pmR} (k : ∀ x, pm_G l Γ y d pc ls (.int x :: st) m (f x)) : pm_G l Γ y d pc ls (.int v :: st) m (pm_bI v f) := k v
theorem pm_bLn {v : Int64} {f : Int64 → pmR} (k : ∀ x, pm_G l Γ y d pc ls (.long x :: st) m (f x)) : pm_G l Γ y d pc ls (.long v :: st) m (pm_bL v f) := k v
theorem pm_iincn {i : Nat} {n : Int} {x c : Int32} {f : Int32 → pmR} (hd : decode y.2.1 pc = .ok (.iinc i n, 3)) (hv : ls[i]? = some (.int x)) (hc : Int32.ofInt n = c) (hnd : pm_nd ls = true) (hn : i < y.2.2.1) (k : ∀ v, pm_G l Γ y d (pc + 3) (pm_set ls i (.int v)) st m (f v)) : pm_G l Γ y d pc ls st m (pm_bI (x + c) f) :=
  pm_iinc hd hv (by rw [hc]) hnd hn rfl (k (x + c))
def pm_nw (ci n : Nat) (m : pmM) (f : Nat → pmM → pmR) : pmR := f m.1 (pm_al m (ci, 0, fun _ => none) n)
theorem pm_newn {q : vw_C} {ty : Nat → FieldType} {ci index : Nat} (hkn : pm_kn ci q ty) (hdef : ∀ j, j < q.2.2 → defaultValue (ty j) = if pm_fr ci j = true then .null else .int 0) (hw1 : Cond.classLink y.1.cls index q.1 ∈ pm_tbl) (hw2 : Cond.instantiable q.1 q.2.2 ∈ pm_tbl) (hw3 : Cond.initialized q.1 ∈ pm_tbl) (hd : decode y.2.1 pc = .ok (.new index, 3))
    {f : Nat → pmM → pmR} (kk : ∀ b m2, pm_G l Γ y d (pc + 3) ls (.ref b :: st) m2 (f b m2)) : pm_G l Γ y d pc ls st m (pm_nw ci q.2.2 m f) := pm_new hkn hdef hw1 hw2 hw3 hd kk
abbrev pm_oI (v : Int32) (m : pmM) : pmR := some (.inl (some (.int v)), m)
abbrev pm_oL (v : Int64) (m : pmM) : pmR := some (.inl (some (.long v)), m)
abbrev pm_oV (m : pmM) : pmR := some (.inl none, m)
/-- how often a loop goes round at most; how deep a circle of calls goes -/
def pm_N : Nat := 100000
def pm_D : Nat := 10
theorem pm_swx (x : Int32) (lo : Int) (n : Nat) {hi : Int} (h : ∀ i : Nat, i < n → ¬ x = Int32.ofInt (lo + i)) (e : hi = lo + n - 1 := by decide) : x.toInt < lo ∨ hi < x.toInt := by
  rcases Int.lt_or_le x.toInt lo with h1 | h1
  · exact Or.inl h1
  · rcases Int.lt_or_le hi x.toInt with h2 | h2
    · exact Or.inr h2
    · exfalso
      refine h (x.toInt - lo).toNat (by omega) ?_
      rw [show lo + ((x.toInt - lo).toNat : Int) = x.toInt by omega]
      exact (Int32.ofInt_toInt x).symm
theorem pm_lk2 (x : Int32) (a b : Int) {o1 o2 dflt : Int} (h1 : ¬ x = Int32.ofInt a) (h2 : ¬ x = Int32.ofInt b) : Op.lookupswitch.offset [(a, o1), (b, o2)] dflt x.toInt = dflt := by
  have e1 : ¬ a = x.toInt := fun e => h1 (by rw [e]; exact (Int32.ofInt_toInt x).symm)
  have e2 : ¬ b = x.toInt := fun e => h2 (by rw [e]; exact (Int32.ofInt_toInt x).symm)
  have e3 : ¬ x.toInt = a := fun e => e1 e.symm
  have e4 : ¬ x.toInt = b := fun e => e2 e.symm
  simp [Op.lookupswitch.offset, e1, e2, e3, e4]
end PMZ
theorem pm_ne {x a b : Int32} (h : ¬ x = a) (e : b = a) : ¬ x = b := e ▸ h
