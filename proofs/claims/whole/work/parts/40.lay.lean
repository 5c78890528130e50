/-! THE LAYOUT: which cell is what, once class and model are made (addresses 64 .. 594); rules that run a pure function over a memory of this layout. Written by wip/whole/gen/lay40.py -/
section LAY
/-- first cell, how many, kind, length -/
def ly_T : List (Nat × Nat × Nat × Nat) := [(1, 1, 100, 5), (2, 1, 100, 9), (33, 1, 105, 4), (34, 1, 105, 4), (35, 1, 105, 3), (36, 1, 105, 5), (37, 1, 105, 4), (38, 1, 105, 5), (39, 1, 105, 6), (40, 1, 105, 5), (41, 1, 105, 4), (42, 1, 105, 4), (43, 1, 105, 3), (44, 1, 105, 4), (45, 1, 105, 6), (46, 1, 105, 3), (47, 1, 105, 5), (48, 1, 105, 4), (49, 1, 105, 4), (50, 1, 105, 3), (51, 1, 105, 5), (64, 1, 8, 0), (65, 1, 7, 0), (66, 1, 100, 600), (67, 1, 2, 0), (68, 1, 100, 6), (69, 1, 100, 48), (70, 1, 100, 4), (71, 1, 2, 0), (72, 1, 100, 6), (73, 1, 100, 48), (74, 1, 100, 4), (75, 1, 1, 0), (76, 1, 100, 150), (77, 1, 100, 22), (78, 1, 100, 7), (79, 1, 1, 0), (80, 1, 100, 150), (81, 1, 100, 22), (82, 1, 100, 7), (83, 1, 3, 0), (84, 1, 100, 12), (85, 1, 3, 0), (86, 1, 100, 12), (87, 1, 6, 0), (88, 1, 100, 30), (89, 1, 100, 30), (90, 1, 100, 30), (91, 1, 100, 30), (92, 1, 100, 30), (93, 1, 0, 0), (94, 1, 100, 6), (95, 1, 100, 4), (96, 1, 0, 0), (97, 1, 100, 6), (98, 1, 100, 4), (99, 1, 5, 0), (100, 1, 100, 938), (101, 1, 100, 3), (102, 1, 4, 0), (103, 1, 102, 13), (104, 1, 102, 208), (105, 1, 100, 26), (106, 1, 102, 26), (107, 1, 100, 9), (108, 1, 9, 0), (109, 1, 100, 600), (110, 1, 100, 2), (111, 1, 100, 4), (112, 1, 100, 6), (113, 1, 100, 6), (114, 1, 103, 6), (115, 6, 100, 8), (121, 1, 103, 6), (122, 6, 100, 8), (128, 1, 103, 160), (129, 160, 100, 2), (289, 1, 103, 160), (290, 160, 100, 2), (450, 1, 100, 160), (451, 1, 100, 7), (452, 1, 100, 12), (453, 1, 100, 12), (454, 1, 103, 80), (455, 80, 100, 5), (535, 1, 100, 14), (536, 1, 100, 14), (537, 1, 103, 16), (538, 16, 100, 14), (554, 1, 103, 3), (555, 3, 100, 239), (558, 1, 100, 48), (559, 1, 100, 48), (560, 1, 100, 48), (561, 1, 100, 26), (562, 1, 100, 26), (563, 1, 102, 26), (564, 1, 102, 26), (565, 1, 102, 13), (566, 1, 104, 13), (567, 13, 102, 16), (580, 1, 100, 9), (581, 1, 101, 16), (582, 1, 103, 9), (583, 9, 100, 9), (592, 1, 102, 14), (593, 1, 100, 16), (594, 1, 102, 1)]
def ly_f (a : Nat) : Nat × Nat := match ly_T.find? (fun t => Nat.ble t.1 a && Nat.blt a (t.1 + t.2.1)) with
  | some t => t.2.2
  | none => (199, 0)
def ly_R : List (Nat × Nat × Nat) := [(64, 0, 65), (64, 1, 67), (64, 2, 71), (64, 3, 75), (64, 4, 79), (64, 5, 83), (64, 6, 85), (64, 7, 87), (64, 8, 93), (64, 9, 96), (64, 10, 99), (64, 11, 102), (65, 0, 66), (67, 0, 68), (67, 1, 69), (67, 2, 70), (71, 0, 72), (71, 1, 73), (71, 2, 74), (75, 0, 76), (75, 1, 77), (75, 2, 78), (79, 0, 80), (79, 1, 81), (79, 2, 82), (83, 0, 84), (85, 0, 86), (87, 0, 88), (87, 1, 89), (87, 2, 90), (87, 3, 91), (87, 4, 92), (93, 0, 67), (93, 1, 75), (93, 2, 94), (93, 3, 95), (96, 0, 67), (96, 1, 75), (96, 2, 97), (96, 3, 98), (99, 0, 100), (99, 1, 101), (102, 0, 67), (102, 1, 103), (102, 2, 104), (102, 3, 105), (102, 4, 106), (102, 5, 107), (108, 9, 109), (108, 10, 110), (108, 14, 111), (108, 15, 112), (108, 16, 113), (108, 17, 114), (108, 18, 121), (108, 21, 128), (108, 22, 289), (108, 23, 450), (108, 24, 451), (108, 25, 452), (108, 26, 453), (108, 27, 454), (108, 29, 535), (108, 30, 536), (108, 31, 537), (108, 32, 554), (108, 40, 558), (108, 41, 559), (108, 42, 560), (108, 43, 561), (108, 44, 562), (108, 45, 563), (108, 46, 564), (108, 47, 565), (108, 48, 566), (108, 49, 580), (108, 50, 581), (108, 51, 582), (108, 52, 592), (108, 53, 593)]
def ly_r (a j : Nat) : Option Nat := if a = 114 then (if j < 6 then some (115 + j) else none) else if a = 121 then (if j < 6 then some (122 + j) else none) else if a = 128 then (if j < 160 then some (129 + j) else none) else if a = 289 then (if j < 160 then some (290 + j) else none) else if a = 454 then (if j < 80 then some (455 + j) else none) else if a = 537 then (if j < 16 then some (538 + j) else none) else if a = 554 then (if j < 3 then some (555 + j) else none) else if a = 566 then (if j < 13 then some (567 + j) else none) else if a = 582 then (if j < 9 then some (583 + j) else none) else (ly_R.find? (fun t => Nat.beq t.1 a && Nat.beq t.2.1 j)).map (fun t => t.2.2)
def ly (c : Nat) (S : Nat → pmS) : Prop := 595 ≤ c ∧ ∀ a, 0 < a → a < 595 → S a = ((ly_f a).1, (ly_f a).2, ly_r a)
def ly_ok (a ci : Nat) : Bool := Nat.blt 0 a && (Nat.blt a 595 && Nat.beq (ly_f a).1 ci)
def ly_w (a ci : Nat) : Bool := Nat.blt 63 a && (Nat.blt a 595 && Nat.beq (ly_f a).1 ci)
def ly_u (I : Nat → Nat → Int32) (a k : Nat) (v : Int32) : Nat → Nat → Int32 := fun i j => if i = a ∧ j = k then v else I i j
def ly_v (K : Nat → Nat → Int64) (a k : Nat) (v : Int64) : Nat → Nat → Int64 := fun i j => if i = a ∧ j = k then v else K i j
def ly_c (I : Nat → Nat → Int32) (a0 sp a1 dp n : Nat) : Nat → Nat → Int32 := fun i j => if i = a1 ∧ dp ≤ j ∧ j < dp + n then I a0 (sp + (j - dp)) else I i j
variable {c w : Nat} {S : Nat → pmS} {I : Nat → Nat → Int32} {K : Nat → Nat → Int64}
theorem ly_bt {a b : Nat} (h : Nat.blt a b = true) : a < b := Nat.le_of_ble_eq_true h
theorem ly_okS {a ci : Nat} (h : ly c S) (ha : ly_ok a ci = true) : a < c ∧ (S a).1 = ci := by
  simp only [ly_ok, Bool.and_eq_true] at ha
  have h1 := ly_bt ha.1
  have h2 := ly_bt ha.2.1
  refine ⟨Nat.lt_of_lt_of_le h2 h.1, ?_⟩
  rw [h.2 a h1 h2]
  exact Nat.eq_of_beq_eq_true ha.2.2
theorem ly_okL {a ci : Nat} (h : ly c S) (ha : ly_ok a ci = true) : (S a).2.1 = (ly_f a).2 ∧ (S a).2.2 = ly_r a := by
  simp only [ly_ok, Bool.and_eq_true] at ha
  rw [h.2 a (ly_bt ha.1) (ly_bt ha.2.1)]
  exact ⟨rfl, rfl⟩
theorem ly_wok {a ci : Nat} (ha : ly_w a ci = true) : ly_ok a ci = true ∧ pm_E ≤ a := by
  simp only [ly_w, ly_ok, Bool.and_eq_true] at ha ⊢
  have h1 := ly_bt ha.1
  refine ⟨⟨Nat.ble_eq_true_of_le (by omega), ha.2⟩, h1⟩
theorem ly_gI {ci a k : Nat} {f : Int32 → pmR} (h : ly c S) (ha : ly_ok a ci = true) : pm_gI ci a k (c, w, S, I, K) f = f (I a k) := by
  unfold pm_gI
  rw [if_pos (ly_okS h ha)]
theorem ly_gR {ci a k b : Nat} {f : Nat → pmR} (h : ly c S) (ha : ly_ok a ci = true) (hb : ly_r a k = some b) : pm_gR ci a k (c, w, S, I, K) f = f b := by
  unfold pm_gR
  rw [if_pos (ly_okS h ha)]
  simp only [(ly_okL h ha).2, hb]
theorem ly_pI {ci a k : Nat} {v : Int32} {f : pmM → pmR} (h : ly c S) (ha : ly_w a ci = true) : pm_pI ci a k v (c, w, S, I, K) f = f (c, w, S, ly_u I a k v, K) := by
  have h2 := ly_wok ha
  have h3 := ly_okS h h2.1
  unfold pm_pI
  rw [if_pos ⟨⟨h2.2, h3.1⟩, h3.2⟩]
  rfl
theorem ly_rc {ci a : Nat} {r : pmR} (h : ly c S) (ha : ly_ok a ci = true) : pm_rc ci a (c, w, S, I, K) r = r := by
  unfold pm_rc
  rw [if_pos (ly_okS h ha)]
theorem ly_lenG {kd a : Nat} {f : Int32 → pmR} (h : ly c S) (ha : ly_ok a kd = true) : pm_len kd a (c, w, S, I, K) f = f (nI (ly_f a).2) := by
  unfold pm_len
  rw [if_pos (ly_okS h ha)]
  simp only [(ly_okL h ha).1]
theorem ly_ldG {kd a n : Nat} (N : Nat) {f : Int32 → pmR} (h : ly c S) (ha : ly_ok a kd = true) (hN : (ly_f a).2 = N) (hN2 : N < 2 ^ 31) (hn : n < N) : pm_ld kd a (nI n) (c, w, S, I, K) f = f (I a n) := by
  unfold pm_ld
  rw [if_pos (ly_okS h ha)]
  simp only [(ly_okL h ha).1, hN]
  rw [if_neg (nI_in hn hN2), nI_clamp (by omega)]
theorem ly_ldLG {a n : Nat} (N : Nat) {f : Int64 → pmR} (h : ly c S) (ha : ly_ok a 102 = true) (hN : (ly_f a).2 = N) (hN2 : N < 2 ^ 31) (hn : n < N) : pm_ldL a (nI n) (c, w, S, I, K) f = f (K a n) := by
  unfold pm_ldL
  rw [if_pos (ly_okS h ha)]
  simp only [(ly_okL h ha).1, hN]
  rw [if_neg (nI_in hn hN2), nI_clamp (by omega)]
theorem ly_ldRG {kd a n b : Nat} (N : Nat) {f : Nat → pmR} (h : ly c S) (ha : ly_ok a kd = true) (hN : (ly_f a).2 = N) (hN2 : N < 2 ^ 31) (hn : n < N) (hb : ly_r a n = some b) : pm_ldR kd a (nI n) (c, w, S, I, K) f = f b := by
  unfold pm_ldR
  rw [if_pos (ly_okS h ha)]
  simp only [(ly_okL h ha).1, (ly_okL h ha).2, hN]
  rw [if_neg (nI_in hn hN2), nI_clamp (by omega)]
  simp only [hb]
theorem ly_stG {kd a n : Nat} (N : Nat) {v : Int32} {f : pmM → pmR} (h : ly c S) (ha : ly_w a kd = true) (hN : (ly_f a).2 = N) (hN2 : N < 2 ^ 31) (hn : n < N) : pm_st kd a (nI n) v (c, w, S, I, K) f = f (c, w, S, ly_u I a n v, K) := by
  have h2 := ly_wok ha
  have h3 := ly_okS h h2.1
  unfold pm_st
  rw [if_pos ⟨⟨h2.2, h3.1⟩, h3.2⟩]
  simp only [(ly_okL h h2.1).1, hN]
  rw [if_neg (nI_in hn hN2), nI_clamp (by omega)]
  rfl
theorem ly_stLG {a n : Nat} (N : Nat) {v : Int64} {f : pmM → pmR} (h : ly c S) (ha : ly_w a 102 = true) (hN : (ly_f a).2 = N) (hN2 : N < 2 ^ 31) (hn : n < N) : pm_stL a (nI n) v (c, w, S, I, K) f = f (c, w, S, I, ly_v K a n v) := by
  have h2 := ly_wok ha
  have h3 := ly_okS h h2.1
  unfold pm_stL
  rw [if_pos ⟨⟨h2.2, h3.1⟩, h3.2⟩]
  simp only [(ly_okL h h2.1).1, hN]
  rw [if_neg (nI_in hn hN2), nI_clamp (by omega)]
  rfl
theorem ly_cpG {a0 a1 sp dp n : Nat} (N0 N1 : Nat) {f : pmM → pmR} (h : ly c S) (ha : ly_ok a0 100 = true) (hb : ly_w a1 100 = true) (hN0 : (ly_f a0).2 = N0) (hN1 : (ly_f a1).2 = N1) (h0 : N0 < 2 ^ 31) (h1 : N1 < 2 ^ 31) (hn0 : sp + n ≤ N0) (hn1 : dp + n ≤ N1) : pm_cp a0 (nI sp) a1 (nI dp) (nI n) (c, w, S, I, K) f = f (c, w, S, ly_c I a0 sp a1 dp n, K) := by
  have h2 := ly_wok hb
  have h3 := ly_okS h h2.1
  have h4 := ly_okS h ha
  unfold pm_cp
  rw [nI_clamp (n := sp) (by omega), nI_clamp (n := dp) (by omega), nI_clamp (n := n) (by omega)]
  rw [if_pos ⟨⟨h4, ⟨h2.2, h3.1⟩, h3.2⟩, ⟨nI_pos (by omega), nI_pos (by omega), nI_pos (by omega)⟩, by simp only [(ly_okL h ha).1, hN0]; exact hn0, by simp only [(ly_okL h h2.1).1, hN1]; exact hn1⟩]
  rfl
theorem ly_uE (a k : Nat) (v : Int32) (i j : Nat) : ly_u I a k v i j = if i = a ∧ j = k then v else I i j := rfl
theorem ly_vE (a k : Nat) (v : Int64) (i j : Nat) : ly_v K a k v i j = if i = a ∧ j = k then v else K i j := rfl
theorem ly_cE (a0 sp a1 dp n i j : Nat) : ly_c I a0 sp a1 dp n i j = if i = a1 ∧ dp ≤ j ∧ j < dp + n then I a0 (sp + (j - dp)) else I i j := rfl
theorem ly_cI {v : Int32} {m : pmM} {f : Int32 → pmM → pmR} : pm_cI (some (.inl (some (.int v)), m)) f = f v m := rfl
theorem ly_cIx {k : Nat} {m : pmM} {f : Int32 → pmM → pmR} : pm_cI (some (.inr k, m)) f = some (.inr k, m) := rfl
theorem ly_cL {v : Int64} {m : pmM} {f : Int64 → pmM → pmR} : pm_cL (some (.inl (some (.long v)), m)) f = f v m := rfl
theorem ly_cLx {k : Nat} {m : pmM} {f : Int64 → pmM → pmR} : pm_cL (some (.inr k, m)) f = some (.inr k, m) := rfl
theorem ly_cV {m : pmM} {f : pmM → pmR} : pm_cV (some (.inl none, m)) f = f m := rfl
theorem ly_cVx {k : Nat} {m : pmM} {f : pmM → pmR} : pm_cV (some (.inr k, m)) f = some (.inr k, m) := rfl
theorem ly_bI {v : Int32} {f : Int32 → pmR} : pm_bI v f = f v := rfl
theorem ly_bL {v : Int64} {f : Int64 → pmR} : pm_bL v f = f v := rfl
def ly_b (b : Bool) : Int32 := if b then 1 else 0
theorem ly_b1 : ly_b true = 1 := rfl
theorem ly_b0 : ly_b false = 0 := rfl
theorem ly_bz {b : Bool} : (ly_b b = 0) ↔ (b = false) := by cases b <;> decide
theorem ly_nb {b : Bool} : vp_nar .boolean (ly_b b) = ly_b b := by cases b <;> rfl
theorem ly_n0 : vp_nar .boolean 0 = 0 := rfl
theorem ly_n1 : vp_nar .boolean 1 = 1 := rfl
theorem ly_10 : ((1 : Int32) = 0) ↔ False := by decide
theorem ly_lit (k : Nat) : (no_index (OfNat.ofNat k : Int32)) = nI k := rfl
theorem ly_leL {k l : Nat} (hk : k < 2 ^ 31) (hl : l < 2 ^ 31) : ((no_index (OfNat.ofNat k : Int32)) ≤ nI l) ↔ k ≤ l := nI_leI hk hl
theorem ly_leR {k l : Nat} (hk : k < 2 ^ 31) (hl : l < 2 ^ 31) : (nI l ≤ (no_index (OfNat.ofNat k : Int32))) ↔ l ≤ k := nI_leI hl hk
theorem ly_ltL {k l : Nat} (hk : k < 2 ^ 31) (hl : l < 2 ^ 31) : ((no_index (OfNat.ofNat k : Int32)) < nI l) ↔ k < l := nI_ltI hk hl
theorem ly_ltR {k l : Nat} (hk : k < 2 ^ 31) (hl : l < 2 ^ 31) : (nI l < (no_index (OfNat.ofNat k : Int32))) ↔ l < k := nI_ltI hl hk
theorem ly_eqR {k l : Nat} (hk : k < 2 ^ 31) (hl : l < 2 ^ 31) : (nI l = (no_index (OfNat.ofNat k : Int32))) ↔ l = k := nI_eq hl hk
theorem ly_eqL {k l : Nat} (hk : k < 2 ^ 31) (hl : l < 2 ^ 31) : ((no_index (OfNat.ofNat k : Int32)) = nI l) ↔ k = l := nI_eq hk hl
theorem ly_addR {k l : Nat} : nI l + (no_index (OfNat.ofNat k : Int32)) = nI (l + k) := nI_add l k
theorem ly_addL {k l : Nat} : (no_index (OfNat.ofNat k : Int32)) + nI l = nI (k + l) := nI_add k l
theorem ly_mulR {k l : Nat} : nI l * (no_index (OfNat.ofNat k : Int32)) = nI (l * k) := pk_mul l k
theorem ly_mulL {k l : Nat} : (no_index (OfNat.ofNat k : Int32)) * nI l = nI (k * l) := pk_mul k l
theorem ly_subR {k l : Nat} (h : k ≤ l) : nI l - (no_index (OfNat.ofNat k : Int32)) = nI (l - k) := pk_sub h
/-- a loop: a measure falls -/
theorem ly_lp {σ ι : Type} {body : (σ → pmR) → σ → pmR} (st : ι → σ) (μ : ι → Nat) (Inv : ι → Prop) (P : ι → pmR → Prop) (h : ∀ again x, Inv x → (∀ y, Inv y → μ y < μ x → P y (again (st y))) → P x (body again (st x))) : ∀ n x, Inv x → μ x < n → P x (pm_lp n body (st x)) := by
  intro n
  induction n with
  | zero => intro x _ hx; omega
  | succ n ih =>
    intro x hI hx
    exact h (pm_lp n body) x hI (fun y hy hlt => ih y hy (by omega))
/-- a loop that counts up, with what it gathers -/
def ly_fl {α : Type} (f : Nat → α → α) : Nat → Nat → α → α
  | _, 0, a => a
  | i, k + 1, a => ly_fl f (i + 1) k (f i a)
theorem ly_for {σ α : Type} {body : (σ → pmR) → σ → pmR} (st : Nat → α → σ) (n : Nat) (f : Nat → α → α) (Kf : α → pmR) (Q : Nat → α → Prop) (hs : ∀ again i a, i < n → Q i a → body again (st i a) = again (st (i + 1) (f i a)) ∧ Q (i + 1) (f i a)) (he : ∀ again a, Q n a → body again (st n a) = Kf a) : ∀ N k i a, Q i a → i + k = n → k < N → pm_lp N body (st i a) = Kf (ly_fl f i k a) := by
  intro N
  induction N with
  | zero => intro k i a _ _ h; omega
  | succ N ih =>
    intro k i a hQ hk hN
    cases k with
    | zero =>
      have : i = n := by omega
      subst this
      exact he _ _ hQ
    | succ k =>
      have h1 := hs (pm_lp N body) i a (by omega) hQ
      show body (pm_lp N body) (st i a) = _
      rw [h1.1]
      exact ih k (i + 1) (f i a) h1.2 (by omega) (by omega)
theorem ly_flS {α : Type} (f : Nat → α → α) : ∀ (k i : Nat) (a : α), ly_fl f i (k + 1) a = f (i + k) (ly_fl f i k a)
  | 0, i, a => rfl
  | k + 1, i, a => by
    show ly_fl f (i + 1) (k + 1) (f i a) = _
    rw [ly_flS f k (i + 1) (f i a), show i + 1 + k = i + (k + 1) by omega]
    rfl
theorem ly_flC {α : Type} {f g : Nat → α → α} : ∀ (k i : Nat) (a : α), (∀ j b, i ≤ j → j < i + k → f j b = g j b) → ly_fl f i k a = ly_fl g i k a
  | 0, _, _, _ => rfl
  | k + 1, i, a, h => by
    show ly_fl f (i + 1) k (f i a) = ly_fl g (i + 1) k (g i a)
    rw [h i a (by omega) (by omega)]
    exact ly_flC k (i + 1) _ (fun j b h1 h2 => h j b (by omega) (by omega))
theorem pm_NE : pm_N = 100000 := rfl
theorem lr_64_0 {f : Nat → pmR} (h : ly c S) : pm_gR 8 64 0 (c, w, S, I, K) f = f 65 := ly_gR h rfl rfl
theorem lr_64_1 {f : Nat → pmR} (h : ly c S) : pm_gR 8 64 1 (c, w, S, I, K) f = f 67 := ly_gR h rfl rfl
theorem lr_64_2 {f : Nat → pmR} (h : ly c S) : pm_gR 8 64 2 (c, w, S, I, K) f = f 71 := ly_gR h rfl rfl
theorem lr_64_3 {f : Nat → pmR} (h : ly c S) : pm_gR 8 64 3 (c, w, S, I, K) f = f 75 := ly_gR h rfl rfl
theorem lr_64_4 {f : Nat → pmR} (h : ly c S) : pm_gR 8 64 4 (c, w, S, I, K) f = f 79 := ly_gR h rfl rfl
theorem lr_64_5 {f : Nat → pmR} (h : ly c S) : pm_gR 8 64 5 (c, w, S, I, K) f = f 83 := ly_gR h rfl rfl
theorem lr_64_6 {f : Nat → pmR} (h : ly c S) : pm_gR 8 64 6 (c, w, S, I, K) f = f 85 := ly_gR h rfl rfl
theorem lr_64_7 {f : Nat → pmR} (h : ly c S) : pm_gR 8 64 7 (c, w, S, I, K) f = f 87 := ly_gR h rfl rfl
theorem lr_64_8 {f : Nat → pmR} (h : ly c S) : pm_gR 8 64 8 (c, w, S, I, K) f = f 93 := ly_gR h rfl rfl
theorem lr_64_9 {f : Nat → pmR} (h : ly c S) : pm_gR 8 64 9 (c, w, S, I, K) f = f 96 := ly_gR h rfl rfl
theorem lr_64_10 {f : Nat → pmR} (h : ly c S) : pm_gR 8 64 10 (c, w, S, I, K) f = f 99 := ly_gR h rfl rfl
theorem lr_64_11 {f : Nat → pmR} (h : ly c S) : pm_gR 8 64 11 (c, w, S, I, K) f = f 102 := ly_gR h rfl rfl
theorem lr_65_0 {f : Nat → pmR} (h : ly c S) : pm_gR 7 65 0 (c, w, S, I, K) f = f 66 := ly_gR h rfl rfl
theorem lr_67_0 {f : Nat → pmR} (h : ly c S) : pm_gR 2 67 0 (c, w, S, I, K) f = f 68 := ly_gR h rfl rfl
theorem lr_67_1 {f : Nat → pmR} (h : ly c S) : pm_gR 2 67 1 (c, w, S, I, K) f = f 69 := ly_gR h rfl rfl
theorem lr_67_2 {f : Nat → pmR} (h : ly c S) : pm_gR 2 67 2 (c, w, S, I, K) f = f 70 := ly_gR h rfl rfl
theorem lr_71_0 {f : Nat → pmR} (h : ly c S) : pm_gR 2 71 0 (c, w, S, I, K) f = f 72 := ly_gR h rfl rfl
theorem lr_71_1 {f : Nat → pmR} (h : ly c S) : pm_gR 2 71 1 (c, w, S, I, K) f = f 73 := ly_gR h rfl rfl
theorem lr_71_2 {f : Nat → pmR} (h : ly c S) : pm_gR 2 71 2 (c, w, S, I, K) f = f 74 := ly_gR h rfl rfl
theorem lr_75_0 {f : Nat → pmR} (h : ly c S) : pm_gR 1 75 0 (c, w, S, I, K) f = f 76 := ly_gR h rfl rfl
theorem lr_75_1 {f : Nat → pmR} (h : ly c S) : pm_gR 1 75 1 (c, w, S, I, K) f = f 77 := ly_gR h rfl rfl
theorem lr_75_2 {f : Nat → pmR} (h : ly c S) : pm_gR 1 75 2 (c, w, S, I, K) f = f 78 := ly_gR h rfl rfl
theorem lr_79_0 {f : Nat → pmR} (h : ly c S) : pm_gR 1 79 0 (c, w, S, I, K) f = f 80 := ly_gR h rfl rfl
theorem lr_79_1 {f : Nat → pmR} (h : ly c S) : pm_gR 1 79 1 (c, w, S, I, K) f = f 81 := ly_gR h rfl rfl
theorem lr_79_2 {f : Nat → pmR} (h : ly c S) : pm_gR 1 79 2 (c, w, S, I, K) f = f 82 := ly_gR h rfl rfl
theorem lr_83_0 {f : Nat → pmR} (h : ly c S) : pm_gR 3 83 0 (c, w, S, I, K) f = f 84 := ly_gR h rfl rfl
theorem lr_85_0 {f : Nat → pmR} (h : ly c S) : pm_gR 3 85 0 (c, w, S, I, K) f = f 86 := ly_gR h rfl rfl
theorem lr_87_0 {f : Nat → pmR} (h : ly c S) : pm_gR 6 87 0 (c, w, S, I, K) f = f 88 := ly_gR h rfl rfl
theorem lr_87_1 {f : Nat → pmR} (h : ly c S) : pm_gR 6 87 1 (c, w, S, I, K) f = f 89 := ly_gR h rfl rfl
theorem lr_87_2 {f : Nat → pmR} (h : ly c S) : pm_gR 6 87 2 (c, w, S, I, K) f = f 90 := ly_gR h rfl rfl
theorem lr_87_3 {f : Nat → pmR} (h : ly c S) : pm_gR 6 87 3 (c, w, S, I, K) f = f 91 := ly_gR h rfl rfl
theorem lr_87_4 {f : Nat → pmR} (h : ly c S) : pm_gR 6 87 4 (c, w, S, I, K) f = f 92 := ly_gR h rfl rfl
theorem lr_93_0 {f : Nat → pmR} (h : ly c S) : pm_gR 0 93 0 (c, w, S, I, K) f = f 67 := ly_gR h rfl rfl
theorem lr_93_1 {f : Nat → pmR} (h : ly c S) : pm_gR 0 93 1 (c, w, S, I, K) f = f 75 := ly_gR h rfl rfl
theorem lr_93_2 {f : Nat → pmR} (h : ly c S) : pm_gR 0 93 2 (c, w, S, I, K) f = f 94 := ly_gR h rfl rfl
theorem lr_93_3 {f : Nat → pmR} (h : ly c S) : pm_gR 0 93 3 (c, w, S, I, K) f = f 95 := ly_gR h rfl rfl
theorem lr_96_0 {f : Nat → pmR} (h : ly c S) : pm_gR 0 96 0 (c, w, S, I, K) f = f 67 := ly_gR h rfl rfl
theorem lr_96_1 {f : Nat → pmR} (h : ly c S) : pm_gR 0 96 1 (c, w, S, I, K) f = f 75 := ly_gR h rfl rfl
theorem lr_96_2 {f : Nat → pmR} (h : ly c S) : pm_gR 0 96 2 (c, w, S, I, K) f = f 97 := ly_gR h rfl rfl
theorem lr_96_3 {f : Nat → pmR} (h : ly c S) : pm_gR 0 96 3 (c, w, S, I, K) f = f 98 := ly_gR h rfl rfl
theorem lr_99_0 {f : Nat → pmR} (h : ly c S) : pm_gR 5 99 0 (c, w, S, I, K) f = f 100 := ly_gR h rfl rfl
theorem lr_99_1 {f : Nat → pmR} (h : ly c S) : pm_gR 5 99 1 (c, w, S, I, K) f = f 101 := ly_gR h rfl rfl
theorem lr_102_0 {f : Nat → pmR} (h : ly c S) : pm_gR 4 102 0 (c, w, S, I, K) f = f 67 := ly_gR h rfl rfl
theorem lr_102_1 {f : Nat → pmR} (h : ly c S) : pm_gR 4 102 1 (c, w, S, I, K) f = f 103 := ly_gR h rfl rfl
theorem lr_102_2 {f : Nat → pmR} (h : ly c S) : pm_gR 4 102 2 (c, w, S, I, K) f = f 104 := ly_gR h rfl rfl
theorem lr_102_3 {f : Nat → pmR} (h : ly c S) : pm_gR 4 102 3 (c, w, S, I, K) f = f 105 := ly_gR h rfl rfl
theorem lr_102_4 {f : Nat → pmR} (h : ly c S) : pm_gR 4 102 4 (c, w, S, I, K) f = f 106 := ly_gR h rfl rfl
theorem lr_102_5 {f : Nat → pmR} (h : ly c S) : pm_gR 4 102 5 (c, w, S, I, K) f = f 107 := ly_gR h rfl rfl
theorem lr_108_9 {f : Nat → pmR} (h : ly c S) : pm_gR 9 108 9 (c, w, S, I, K) f = f 109 := ly_gR h rfl rfl
theorem lr_108_10 {f : Nat → pmR} (h : ly c S) : pm_gR 9 108 10 (c, w, S, I, K) f = f 110 := ly_gR h rfl rfl
theorem lr_108_14 {f : Nat → pmR} (h : ly c S) : pm_gR 9 108 14 (c, w, S, I, K) f = f 111 := ly_gR h rfl rfl
theorem lr_108_15 {f : Nat → pmR} (h : ly c S) : pm_gR 9 108 15 (c, w, S, I, K) f = f 112 := ly_gR h rfl rfl
theorem lr_108_16 {f : Nat → pmR} (h : ly c S) : pm_gR 9 108 16 (c, w, S, I, K) f = f 113 := ly_gR h rfl rfl
theorem lr_108_17 {f : Nat → pmR} (h : ly c S) : pm_gR 9 108 17 (c, w, S, I, K) f = f 114 := ly_gR h rfl rfl
theorem lr_108_18 {f : Nat → pmR} (h : ly c S) : pm_gR 9 108 18 (c, w, S, I, K) f = f 121 := ly_gR h rfl rfl
theorem lr_108_21 {f : Nat → pmR} (h : ly c S) : pm_gR 9 108 21 (c, w, S, I, K) f = f 128 := ly_gR h rfl rfl
theorem lr_108_22 {f : Nat → pmR} (h : ly c S) : pm_gR 9 108 22 (c, w, S, I, K) f = f 289 := ly_gR h rfl rfl
theorem lr_108_23 {f : Nat → pmR} (h : ly c S) : pm_gR 9 108 23 (c, w, S, I, K) f = f 450 := ly_gR h rfl rfl
theorem lr_108_24 {f : Nat → pmR} (h : ly c S) : pm_gR 9 108 24 (c, w, S, I, K) f = f 451 := ly_gR h rfl rfl
theorem lr_108_25 {f : Nat → pmR} (h : ly c S) : pm_gR 9 108 25 (c, w, S, I, K) f = f 452 := ly_gR h rfl rfl
theorem lr_108_26 {f : Nat → pmR} (h : ly c S) : pm_gR 9 108 26 (c, w, S, I, K) f = f 453 := ly_gR h rfl rfl
theorem lr_108_27 {f : Nat → pmR} (h : ly c S) : pm_gR 9 108 27 (c, w, S, I, K) f = f 454 := ly_gR h rfl rfl
theorem lr_108_29 {f : Nat → pmR} (h : ly c S) : pm_gR 9 108 29 (c, w, S, I, K) f = f 535 := ly_gR h rfl rfl
theorem lr_108_30 {f : Nat → pmR} (h : ly c S) : pm_gR 9 108 30 (c, w, S, I, K) f = f 536 := ly_gR h rfl rfl
theorem lr_108_31 {f : Nat → pmR} (h : ly c S) : pm_gR 9 108 31 (c, w, S, I, K) f = f 537 := ly_gR h rfl rfl
theorem lr_108_32 {f : Nat → pmR} (h : ly c S) : pm_gR 9 108 32 (c, w, S, I, K) f = f 554 := ly_gR h rfl rfl
theorem lr_108_40 {f : Nat → pmR} (h : ly c S) : pm_gR 9 108 40 (c, w, S, I, K) f = f 558 := ly_gR h rfl rfl
theorem lr_108_41 {f : Nat → pmR} (h : ly c S) : pm_gR 9 108 41 (c, w, S, I, K) f = f 559 := ly_gR h rfl rfl
theorem lr_108_42 {f : Nat → pmR} (h : ly c S) : pm_gR 9 108 42 (c, w, S, I, K) f = f 560 := ly_gR h rfl rfl
theorem lr_108_43 {f : Nat → pmR} (h : ly c S) : pm_gR 9 108 43 (c, w, S, I, K) f = f 561 := ly_gR h rfl rfl
theorem lr_108_44 {f : Nat → pmR} (h : ly c S) : pm_gR 9 108 44 (c, w, S, I, K) f = f 562 := ly_gR h rfl rfl
theorem lr_108_45 {f : Nat → pmR} (h : ly c S) : pm_gR 9 108 45 (c, w, S, I, K) f = f 563 := ly_gR h rfl rfl
theorem lr_108_46 {f : Nat → pmR} (h : ly c S) : pm_gR 9 108 46 (c, w, S, I, K) f = f 564 := ly_gR h rfl rfl
theorem lr_108_47 {f : Nat → pmR} (h : ly c S) : pm_gR 9 108 47 (c, w, S, I, K) f = f 565 := ly_gR h rfl rfl
theorem lr_108_48 {f : Nat → pmR} (h : ly c S) : pm_gR 9 108 48 (c, w, S, I, K) f = f 566 := ly_gR h rfl rfl
theorem lr_108_49 {f : Nat → pmR} (h : ly c S) : pm_gR 9 108 49 (c, w, S, I, K) f = f 580 := ly_gR h rfl rfl
theorem lr_108_50 {f : Nat → pmR} (h : ly c S) : pm_gR 9 108 50 (c, w, S, I, K) f = f 581 := ly_gR h rfl rfl
theorem lr_108_51 {f : Nat → pmR} (h : ly c S) : pm_gR 9 108 51 (c, w, S, I, K) f = f 582 := ly_gR h rfl rfl
theorem lr_108_52 {f : Nat → pmR} (h : ly c S) : pm_gR 9 108 52 (c, w, S, I, K) f = f 592 := ly_gR h rfl rfl
theorem lr_108_53 {f : Nat → pmR} (h : ly c S) : pm_gR 9 108 53 (c, w, S, I, K) f = f 593 := ly_gR h rfl rfl
theorem lr_114 {n : Nat} {f : Nat → pmR} (h : ly c S) (hn : n < 6) : pm_ldR 103 114 (nI n) (c, w, S, I, K) f = f (115 + n) := ly_ldRG 6 h rfl rfl (by decide) hn (by simp [ly_r, hn])
theorem ll_114 {f : Int32 → pmR} (h : ly c S) : pm_len 103 114 (c, w, S, I, K) f = f (nI 6) := ly_lenG h rfl
theorem lr_121 {n : Nat} {f : Nat → pmR} (h : ly c S) (hn : n < 6) : pm_ldR 103 121 (nI n) (c, w, S, I, K) f = f (122 + n) := ly_ldRG 6 h rfl rfl (by decide) hn (by simp [ly_r, hn])
theorem ll_121 {f : Int32 → pmR} (h : ly c S) : pm_len 103 121 (c, w, S, I, K) f = f (nI 6) := ly_lenG h rfl
theorem lr_128 {n : Nat} {f : Nat → pmR} (h : ly c S) (hn : n < 160) : pm_ldR 103 128 (nI n) (c, w, S, I, K) f = f (129 + n) := ly_ldRG 160 h rfl rfl (by decide) hn (by simp [ly_r, hn])
theorem ll_128 {f : Int32 → pmR} (h : ly c S) : pm_len 103 128 (c, w, S, I, K) f = f (nI 160) := ly_lenG h rfl
theorem lr_289 {n : Nat} {f : Nat → pmR} (h : ly c S) (hn : n < 160) : pm_ldR 103 289 (nI n) (c, w, S, I, K) f = f (290 + n) := ly_ldRG 160 h rfl rfl (by decide) hn (by simp [ly_r, hn])
theorem ll_289 {f : Int32 → pmR} (h : ly c S) : pm_len 103 289 (c, w, S, I, K) f = f (nI 160) := ly_lenG h rfl
theorem lr_454 {n : Nat} {f : Nat → pmR} (h : ly c S) (hn : n < 80) : pm_ldR 103 454 (nI n) (c, w, S, I, K) f = f (455 + n) := ly_ldRG 80 h rfl rfl (by decide) hn (by simp [ly_r, hn])
theorem ll_454 {f : Int32 → pmR} (h : ly c S) : pm_len 103 454 (c, w, S, I, K) f = f (nI 80) := ly_lenG h rfl
theorem lr_537 {n : Nat} {f : Nat → pmR} (h : ly c S) (hn : n < 16) : pm_ldR 103 537 (nI n) (c, w, S, I, K) f = f (538 + n) := ly_ldRG 16 h rfl rfl (by decide) hn (by simp [ly_r, hn])
theorem ll_537 {f : Int32 → pmR} (h : ly c S) : pm_len 103 537 (c, w, S, I, K) f = f (nI 16) := ly_lenG h rfl
theorem lr_554 {n : Nat} {f : Nat → pmR} (h : ly c S) (hn : n < 3) : pm_ldR 103 554 (nI n) (c, w, S, I, K) f = f (555 + n) := ly_ldRG 3 h rfl rfl (by decide) hn (by simp [ly_r, hn])
theorem ll_554 {f : Int32 → pmR} (h : ly c S) : pm_len 103 554 (c, w, S, I, K) f = f (nI 3) := ly_lenG h rfl
theorem lr_566 {n : Nat} {f : Nat → pmR} (h : ly c S) (hn : n < 13) : pm_ldR 104 566 (nI n) (c, w, S, I, K) f = f (567 + n) := ly_ldRG 13 h rfl rfl (by decide) hn (by simp [ly_r, hn])
theorem ll_566 {f : Int32 → pmR} (h : ly c S) : pm_len 104 566 (c, w, S, I, K) f = f (nI 13) := ly_lenG h rfl
theorem lr_582 {n : Nat} {f : Nat → pmR} (h : ly c S) (hn : n < 9) : pm_ldR 103 582 (nI n) (c, w, S, I, K) f = f (583 + n) := ly_ldRG 9 h rfl rfl (by decide) hn (by simp [ly_r, hn])
theorem ll_582 {f : Int32 → pmR} (h : ly c S) : pm_len 103 582 (c, w, S, I, K) f = f (nI 9) := ly_lenG h rfl
theorem ld_1 {n : Nat} {f : Int32 → pmR} (h : ly c S) (hn : n < 5) : pm_ld 100 1 (nI n) (c, w, S, I, K) f = f (I 1 n) := ly_ldG 5 h rfl rfl (by decide) hn
theorem ll_1 {f : Int32 → pmR} (h : ly c S) : pm_len 100 1 (c, w, S, I, K) f = f (nI 5) := ly_lenG h rfl
theorem ld_2 {n : Nat} {f : Int32 → pmR} (h : ly c S) (hn : n < 9) : pm_ld 100 2 (nI n) (c, w, S, I, K) f = f (I 2 n) := ly_ldG 9 h rfl rfl (by decide) hn
theorem ll_2 {f : Int32 → pmR} (h : ly c S) : pm_len 100 2 (c, w, S, I, K) f = f (nI 9) := ly_lenG h rfl
theorem ld_33 {n : Nat} {f : Int32 → pmR} (h : ly c S) (hn : n < 4) : pm_ld 105 33 (nI n) (c, w, S, I, K) f = f (I 33 n) := ly_ldG 4 h rfl rfl (by decide) hn
theorem ll_33 {f : Int32 → pmR} (h : ly c S) : pm_len 105 33 (c, w, S, I, K) f = f (nI 4) := ly_lenG h rfl
theorem ld_34 {n : Nat} {f : Int32 → pmR} (h : ly c S) (hn : n < 4) : pm_ld 105 34 (nI n) (c, w, S, I, K) f = f (I 34 n) := ly_ldG 4 h rfl rfl (by decide) hn
theorem ll_34 {f : Int32 → pmR} (h : ly c S) : pm_len 105 34 (c, w, S, I, K) f = f (nI 4) := ly_lenG h rfl
theorem ld_35 {n : Nat} {f : Int32 → pmR} (h : ly c S) (hn : n < 3) : pm_ld 105 35 (nI n) (c, w, S, I, K) f = f (I 35 n) := ly_ldG 3 h rfl rfl (by decide) hn
theorem ll_35 {f : Int32 → pmR} (h : ly c S) : pm_len 105 35 (c, w, S, I, K) f = f (nI 3) := ly_lenG h rfl
theorem ld_36 {n : Nat} {f : Int32 → pmR} (h : ly c S) (hn : n < 5) : pm_ld 105 36 (nI n) (c, w, S, I, K) f = f (I 36 n) := ly_ldG 5 h rfl rfl (by decide) hn
theorem ll_36 {f : Int32 → pmR} (h : ly c S) : pm_len 105 36 (c, w, S, I, K) f = f (nI 5) := ly_lenG h rfl
theorem ld_37 {n : Nat} {f : Int32 → pmR} (h : ly c S) (hn : n < 4) : pm_ld 105 37 (nI n) (c, w, S, I, K) f = f (I 37 n) := ly_ldG 4 h rfl rfl (by decide) hn
theorem ll_37 {f : Int32 → pmR} (h : ly c S) : pm_len 105 37 (c, w, S, I, K) f = f (nI 4) := ly_lenG h rfl
theorem ld_38 {n : Nat} {f : Int32 → pmR} (h : ly c S) (hn : n < 5) : pm_ld 105 38 (nI n) (c, w, S, I, K) f = f (I 38 n) := ly_ldG 5 h rfl rfl (by decide) hn
theorem ll_38 {f : Int32 → pmR} (h : ly c S) : pm_len 105 38 (c, w, S, I, K) f = f (nI 5) := ly_lenG h rfl
theorem ld_39 {n : Nat} {f : Int32 → pmR} (h : ly c S) (hn : n < 6) : pm_ld 105 39 (nI n) (c, w, S, I, K) f = f (I 39 n) := ly_ldG 6 h rfl rfl (by decide) hn
theorem ll_39 {f : Int32 → pmR} (h : ly c S) : pm_len 105 39 (c, w, S, I, K) f = f (nI 6) := ly_lenG h rfl
theorem ld_40 {n : Nat} {f : Int32 → pmR} (h : ly c S) (hn : n < 5) : pm_ld 105 40 (nI n) (c, w, S, I, K) f = f (I 40 n) := ly_ldG 5 h rfl rfl (by decide) hn
theorem ll_40 {f : Int32 → pmR} (h : ly c S) : pm_len 105 40 (c, w, S, I, K) f = f (nI 5) := ly_lenG h rfl
theorem ld_41 {n : Nat} {f : Int32 → pmR} (h : ly c S) (hn : n < 4) : pm_ld 105 41 (nI n) (c, w, S, I, K) f = f (I 41 n) := ly_ldG 4 h rfl rfl (by decide) hn
theorem ll_41 {f : Int32 → pmR} (h : ly c S) : pm_len 105 41 (c, w, S, I, K) f = f (nI 4) := ly_lenG h rfl
theorem ld_42 {n : Nat} {f : Int32 → pmR} (h : ly c S) (hn : n < 4) : pm_ld 105 42 (nI n) (c, w, S, I, K) f = f (I 42 n) := ly_ldG 4 h rfl rfl (by decide) hn
theorem ll_42 {f : Int32 → pmR} (h : ly c S) : pm_len 105 42 (c, w, S, I, K) f = f (nI 4) := ly_lenG h rfl
theorem ld_43 {n : Nat} {f : Int32 → pmR} (h : ly c S) (hn : n < 3) : pm_ld 105 43 (nI n) (c, w, S, I, K) f = f (I 43 n) := ly_ldG 3 h rfl rfl (by decide) hn
theorem ll_43 {f : Int32 → pmR} (h : ly c S) : pm_len 105 43 (c, w, S, I, K) f = f (nI 3) := ly_lenG h rfl
theorem ld_44 {n : Nat} {f : Int32 → pmR} (h : ly c S) (hn : n < 4) : pm_ld 105 44 (nI n) (c, w, S, I, K) f = f (I 44 n) := ly_ldG 4 h rfl rfl (by decide) hn
theorem ll_44 {f : Int32 → pmR} (h : ly c S) : pm_len 105 44 (c, w, S, I, K) f = f (nI 4) := ly_lenG h rfl
theorem ld_45 {n : Nat} {f : Int32 → pmR} (h : ly c S) (hn : n < 6) : pm_ld 105 45 (nI n) (c, w, S, I, K) f = f (I 45 n) := ly_ldG 6 h rfl rfl (by decide) hn
theorem ll_45 {f : Int32 → pmR} (h : ly c S) : pm_len 105 45 (c, w, S, I, K) f = f (nI 6) := ly_lenG h rfl
theorem ld_46 {n : Nat} {f : Int32 → pmR} (h : ly c S) (hn : n < 3) : pm_ld 105 46 (nI n) (c, w, S, I, K) f = f (I 46 n) := ly_ldG 3 h rfl rfl (by decide) hn
theorem ll_46 {f : Int32 → pmR} (h : ly c S) : pm_len 105 46 (c, w, S, I, K) f = f (nI 3) := ly_lenG h rfl
theorem ld_47 {n : Nat} {f : Int32 → pmR} (h : ly c S) (hn : n < 5) : pm_ld 105 47 (nI n) (c, w, S, I, K) f = f (I 47 n) := ly_ldG 5 h rfl rfl (by decide) hn
theorem ll_47 {f : Int32 → pmR} (h : ly c S) : pm_len 105 47 (c, w, S, I, K) f = f (nI 5) := ly_lenG h rfl
theorem ld_48 {n : Nat} {f : Int32 → pmR} (h : ly c S) (hn : n < 4) : pm_ld 105 48 (nI n) (c, w, S, I, K) f = f (I 48 n) := ly_ldG 4 h rfl rfl (by decide) hn
theorem ll_48 {f : Int32 → pmR} (h : ly c S) : pm_len 105 48 (c, w, S, I, K) f = f (nI 4) := ly_lenG h rfl
theorem ld_49 {n : Nat} {f : Int32 → pmR} (h : ly c S) (hn : n < 4) : pm_ld 105 49 (nI n) (c, w, S, I, K) f = f (I 49 n) := ly_ldG 4 h rfl rfl (by decide) hn
theorem ll_49 {f : Int32 → pmR} (h : ly c S) : pm_len 105 49 (c, w, S, I, K) f = f (nI 4) := ly_lenG h rfl
theorem ld_50 {n : Nat} {f : Int32 → pmR} (h : ly c S) (hn : n < 3) : pm_ld 105 50 (nI n) (c, w, S, I, K) f = f (I 50 n) := ly_ldG 3 h rfl rfl (by decide) hn
theorem ll_50 {f : Int32 → pmR} (h : ly c S) : pm_len 105 50 (c, w, S, I, K) f = f (nI 3) := ly_lenG h rfl
theorem ld_51 {n : Nat} {f : Int32 → pmR} (h : ly c S) (hn : n < 5) : pm_ld 105 51 (nI n) (c, w, S, I, K) f = f (I 51 n) := ly_ldG 5 h rfl rfl (by decide) hn
theorem ll_51 {f : Int32 → pmR} (h : ly c S) : pm_len 105 51 (c, w, S, I, K) f = f (nI 5) := ly_lenG h rfl
theorem ld_66 {n : Nat} {f : Int32 → pmR} (h : ly c S) (hn : n < 600) : pm_ld 100 66 (nI n) (c, w, S, I, K) f = f (I 66 n) := ly_ldG 600 h rfl rfl (by decide) hn
theorem ls_66 {n : Nat} {v : Int32} {f : pmM → pmR} (h : ly c S) (hn : n < 600) : pm_st 100 66 (nI n) v (c, w, S, I, K) f = f (c, w, S, ly_u I 66 n v, K) := ly_stG 600 h rfl rfl (by decide) hn
theorem ll_66 {f : Int32 → pmR} (h : ly c S) : pm_len 100 66 (c, w, S, I, K) f = f (nI 600) := ly_lenG h rfl
theorem ld_68 {n : Nat} {f : Int32 → pmR} (h : ly c S) (hn : n < 6) : pm_ld 100 68 (nI n) (c, w, S, I, K) f = f (I 68 n) := ly_ldG 6 h rfl rfl (by decide) hn
theorem ls_68 {n : Nat} {v : Int32} {f : pmM → pmR} (h : ly c S) (hn : n < 6) : pm_st 100 68 (nI n) v (c, w, S, I, K) f = f (c, w, S, ly_u I 68 n v, K) := ly_stG 6 h rfl rfl (by decide) hn
theorem ll_68 {f : Int32 → pmR} (h : ly c S) : pm_len 100 68 (c, w, S, I, K) f = f (nI 6) := ly_lenG h rfl
theorem ld_69 {n : Nat} {f : Int32 → pmR} (h : ly c S) (hn : n < 48) : pm_ld 100 69 (nI n) (c, w, S, I, K) f = f (I 69 n) := ly_ldG 48 h rfl rfl (by decide) hn
theorem ls_69 {n : Nat} {v : Int32} {f : pmM → pmR} (h : ly c S) (hn : n < 48) : pm_st 100 69 (nI n) v (c, w, S, I, K) f = f (c, w, S, ly_u I 69 n v, K) := ly_stG 48 h rfl rfl (by decide) hn
theorem ll_69 {f : Int32 → pmR} (h : ly c S) : pm_len 100 69 (c, w, S, I, K) f = f (nI 48) := ly_lenG h rfl
theorem ld_70 {n : Nat} {f : Int32 → pmR} (h : ly c S) (hn : n < 4) : pm_ld 100 70 (nI n) (c, w, S, I, K) f = f (I 70 n) := ly_ldG 4 h rfl rfl (by decide) hn
theorem ls_70 {n : Nat} {v : Int32} {f : pmM → pmR} (h : ly c S) (hn : n < 4) : pm_st 100 70 (nI n) v (c, w, S, I, K) f = f (c, w, S, ly_u I 70 n v, K) := ly_stG 4 h rfl rfl (by decide) hn
theorem ll_70 {f : Int32 → pmR} (h : ly c S) : pm_len 100 70 (c, w, S, I, K) f = f (nI 4) := ly_lenG h rfl
theorem ld_72 {n : Nat} {f : Int32 → pmR} (h : ly c S) (hn : n < 6) : pm_ld 100 72 (nI n) (c, w, S, I, K) f = f (I 72 n) := ly_ldG 6 h rfl rfl (by decide) hn
theorem ls_72 {n : Nat} {v : Int32} {f : pmM → pmR} (h : ly c S) (hn : n < 6) : pm_st 100 72 (nI n) v (c, w, S, I, K) f = f (c, w, S, ly_u I 72 n v, K) := ly_stG 6 h rfl rfl (by decide) hn
theorem ll_72 {f : Int32 → pmR} (h : ly c S) : pm_len 100 72 (c, w, S, I, K) f = f (nI 6) := ly_lenG h rfl
theorem ld_73 {n : Nat} {f : Int32 → pmR} (h : ly c S) (hn : n < 48) : pm_ld 100 73 (nI n) (c, w, S, I, K) f = f (I 73 n) := ly_ldG 48 h rfl rfl (by decide) hn
theorem ls_73 {n : Nat} {v : Int32} {f : pmM → pmR} (h : ly c S) (hn : n < 48) : pm_st 100 73 (nI n) v (c, w, S, I, K) f = f (c, w, S, ly_u I 73 n v, K) := ly_stG 48 h rfl rfl (by decide) hn
theorem ll_73 {f : Int32 → pmR} (h : ly c S) : pm_len 100 73 (c, w, S, I, K) f = f (nI 48) := ly_lenG h rfl
theorem ld_74 {n : Nat} {f : Int32 → pmR} (h : ly c S) (hn : n < 4) : pm_ld 100 74 (nI n) (c, w, S, I, K) f = f (I 74 n) := ly_ldG 4 h rfl rfl (by decide) hn
theorem ls_74 {n : Nat} {v : Int32} {f : pmM → pmR} (h : ly c S) (hn : n < 4) : pm_st 100 74 (nI n) v (c, w, S, I, K) f = f (c, w, S, ly_u I 74 n v, K) := ly_stG 4 h rfl rfl (by decide) hn
theorem ll_74 {f : Int32 → pmR} (h : ly c S) : pm_len 100 74 (c, w, S, I, K) f = f (nI 4) := ly_lenG h rfl
theorem ld_76 {n : Nat} {f : Int32 → pmR} (h : ly c S) (hn : n < 150) : pm_ld 100 76 (nI n) (c, w, S, I, K) f = f (I 76 n) := ly_ldG 150 h rfl rfl (by decide) hn
theorem ls_76 {n : Nat} {v : Int32} {f : pmM → pmR} (h : ly c S) (hn : n < 150) : pm_st 100 76 (nI n) v (c, w, S, I, K) f = f (c, w, S, ly_u I 76 n v, K) := ly_stG 150 h rfl rfl (by decide) hn
theorem ll_76 {f : Int32 → pmR} (h : ly c S) : pm_len 100 76 (c, w, S, I, K) f = f (nI 150) := ly_lenG h rfl
theorem ld_77 {n : Nat} {f : Int32 → pmR} (h : ly c S) (hn : n < 22) : pm_ld 100 77 (nI n) (c, w, S, I, K) f = f (I 77 n) := ly_ldG 22 h rfl rfl (by decide) hn
theorem ls_77 {n : Nat} {v : Int32} {f : pmM → pmR} (h : ly c S) (hn : n < 22) : pm_st 100 77 (nI n) v (c, w, S, I, K) f = f (c, w, S, ly_u I 77 n v, K) := ly_stG 22 h rfl rfl (by decide) hn
theorem ll_77 {f : Int32 → pmR} (h : ly c S) : pm_len 100 77 (c, w, S, I, K) f = f (nI 22) := ly_lenG h rfl
theorem ld_78 {n : Nat} {f : Int32 → pmR} (h : ly c S) (hn : n < 7) : pm_ld 100 78 (nI n) (c, w, S, I, K) f = f (I 78 n) := ly_ldG 7 h rfl rfl (by decide) hn
theorem ls_78 {n : Nat} {v : Int32} {f : pmM → pmR} (h : ly c S) (hn : n < 7) : pm_st 100 78 (nI n) v (c, w, S, I, K) f = f (c, w, S, ly_u I 78 n v, K) := ly_stG 7 h rfl rfl (by decide) hn
theorem ll_78 {f : Int32 → pmR} (h : ly c S) : pm_len 100 78 (c, w, S, I, K) f = f (nI 7) := ly_lenG h rfl
theorem ld_80 {n : Nat} {f : Int32 → pmR} (h : ly c S) (hn : n < 150) : pm_ld 100 80 (nI n) (c, w, S, I, K) f = f (I 80 n) := ly_ldG 150 h rfl rfl (by decide) hn
theorem ls_80 {n : Nat} {v : Int32} {f : pmM → pmR} (h : ly c S) (hn : n < 150) : pm_st 100 80 (nI n) v (c, w, S, I, K) f = f (c, w, S, ly_u I 80 n v, K) := ly_stG 150 h rfl rfl (by decide) hn
theorem ll_80 {f : Int32 → pmR} (h : ly c S) : pm_len 100 80 (c, w, S, I, K) f = f (nI 150) := ly_lenG h rfl
theorem ld_81 {n : Nat} {f : Int32 → pmR} (h : ly c S) (hn : n < 22) : pm_ld 100 81 (nI n) (c, w, S, I, K) f = f (I 81 n) := ly_ldG 22 h rfl rfl (by decide) hn
theorem ls_81 {n : Nat} {v : Int32} {f : pmM → pmR} (h : ly c S) (hn : n < 22) : pm_st 100 81 (nI n) v (c, w, S, I, K) f = f (c, w, S, ly_u I 81 n v, K) := ly_stG 22 h rfl rfl (by decide) hn
theorem ll_81 {f : Int32 → pmR} (h : ly c S) : pm_len 100 81 (c, w, S, I, K) f = f (nI 22) := ly_lenG h rfl
theorem ld_82 {n : Nat} {f : Int32 → pmR} (h : ly c S) (hn : n < 7) : pm_ld 100 82 (nI n) (c, w, S, I, K) f = f (I 82 n) := ly_ldG 7 h rfl rfl (by decide) hn
theorem ls_82 {n : Nat} {v : Int32} {f : pmM → pmR} (h : ly c S) (hn : n < 7) : pm_st 100 82 (nI n) v (c, w, S, I, K) f = f (c, w, S, ly_u I 82 n v, K) := ly_stG 7 h rfl rfl (by decide) hn
theorem ll_82 {f : Int32 → pmR} (h : ly c S) : pm_len 100 82 (c, w, S, I, K) f = f (nI 7) := ly_lenG h rfl
theorem ld_84 {n : Nat} {f : Int32 → pmR} (h : ly c S) (hn : n < 12) : pm_ld 100 84 (nI n) (c, w, S, I, K) f = f (I 84 n) := ly_ldG 12 h rfl rfl (by decide) hn
theorem ls_84 {n : Nat} {v : Int32} {f : pmM → pmR} (h : ly c S) (hn : n < 12) : pm_st 100 84 (nI n) v (c, w, S, I, K) f = f (c, w, S, ly_u I 84 n v, K) := ly_stG 12 h rfl rfl (by decide) hn
theorem ll_84 {f : Int32 → pmR} (h : ly c S) : pm_len 100 84 (c, w, S, I, K) f = f (nI 12) := ly_lenG h rfl
theorem ld_86 {n : Nat} {f : Int32 → pmR} (h : ly c S) (hn : n < 12) : pm_ld 100 86 (nI n) (c, w, S, I, K) f = f (I 86 n) := ly_ldG 12 h rfl rfl (by decide) hn
theorem ls_86 {n : Nat} {v : Int32} {f : pmM → pmR} (h : ly c S) (hn : n < 12) : pm_st 100 86 (nI n) v (c, w, S, I, K) f = f (c, w, S, ly_u I 86 n v, K) := ly_stG 12 h rfl rfl (by decide) hn
theorem ll_86 {f : Int32 → pmR} (h : ly c S) : pm_len 100 86 (c, w, S, I, K) f = f (nI 12) := ly_lenG h rfl
theorem ld_88 {n : Nat} {f : Int32 → pmR} (h : ly c S) (hn : n < 30) : pm_ld 100 88 (nI n) (c, w, S, I, K) f = f (I 88 n) := ly_ldG 30 h rfl rfl (by decide) hn
theorem ls_88 {n : Nat} {v : Int32} {f : pmM → pmR} (h : ly c S) (hn : n < 30) : pm_st 100 88 (nI n) v (c, w, S, I, K) f = f (c, w, S, ly_u I 88 n v, K) := ly_stG 30 h rfl rfl (by decide) hn
theorem ll_88 {f : Int32 → pmR} (h : ly c S) : pm_len 100 88 (c, w, S, I, K) f = f (nI 30) := ly_lenG h rfl
theorem ld_89 {n : Nat} {f : Int32 → pmR} (h : ly c S) (hn : n < 30) : pm_ld 100 89 (nI n) (c, w, S, I, K) f = f (I 89 n) := ly_ldG 30 h rfl rfl (by decide) hn
theorem ls_89 {n : Nat} {v : Int32} {f : pmM → pmR} (h : ly c S) (hn : n < 30) : pm_st 100 89 (nI n) v (c, w, S, I, K) f = f (c, w, S, ly_u I 89 n v, K) := ly_stG 30 h rfl rfl (by decide) hn
theorem ll_89 {f : Int32 → pmR} (h : ly c S) : pm_len 100 89 (c, w, S, I, K) f = f (nI 30) := ly_lenG h rfl
theorem ld_90 {n : Nat} {f : Int32 → pmR} (h : ly c S) (hn : n < 30) : pm_ld 100 90 (nI n) (c, w, S, I, K) f = f (I 90 n) := ly_ldG 30 h rfl rfl (by decide) hn
theorem ls_90 {n : Nat} {v : Int32} {f : pmM → pmR} (h : ly c S) (hn : n < 30) : pm_st 100 90 (nI n) v (c, w, S, I, K) f = f (c, w, S, ly_u I 90 n v, K) := ly_stG 30 h rfl rfl (by decide) hn
theorem ll_90 {f : Int32 → pmR} (h : ly c S) : pm_len 100 90 (c, w, S, I, K) f = f (nI 30) := ly_lenG h rfl
theorem ld_91 {n : Nat} {f : Int32 → pmR} (h : ly c S) (hn : n < 30) : pm_ld 100 91 (nI n) (c, w, S, I, K) f = f (I 91 n) := ly_ldG 30 h rfl rfl (by decide) hn
theorem ls_91 {n : Nat} {v : Int32} {f : pmM → pmR} (h : ly c S) (hn : n < 30) : pm_st 100 91 (nI n) v (c, w, S, I, K) f = f (c, w, S, ly_u I 91 n v, K) := ly_stG 30 h rfl rfl (by decide) hn
theorem ll_91 {f : Int32 → pmR} (h : ly c S) : pm_len 100 91 (c, w, S, I, K) f = f (nI 30) := ly_lenG h rfl
theorem ld_92 {n : Nat} {f : Int32 → pmR} (h : ly c S) (hn : n < 30) : pm_ld 100 92 (nI n) (c, w, S, I, K) f = f (I 92 n) := ly_ldG 30 h rfl rfl (by decide) hn
theorem ls_92 {n : Nat} {v : Int32} {f : pmM → pmR} (h : ly c S) (hn : n < 30) : pm_st 100 92 (nI n) v (c, w, S, I, K) f = f (c, w, S, ly_u I 92 n v, K) := ly_stG 30 h rfl rfl (by decide) hn
theorem ll_92 {f : Int32 → pmR} (h : ly c S) : pm_len 100 92 (c, w, S, I, K) f = f (nI 30) := ly_lenG h rfl
theorem ld_94 {n : Nat} {f : Int32 → pmR} (h : ly c S) (hn : n < 6) : pm_ld 100 94 (nI n) (c, w, S, I, K) f = f (I 94 n) := ly_ldG 6 h rfl rfl (by decide) hn
theorem ls_94 {n : Nat} {v : Int32} {f : pmM → pmR} (h : ly c S) (hn : n < 6) : pm_st 100 94 (nI n) v (c, w, S, I, K) f = f (c, w, S, ly_u I 94 n v, K) := ly_stG 6 h rfl rfl (by decide) hn
theorem ll_94 {f : Int32 → pmR} (h : ly c S) : pm_len 100 94 (c, w, S, I, K) f = f (nI 6) := ly_lenG h rfl
theorem ld_95 {n : Nat} {f : Int32 → pmR} (h : ly c S) (hn : n < 4) : pm_ld 100 95 (nI n) (c, w, S, I, K) f = f (I 95 n) := ly_ldG 4 h rfl rfl (by decide) hn
theorem ls_95 {n : Nat} {v : Int32} {f : pmM → pmR} (h : ly c S) (hn : n < 4) : pm_st 100 95 (nI n) v (c, w, S, I, K) f = f (c, w, S, ly_u I 95 n v, K) := ly_stG 4 h rfl rfl (by decide) hn
theorem ll_95 {f : Int32 → pmR} (h : ly c S) : pm_len 100 95 (c, w, S, I, K) f = f (nI 4) := ly_lenG h rfl
theorem ld_97 {n : Nat} {f : Int32 → pmR} (h : ly c S) (hn : n < 6) : pm_ld 100 97 (nI n) (c, w, S, I, K) f = f (I 97 n) := ly_ldG 6 h rfl rfl (by decide) hn
theorem ls_97 {n : Nat} {v : Int32} {f : pmM → pmR} (h : ly c S) (hn : n < 6) : pm_st 100 97 (nI n) v (c, w, S, I, K) f = f (c, w, S, ly_u I 97 n v, K) := ly_stG 6 h rfl rfl (by decide) hn
theorem ll_97 {f : Int32 → pmR} (h : ly c S) : pm_len 100 97 (c, w, S, I, K) f = f (nI 6) := ly_lenG h rfl
theorem ld_98 {n : Nat} {f : Int32 → pmR} (h : ly c S) (hn : n < 4) : pm_ld 100 98 (nI n) (c, w, S, I, K) f = f (I 98 n) := ly_ldG 4 h rfl rfl (by decide) hn
theorem ls_98 {n : Nat} {v : Int32} {f : pmM → pmR} (h : ly c S) (hn : n < 4) : pm_st 100 98 (nI n) v (c, w, S, I, K) f = f (c, w, S, ly_u I 98 n v, K) := ly_stG 4 h rfl rfl (by decide) hn
theorem ll_98 {f : Int32 → pmR} (h : ly c S) : pm_len 100 98 (c, w, S, I, K) f = f (nI 4) := ly_lenG h rfl
theorem ld_100 {n : Nat} {f : Int32 → pmR} (h : ly c S) (hn : n < 938) : pm_ld 100 100 (nI n) (c, w, S, I, K) f = f (I 100 n) := ly_ldG 938 h rfl rfl (by decide) hn
theorem ls_100 {n : Nat} {v : Int32} {f : pmM → pmR} (h : ly c S) (hn : n < 938) : pm_st 100 100 (nI n) v (c, w, S, I, K) f = f (c, w, S, ly_u I 100 n v, K) := ly_stG 938 h rfl rfl (by decide) hn
theorem ll_100 {f : Int32 → pmR} (h : ly c S) : pm_len 100 100 (c, w, S, I, K) f = f (nI 938) := ly_lenG h rfl
theorem ld_101 {n : Nat} {f : Int32 → pmR} (h : ly c S) (hn : n < 3) : pm_ld 100 101 (nI n) (c, w, S, I, K) f = f (I 101 n) := ly_ldG 3 h rfl rfl (by decide) hn
theorem ls_101 {n : Nat} {v : Int32} {f : pmM → pmR} (h : ly c S) (hn : n < 3) : pm_st 100 101 (nI n) v (c, w, S, I, K) f = f (c, w, S, ly_u I 101 n v, K) := ly_stG 3 h rfl rfl (by decide) hn
theorem ll_101 {f : Int32 → pmR} (h : ly c S) : pm_len 100 101 (c, w, S, I, K) f = f (nI 3) := ly_lenG h rfl
theorem ld_103 {n : Nat} {f : Int64 → pmR} (h : ly c S) (hn : n < 13) : pm_ldL 103 (nI n) (c, w, S, I, K) f = f (K 103 n) := ly_ldLG 13 h rfl rfl (by decide) hn
theorem ls_103 {n : Nat} {v : Int64} {f : pmM → pmR} (h : ly c S) (hn : n < 13) : pm_stL 103 (nI n) v (c, w, S, I, K) f = f (c, w, S, I, ly_v K 103 n v) := ly_stLG 13 h rfl rfl (by decide) hn
theorem ld_104 {n : Nat} {f : Int64 → pmR} (h : ly c S) (hn : n < 208) : pm_ldL 104 (nI n) (c, w, S, I, K) f = f (K 104 n) := ly_ldLG 208 h rfl rfl (by decide) hn
theorem ls_104 {n : Nat} {v : Int64} {f : pmM → pmR} (h : ly c S) (hn : n < 208) : pm_stL 104 (nI n) v (c, w, S, I, K) f = f (c, w, S, I, ly_v K 104 n v) := ly_stLG 208 h rfl rfl (by decide) hn
theorem ld_105 {n : Nat} {f : Int32 → pmR} (h : ly c S) (hn : n < 26) : pm_ld 100 105 (nI n) (c, w, S, I, K) f = f (I 105 n) := ly_ldG 26 h rfl rfl (by decide) hn
theorem ls_105 {n : Nat} {v : Int32} {f : pmM → pmR} (h : ly c S) (hn : n < 26) : pm_st 100 105 (nI n) v (c, w, S, I, K) f = f (c, w, S, ly_u I 105 n v, K) := ly_stG 26 h rfl rfl (by decide) hn
theorem ll_105 {f : Int32 → pmR} (h : ly c S) : pm_len 100 105 (c, w, S, I, K) f = f (nI 26) := ly_lenG h rfl
theorem ld_106 {n : Nat} {f : Int64 → pmR} (h : ly c S) (hn : n < 26) : pm_ldL 106 (nI n) (c, w, S, I, K) f = f (K 106 n) := ly_ldLG 26 h rfl rfl (by decide) hn
theorem ls_106 {n : Nat} {v : Int64} {f : pmM → pmR} (h : ly c S) (hn : n < 26) : pm_stL 106 (nI n) v (c, w, S, I, K) f = f (c, w, S, I, ly_v K 106 n v) := ly_stLG 26 h rfl rfl (by decide) hn
theorem ld_107 {n : Nat} {f : Int32 → pmR} (h : ly c S) (hn : n < 9) : pm_ld 100 107 (nI n) (c, w, S, I, K) f = f (I 107 n) := ly_ldG 9 h rfl rfl (by decide) hn
theorem ls_107 {n : Nat} {v : Int32} {f : pmM → pmR} (h : ly c S) (hn : n < 9) : pm_st 100 107 (nI n) v (c, w, S, I, K) f = f (c, w, S, ly_u I 107 n v, K) := ly_stG 9 h rfl rfl (by decide) hn
theorem ll_107 {f : Int32 → pmR} (h : ly c S) : pm_len 100 107 (c, w, S, I, K) f = f (nI 9) := ly_lenG h rfl
theorem ld_109 {n : Nat} {f : Int32 → pmR} (h : ly c S) (hn : n < 600) : pm_ld 100 109 (nI n) (c, w, S, I, K) f = f (I 109 n) := ly_ldG 600 h rfl rfl (by decide) hn
theorem ls_109 {n : Nat} {v : Int32} {f : pmM → pmR} (h : ly c S) (hn : n < 600) : pm_st 100 109 (nI n) v (c, w, S, I, K) f = f (c, w, S, ly_u I 109 n v, K) := ly_stG 600 h rfl rfl (by decide) hn
theorem ll_109 {f : Int32 → pmR} (h : ly c S) : pm_len 100 109 (c, w, S, I, K) f = f (nI 600) := ly_lenG h rfl
theorem ld_110 {n : Nat} {f : Int32 → pmR} (h : ly c S) (hn : n < 2) : pm_ld 100 110 (nI n) (c, w, S, I, K) f = f (I 110 n) := ly_ldG 2 h rfl rfl (by decide) hn
theorem ls_110 {n : Nat} {v : Int32} {f : pmM → pmR} (h : ly c S) (hn : n < 2) : pm_st 100 110 (nI n) v (c, w, S, I, K) f = f (c, w, S, ly_u I 110 n v, K) := ly_stG 2 h rfl rfl (by decide) hn
theorem ll_110 {f : Int32 → pmR} (h : ly c S) : pm_len 100 110 (c, w, S, I, K) f = f (nI 2) := ly_lenG h rfl
theorem ld_111 {n : Nat} {f : Int32 → pmR} (h : ly c S) (hn : n < 4) : pm_ld 100 111 (nI n) (c, w, S, I, K) f = f (I 111 n) := ly_ldG 4 h rfl rfl (by decide) hn
theorem ls_111 {n : Nat} {v : Int32} {f : pmM → pmR} (h : ly c S) (hn : n < 4) : pm_st 100 111 (nI n) v (c, w, S, I, K) f = f (c, w, S, ly_u I 111 n v, K) := ly_stG 4 h rfl rfl (by decide) hn
theorem ll_111 {f : Int32 → pmR} (h : ly c S) : pm_len 100 111 (c, w, S, I, K) f = f (nI 4) := ly_lenG h rfl
theorem ld_112 {n : Nat} {f : Int32 → pmR} (h : ly c S) (hn : n < 6) : pm_ld 100 112 (nI n) (c, w, S, I, K) f = f (I 112 n) := ly_ldG 6 h rfl rfl (by decide) hn
theorem ls_112 {n : Nat} {v : Int32} {f : pmM → pmR} (h : ly c S) (hn : n < 6) : pm_st 100 112 (nI n) v (c, w, S, I, K) f = f (c, w, S, ly_u I 112 n v, K) := ly_stG 6 h rfl rfl (by decide) hn
theorem ll_112 {f : Int32 → pmR} (h : ly c S) : pm_len 100 112 (c, w, S, I, K) f = f (nI 6) := ly_lenG h rfl
theorem ld_113 {n : Nat} {f : Int32 → pmR} (h : ly c S) (hn : n < 6) : pm_ld 100 113 (nI n) (c, w, S, I, K) f = f (I 113 n) := ly_ldG 6 h rfl rfl (by decide) hn
theorem ls_113 {n : Nat} {v : Int32} {f : pmM → pmR} (h : ly c S) (hn : n < 6) : pm_st 100 113 (nI n) v (c, w, S, I, K) f = f (c, w, S, ly_u I 113 n v, K) := ly_stG 6 h rfl rfl (by decide) hn
theorem ll_113 {f : Int32 → pmR} (h : ly c S) : pm_len 100 113 (c, w, S, I, K) f = f (nI 6) := ly_lenG h rfl
theorem lq_115 : ∀ l, l < 6 → ly_ok (115 + l) 100 = true ∧ ly_w (115 + l) 100 = true ∧ (ly_f (115 + l)).2 = 8 := by decide +kernel
theorem ld_115 {l n : Nat} {f : Int32 → pmR} (h : ly c S) (hl : l < 6) (hn : n < 8) : pm_ld 100 (115 + l) (nI n) (c, w, S, I, K) f = f (I (115 + l) n) := ly_ldG 8 h (lq_115 l hl).1 (lq_115 l hl).2.2 (by decide) hn
theorem ls_115 {l n : Nat} {v : Int32} {f : pmM → pmR} (h : ly c S) (hl : l < 6) (hn : n < 8) : pm_st 100 (115 + l) (nI n) v (c, w, S, I, K) f = f (c, w, S, ly_u I (115 + l) n v, K) := ly_stG 8 h (lq_115 l hl).2.1 (lq_115 l hl).2.2 (by decide) hn
theorem ll_115 {l : Nat} {f : Int32 → pmR} (h : ly c S) (hl : l < 6) : pm_len 100 (115 + l) (c, w, S, I, K) f = f (nI 8) := by rw [ly_lenG h (lq_115 l hl).1, (lq_115 l hl).2.2]
theorem lq_122 : ∀ l, l < 6 → ly_ok (122 + l) 100 = true ∧ ly_w (122 + l) 100 = true ∧ (ly_f (122 + l)).2 = 8 := by decide +kernel
theorem ld_122 {l n : Nat} {f : Int32 → pmR} (h : ly c S) (hl : l < 6) (hn : n < 8) : pm_ld 100 (122 + l) (nI n) (c, w, S, I, K) f = f (I (122 + l) n) := ly_ldG 8 h (lq_122 l hl).1 (lq_122 l hl).2.2 (by decide) hn
theorem ls_122 {l n : Nat} {v : Int32} {f : pmM → pmR} (h : ly c S) (hl : l < 6) (hn : n < 8) : pm_st 100 (122 + l) (nI n) v (c, w, S, I, K) f = f (c, w, S, ly_u I (122 + l) n v, K) := ly_stG 8 h (lq_122 l hl).2.1 (lq_122 l hl).2.2 (by decide) hn
theorem ll_122 {l : Nat} {f : Int32 → pmR} (h : ly c S) (hl : l < 6) : pm_len 100 (122 + l) (c, w, S, I, K) f = f (nI 8) := by rw [ly_lenG h (lq_122 l hl).1, (lq_122 l hl).2.2]
theorem lq_129 : ∀ l, l < 160 → ly_ok (129 + l) 100 = true ∧ ly_w (129 + l) 100 = true ∧ (ly_f (129 + l)).2 = 2 := by decide +kernel
theorem ld_129 {l n : Nat} {f : Int32 → pmR} (h : ly c S) (hl : l < 160) (hn : n < 2) : pm_ld 100 (129 + l) (nI n) (c, w, S, I, K) f = f (I (129 + l) n) := ly_ldG 2 h (lq_129 l hl).1 (lq_129 l hl).2.2 (by decide) hn
theorem ls_129 {l n : Nat} {v : Int32} {f : pmM → pmR} (h : ly c S) (hl : l < 160) (hn : n < 2) : pm_st 100 (129 + l) (nI n) v (c, w, S, I, K) f = f (c, w, S, ly_u I (129 + l) n v, K) := ly_stG 2 h (lq_129 l hl).2.1 (lq_129 l hl).2.2 (by decide) hn
theorem ll_129 {l : Nat} {f : Int32 → pmR} (h : ly c S) (hl : l < 160) : pm_len 100 (129 + l) (c, w, S, I, K) f = f (nI 2) := by rw [ly_lenG h (lq_129 l hl).1, (lq_129 l hl).2.2]
theorem lq_290 : ∀ l, l < 160 → ly_ok (290 + l) 100 = true ∧ ly_w (290 + l) 100 = true ∧ (ly_f (290 + l)).2 = 2 := by decide +kernel
theorem ld_290 {l n : Nat} {f : Int32 → pmR} (h : ly c S) (hl : l < 160) (hn : n < 2) : pm_ld 100 (290 + l) (nI n) (c, w, S, I, K) f = f (I (290 + l) n) := ly_ldG 2 h (lq_290 l hl).1 (lq_290 l hl).2.2 (by decide) hn
theorem ls_290 {l n : Nat} {v : Int32} {f : pmM → pmR} (h : ly c S) (hl : l < 160) (hn : n < 2) : pm_st 100 (290 + l) (nI n) v (c, w, S, I, K) f = f (c, w, S, ly_u I (290 + l) n v, K) := ly_stG 2 h (lq_290 l hl).2.1 (lq_290 l hl).2.2 (by decide) hn
theorem ll_290 {l : Nat} {f : Int32 → pmR} (h : ly c S) (hl : l < 160) : pm_len 100 (290 + l) (c, w, S, I, K) f = f (nI 2) := by rw [ly_lenG h (lq_290 l hl).1, (lq_290 l hl).2.2]
theorem ld_450 {n : Nat} {f : Int32 → pmR} (h : ly c S) (hn : n < 160) : pm_ld 100 450 (nI n) (c, w, S, I, K) f = f (I 450 n) := ly_ldG 160 h rfl rfl (by decide) hn
theorem ls_450 {n : Nat} {v : Int32} {f : pmM → pmR} (h : ly c S) (hn : n < 160) : pm_st 100 450 (nI n) v (c, w, S, I, K) f = f (c, w, S, ly_u I 450 n v, K) := ly_stG 160 h rfl rfl (by decide) hn
theorem ll_450 {f : Int32 → pmR} (h : ly c S) : pm_len 100 450 (c, w, S, I, K) f = f (nI 160) := ly_lenG h rfl
theorem ld_451 {n : Nat} {f : Int32 → pmR} (h : ly c S) (hn : n < 7) : pm_ld 100 451 (nI n) (c, w, S, I, K) f = f (I 451 n) := ly_ldG 7 h rfl rfl (by decide) hn
theorem ls_451 {n : Nat} {v : Int32} {f : pmM → pmR} (h : ly c S) (hn : n < 7) : pm_st 100 451 (nI n) v (c, w, S, I, K) f = f (c, w, S, ly_u I 451 n v, K) := ly_stG 7 h rfl rfl (by decide) hn
theorem ll_451 {f : Int32 → pmR} (h : ly c S) : pm_len 100 451 (c, w, S, I, K) f = f (nI 7) := ly_lenG h rfl
theorem ld_452 {n : Nat} {f : Int32 → pmR} (h : ly c S) (hn : n < 12) : pm_ld 100 452 (nI n) (c, w, S, I, K) f = f (I 452 n) := ly_ldG 12 h rfl rfl (by decide) hn
theorem ls_452 {n : Nat} {v : Int32} {f : pmM → pmR} (h : ly c S) (hn : n < 12) : pm_st 100 452 (nI n) v (c, w, S, I, K) f = f (c, w, S, ly_u I 452 n v, K) := ly_stG 12 h rfl rfl (by decide) hn
theorem ll_452 {f : Int32 → pmR} (h : ly c S) : pm_len 100 452 (c, w, S, I, K) f = f (nI 12) := ly_lenG h rfl
theorem ld_453 {n : Nat} {f : Int32 → pmR} (h : ly c S) (hn : n < 12) : pm_ld 100 453 (nI n) (c, w, S, I, K) f = f (I 453 n) := ly_ldG 12 h rfl rfl (by decide) hn
theorem ls_453 {n : Nat} {v : Int32} {f : pmM → pmR} (h : ly c S) (hn : n < 12) : pm_st 100 453 (nI n) v (c, w, S, I, K) f = f (c, w, S, ly_u I 453 n v, K) := ly_stG 12 h rfl rfl (by decide) hn
theorem ll_453 {f : Int32 → pmR} (h : ly c S) : pm_len 100 453 (c, w, S, I, K) f = f (nI 12) := ly_lenG h rfl
theorem lq_455 : ∀ l, l < 80 → ly_ok (455 + l) 100 = true ∧ ly_w (455 + l) 100 = true ∧ (ly_f (455 + l)).2 = 5 := by decide +kernel
theorem ld_455 {l n : Nat} {f : Int32 → pmR} (h : ly c S) (hl : l < 80) (hn : n < 5) : pm_ld 100 (455 + l) (nI n) (c, w, S, I, K) f = f (I (455 + l) n) := ly_ldG 5 h (lq_455 l hl).1 (lq_455 l hl).2.2 (by decide) hn
theorem ls_455 {l n : Nat} {v : Int32} {f : pmM → pmR} (h : ly c S) (hl : l < 80) (hn : n < 5) : pm_st 100 (455 + l) (nI n) v (c, w, S, I, K) f = f (c, w, S, ly_u I (455 + l) n v, K) := ly_stG 5 h (lq_455 l hl).2.1 (lq_455 l hl).2.2 (by decide) hn
theorem ll_455 {l : Nat} {f : Int32 → pmR} (h : ly c S) (hl : l < 80) : pm_len 100 (455 + l) (c, w, S, I, K) f = f (nI 5) := by rw [ly_lenG h (lq_455 l hl).1, (lq_455 l hl).2.2]
theorem ld_535 {n : Nat} {f : Int32 → pmR} (h : ly c S) (hn : n < 14) : pm_ld 100 535 (nI n) (c, w, S, I, K) f = f (I 535 n) := ly_ldG 14 h rfl rfl (by decide) hn
theorem ls_535 {n : Nat} {v : Int32} {f : pmM → pmR} (h : ly c S) (hn : n < 14) : pm_st 100 535 (nI n) v (c, w, S, I, K) f = f (c, w, S, ly_u I 535 n v, K) := ly_stG 14 h rfl rfl (by decide) hn
theorem ll_535 {f : Int32 → pmR} (h : ly c S) : pm_len 100 535 (c, w, S, I, K) f = f (nI 14) := ly_lenG h rfl
theorem ld_536 {n : Nat} {f : Int32 → pmR} (h : ly c S) (hn : n < 14) : pm_ld 100 536 (nI n) (c, w, S, I, K) f = f (I 536 n) := ly_ldG 14 h rfl rfl (by decide) hn
theorem ls_536 {n : Nat} {v : Int32} {f : pmM → pmR} (h : ly c S) (hn : n < 14) : pm_st 100 536 (nI n) v (c, w, S, I, K) f = f (c, w, S, ly_u I 536 n v, K) := ly_stG 14 h rfl rfl (by decide) hn
theorem ll_536 {f : Int32 → pmR} (h : ly c S) : pm_len 100 536 (c, w, S, I, K) f = f (nI 14) := ly_lenG h rfl
theorem lq_538 : ∀ l, l < 16 → ly_ok (538 + l) 100 = true ∧ ly_w (538 + l) 100 = true ∧ (ly_f (538 + l)).2 = 14 := by decide +kernel
theorem ld_538 {l n : Nat} {f : Int32 → pmR} (h : ly c S) (hl : l < 16) (hn : n < 14) : pm_ld 100 (538 + l) (nI n) (c, w, S, I, K) f = f (I (538 + l) n) := ly_ldG 14 h (lq_538 l hl).1 (lq_538 l hl).2.2 (by decide) hn
theorem ls_538 {l n : Nat} {v : Int32} {f : pmM → pmR} (h : ly c S) (hl : l < 16) (hn : n < 14) : pm_st 100 (538 + l) (nI n) v (c, w, S, I, K) f = f (c, w, S, ly_u I (538 + l) n v, K) := ly_stG 14 h (lq_538 l hl).2.1 (lq_538 l hl).2.2 (by decide) hn
theorem ll_538 {l : Nat} {f : Int32 → pmR} (h : ly c S) (hl : l < 16) : pm_len 100 (538 + l) (c, w, S, I, K) f = f (nI 14) := by rw [ly_lenG h (lq_538 l hl).1, (lq_538 l hl).2.2]
theorem lq_555 : ∀ l, l < 3 → ly_ok (555 + l) 100 = true ∧ ly_w (555 + l) 100 = true ∧ (ly_f (555 + l)).2 = 239 := by decide +kernel
theorem ld_555 {l n : Nat} {f : Int32 → pmR} (h : ly c S) (hl : l < 3) (hn : n < 239) : pm_ld 100 (555 + l) (nI n) (c, w, S, I, K) f = f (I (555 + l) n) := ly_ldG 239 h (lq_555 l hl).1 (lq_555 l hl).2.2 (by decide) hn
theorem ls_555 {l n : Nat} {v : Int32} {f : pmM → pmR} (h : ly c S) (hl : l < 3) (hn : n < 239) : pm_st 100 (555 + l) (nI n) v (c, w, S, I, K) f = f (c, w, S, ly_u I (555 + l) n v, K) := ly_stG 239 h (lq_555 l hl).2.1 (lq_555 l hl).2.2 (by decide) hn
theorem ll_555 {l : Nat} {f : Int32 → pmR} (h : ly c S) (hl : l < 3) : pm_len 100 (555 + l) (c, w, S, I, K) f = f (nI 239) := by rw [ly_lenG h (lq_555 l hl).1, (lq_555 l hl).2.2]
theorem ld_558 {n : Nat} {f : Int32 → pmR} (h : ly c S) (hn : n < 48) : pm_ld 100 558 (nI n) (c, w, S, I, K) f = f (I 558 n) := ly_ldG 48 h rfl rfl (by decide) hn
theorem ls_558 {n : Nat} {v : Int32} {f : pmM → pmR} (h : ly c S) (hn : n < 48) : pm_st 100 558 (nI n) v (c, w, S, I, K) f = f (c, w, S, ly_u I 558 n v, K) := ly_stG 48 h rfl rfl (by decide) hn
theorem ll_558 {f : Int32 → pmR} (h : ly c S) : pm_len 100 558 (c, w, S, I, K) f = f (nI 48) := ly_lenG h rfl
theorem ld_559 {n : Nat} {f : Int32 → pmR} (h : ly c S) (hn : n < 48) : pm_ld 100 559 (nI n) (c, w, S, I, K) f = f (I 559 n) := ly_ldG 48 h rfl rfl (by decide) hn
theorem ls_559 {n : Nat} {v : Int32} {f : pmM → pmR} (h : ly c S) (hn : n < 48) : pm_st 100 559 (nI n) v (c, w, S, I, K) f = f (c, w, S, ly_u I 559 n v, K) := ly_stG 48 h rfl rfl (by decide) hn
theorem ll_559 {f : Int32 → pmR} (h : ly c S) : pm_len 100 559 (c, w, S, I, K) f = f (nI 48) := ly_lenG h rfl
theorem ld_560 {n : Nat} {f : Int32 → pmR} (h : ly c S) (hn : n < 48) : pm_ld 100 560 (nI n) (c, w, S, I, K) f = f (I 560 n) := ly_ldG 48 h rfl rfl (by decide) hn
theorem ls_560 {n : Nat} {v : Int32} {f : pmM → pmR} (h : ly c S) (hn : n < 48) : pm_st 100 560 (nI n) v (c, w, S, I, K) f = f (c, w, S, ly_u I 560 n v, K) := ly_stG 48 h rfl rfl (by decide) hn
theorem ll_560 {f : Int32 → pmR} (h : ly c S) : pm_len 100 560 (c, w, S, I, K) f = f (nI 48) := ly_lenG h rfl
theorem ld_561 {n : Nat} {f : Int32 → pmR} (h : ly c S) (hn : n < 26) : pm_ld 100 561 (nI n) (c, w, S, I, K) f = f (I 561 n) := ly_ldG 26 h rfl rfl (by decide) hn
theorem ls_561 {n : Nat} {v : Int32} {f : pmM → pmR} (h : ly c S) (hn : n < 26) : pm_st 100 561 (nI n) v (c, w, S, I, K) f = f (c, w, S, ly_u I 561 n v, K) := ly_stG 26 h rfl rfl (by decide) hn
theorem ll_561 {f : Int32 → pmR} (h : ly c S) : pm_len 100 561 (c, w, S, I, K) f = f (nI 26) := ly_lenG h rfl
theorem ld_562 {n : Nat} {f : Int32 → pmR} (h : ly c S) (hn : n < 26) : pm_ld 100 562 (nI n) (c, w, S, I, K) f = f (I 562 n) := ly_ldG 26 h rfl rfl (by decide) hn
theorem ls_562 {n : Nat} {v : Int32} {f : pmM → pmR} (h : ly c S) (hn : n < 26) : pm_st 100 562 (nI n) v (c, w, S, I, K) f = f (c, w, S, ly_u I 562 n v, K) := ly_stG 26 h rfl rfl (by decide) hn
theorem ll_562 {f : Int32 → pmR} (h : ly c S) : pm_len 100 562 (c, w, S, I, K) f = f (nI 26) := ly_lenG h rfl
theorem ld_563 {n : Nat} {f : Int64 → pmR} (h : ly c S) (hn : n < 26) : pm_ldL 563 (nI n) (c, w, S, I, K) f = f (K 563 n) := ly_ldLG 26 h rfl rfl (by decide) hn
theorem ls_563 {n : Nat} {v : Int64} {f : pmM → pmR} (h : ly c S) (hn : n < 26) : pm_stL 563 (nI n) v (c, w, S, I, K) f = f (c, w, S, I, ly_v K 563 n v) := ly_stLG 26 h rfl rfl (by decide) hn
theorem ld_564 {n : Nat} {f : Int64 → pmR} (h : ly c S) (hn : n < 26) : pm_ldL 564 (nI n) (c, w, S, I, K) f = f (K 564 n) := ly_ldLG 26 h rfl rfl (by decide) hn
theorem ls_564 {n : Nat} {v : Int64} {f : pmM → pmR} (h : ly c S) (hn : n < 26) : pm_stL 564 (nI n) v (c, w, S, I, K) f = f (c, w, S, I, ly_v K 564 n v) := ly_stLG 26 h rfl rfl (by decide) hn
theorem ld_565 {n : Nat} {f : Int64 → pmR} (h : ly c S) (hn : n < 13) : pm_ldL 565 (nI n) (c, w, S, I, K) f = f (K 565 n) := ly_ldLG 13 h rfl rfl (by decide) hn
theorem ls_565 {n : Nat} {v : Int64} {f : pmM → pmR} (h : ly c S) (hn : n < 13) : pm_stL 565 (nI n) v (c, w, S, I, K) f = f (c, w, S, I, ly_v K 565 n v) := ly_stLG 13 h rfl rfl (by decide) hn
theorem lq_567 : ∀ l, l < 13 → ly_ok (567 + l) 102 = true ∧ ly_w (567 + l) 102 = true ∧ (ly_f (567 + l)).2 = 16 := by decide +kernel
theorem ld_567 {l n : Nat} {f : Int64 → pmR} (h : ly c S) (hl : l < 13) (hn : n < 16) : pm_ldL (567 + l) (nI n) (c, w, S, I, K) f = f (K (567 + l) n) := ly_ldLG 16 h (lq_567 l hl).1 (lq_567 l hl).2.2 (by decide) hn
theorem ls_567 {l n : Nat} {v : Int64} {f : pmM → pmR} (h : ly c S) (hl : l < 13) (hn : n < 16) : pm_stL (567 + l) (nI n) v (c, w, S, I, K) f = f (c, w, S, I, ly_v K (567 + l) n v) := ly_stLG 16 h (lq_567 l hl).2.1 (lq_567 l hl).2.2 (by decide) hn
theorem ld_580 {n : Nat} {f : Int32 → pmR} (h : ly c S) (hn : n < 9) : pm_ld 100 580 (nI n) (c, w, S, I, K) f = f (I 580 n) := ly_ldG 9 h rfl rfl (by decide) hn
theorem ls_580 {n : Nat} {v : Int32} {f : pmM → pmR} (h : ly c S) (hn : n < 9) : pm_st 100 580 (nI n) v (c, w, S, I, K) f = f (c, w, S, ly_u I 580 n v, K) := ly_stG 9 h rfl rfl (by decide) hn
theorem ll_580 {f : Int32 → pmR} (h : ly c S) : pm_len 100 580 (c, w, S, I, K) f = f (nI 9) := ly_lenG h rfl
theorem ld_581 {n : Nat} {f : Int32 → pmR} (h : ly c S) (hn : n < 16) : pm_ld 101 581 (nI n) (c, w, S, I, K) f = f (I 581 n) := ly_ldG 16 h rfl rfl (by decide) hn
theorem ls_581 {n : Nat} {v : Int32} {f : pmM → pmR} (h : ly c S) (hn : n < 16) : pm_st 101 581 (nI n) v (c, w, S, I, K) f = f (c, w, S, ly_u I 581 n v, K) := ly_stG 16 h rfl rfl (by decide) hn
theorem ll_581 {f : Int32 → pmR} (h : ly c S) : pm_len 101 581 (c, w, S, I, K) f = f (nI 16) := ly_lenG h rfl
theorem lq_583 : ∀ l, l < 9 → ly_ok (583 + l) 100 = true ∧ ly_w (583 + l) 100 = true ∧ (ly_f (583 + l)).2 = 9 := by decide +kernel
theorem ld_583 {l n : Nat} {f : Int32 → pmR} (h : ly c S) (hl : l < 9) (hn : n < 9) : pm_ld 100 (583 + l) (nI n) (c, w, S, I, K) f = f (I (583 + l) n) := ly_ldG 9 h (lq_583 l hl).1 (lq_583 l hl).2.2 (by decide) hn
theorem ls_583 {l n : Nat} {v : Int32} {f : pmM → pmR} (h : ly c S) (hl : l < 9) (hn : n < 9) : pm_st 100 (583 + l) (nI n) v (c, w, S, I, K) f = f (c, w, S, ly_u I (583 + l) n v, K) := ly_stG 9 h (lq_583 l hl).2.1 (lq_583 l hl).2.2 (by decide) hn
theorem ll_583 {l : Nat} {f : Int32 → pmR} (h : ly c S) (hl : l < 9) : pm_len 100 (583 + l) (c, w, S, I, K) f = f (nI 9) := by rw [ly_lenG h (lq_583 l hl).1, (lq_583 l hl).2.2]
theorem ld_592 {n : Nat} {f : Int64 → pmR} (h : ly c S) (hn : n < 14) : pm_ldL 592 (nI n) (c, w, S, I, K) f = f (K 592 n) := ly_ldLG 14 h rfl rfl (by decide) hn
theorem ls_592 {n : Nat} {v : Int64} {f : pmM → pmR} (h : ly c S) (hn : n < 14) : pm_stL 592 (nI n) v (c, w, S, I, K) f = f (c, w, S, I, ly_v K 592 n v) := ly_stLG 14 h rfl rfl (by decide) hn
theorem ld_593 {n : Nat} {f : Int32 → pmR} (h : ly c S) (hn : n < 16) : pm_ld 100 593 (nI n) (c, w, S, I, K) f = f (I 593 n) := ly_ldG 16 h rfl rfl (by decide) hn
theorem ls_593 {n : Nat} {v : Int32} {f : pmM → pmR} (h : ly c S) (hn : n < 16) : pm_st 100 593 (nI n) v (c, w, S, I, K) f = f (c, w, S, ly_u I 593 n v, K) := ly_stG 16 h rfl rfl (by decide) hn
theorem ll_593 {f : Int32 → pmR} (h : ly c S) : pm_len 100 593 (c, w, S, I, K) f = f (nI 16) := ly_lenG h rfl
theorem ld_594 {n : Nat} {f : Int64 → pmR} (h : ly c S) (hn : n < 1) : pm_ldL 594 (nI n) (c, w, S, I, K) f = f (K 594 n) := ly_ldLG 1 h rfl rfl (by decide) hn
theorem ls_594 {n : Nat} {v : Int64} {f : pmM → pmR} (h : ly c S) (hn : n < 1) : pm_stL 594 (nI n) v (c, w, S, I, K) f = f (c, w, S, I, ly_v K 594 n v) := ly_stLG 1 h rfl rfl (by decide) hn
theorem lg_64 {k : Nat} {f : Int32 → pmR} (h : ly c S) : pm_gI 8 64 k (c, w, S, I, K) f = f (I 64 k) := ly_gI h rfl
theorem lp_64 {k : Nat} {v : Int32} {f : pmM → pmR} (h : ly c S) : pm_pI 8 64 k v (c, w, S, I, K) f = f (c, w, S, ly_u I 64 k v, K) := ly_pI h rfl
theorem lc_64 {r : pmR} (h : ly c S) : pm_rc 8 64 (c, w, S, I, K) r = r := ly_rc h rfl
theorem lg_65 {k : Nat} {f : Int32 → pmR} (h : ly c S) : pm_gI 7 65 k (c, w, S, I, K) f = f (I 65 k) := ly_gI h rfl
theorem lp_65 {k : Nat} {v : Int32} {f : pmM → pmR} (h : ly c S) : pm_pI 7 65 k v (c, w, S, I, K) f = f (c, w, S, ly_u I 65 k v, K) := ly_pI h rfl
theorem lc_65 {r : pmR} (h : ly c S) : pm_rc 7 65 (c, w, S, I, K) r = r := ly_rc h rfl
theorem lg_67 {k : Nat} {f : Int32 → pmR} (h : ly c S) : pm_gI 2 67 k (c, w, S, I, K) f = f (I 67 k) := ly_gI h rfl
theorem lp_67 {k : Nat} {v : Int32} {f : pmM → pmR} (h : ly c S) : pm_pI 2 67 k v (c, w, S, I, K) f = f (c, w, S, ly_u I 67 k v, K) := ly_pI h rfl
theorem lc_67 {r : pmR} (h : ly c S) : pm_rc 2 67 (c, w, S, I, K) r = r := ly_rc h rfl
theorem lg_71 {k : Nat} {f : Int32 → pmR} (h : ly c S) : pm_gI 2 71 k (c, w, S, I, K) f = f (I 71 k) := ly_gI h rfl
theorem lp_71 {k : Nat} {v : Int32} {f : pmM → pmR} (h : ly c S) : pm_pI 2 71 k v (c, w, S, I, K) f = f (c, w, S, ly_u I 71 k v, K) := ly_pI h rfl
theorem lc_71 {r : pmR} (h : ly c S) : pm_rc 2 71 (c, w, S, I, K) r = r := ly_rc h rfl
theorem lg_75 {k : Nat} {f : Int32 → pmR} (h : ly c S) : pm_gI 1 75 k (c, w, S, I, K) f = f (I 75 k) := ly_gI h rfl
theorem lp_75 {k : Nat} {v : Int32} {f : pmM → pmR} (h : ly c S) : pm_pI 1 75 k v (c, w, S, I, K) f = f (c, w, S, ly_u I 75 k v, K) := ly_pI h rfl
theorem lc_75 {r : pmR} (h : ly c S) : pm_rc 1 75 (c, w, S, I, K) r = r := ly_rc h rfl
theorem lg_79 {k : Nat} {f : Int32 → pmR} (h : ly c S) : pm_gI 1 79 k (c, w, S, I, K) f = f (I 79 k) := ly_gI h rfl
theorem lp_79 {k : Nat} {v : Int32} {f : pmM → pmR} (h : ly c S) : pm_pI 1 79 k v (c, w, S, I, K) f = f (c, w, S, ly_u I 79 k v, K) := ly_pI h rfl
theorem lc_79 {r : pmR} (h : ly c S) : pm_rc 1 79 (c, w, S, I, K) r = r := ly_rc h rfl
theorem lg_83 {k : Nat} {f : Int32 → pmR} (h : ly c S) : pm_gI 3 83 k (c, w, S, I, K) f = f (I 83 k) := ly_gI h rfl
theorem lp_83 {k : Nat} {v : Int32} {f : pmM → pmR} (h : ly c S) : pm_pI 3 83 k v (c, w, S, I, K) f = f (c, w, S, ly_u I 83 k v, K) := ly_pI h rfl
theorem lc_83 {r : pmR} (h : ly c S) : pm_rc 3 83 (c, w, S, I, K) r = r := ly_rc h rfl
theorem lg_85 {k : Nat} {f : Int32 → pmR} (h : ly c S) : pm_gI 3 85 k (c, w, S, I, K) f = f (I 85 k) := ly_gI h rfl
theorem lp_85 {k : Nat} {v : Int32} {f : pmM → pmR} (h : ly c S) : pm_pI 3 85 k v (c, w, S, I, K) f = f (c, w, S, ly_u I 85 k v, K) := ly_pI h rfl
theorem lc_85 {r : pmR} (h : ly c S) : pm_rc 3 85 (c, w, S, I, K) r = r := ly_rc h rfl
theorem lg_87 {k : Nat} {f : Int32 → pmR} (h : ly c S) : pm_gI 6 87 k (c, w, S, I, K) f = f (I 87 k) := ly_gI h rfl
theorem lp_87 {k : Nat} {v : Int32} {f : pmM → pmR} (h : ly c S) : pm_pI 6 87 k v (c, w, S, I, K) f = f (c, w, S, ly_u I 87 k v, K) := ly_pI h rfl
theorem lc_87 {r : pmR} (h : ly c S) : pm_rc 6 87 (c, w, S, I, K) r = r := ly_rc h rfl
theorem lg_93 {k : Nat} {f : Int32 → pmR} (h : ly c S) : pm_gI 0 93 k (c, w, S, I, K) f = f (I 93 k) := ly_gI h rfl
theorem lp_93 {k : Nat} {v : Int32} {f : pmM → pmR} (h : ly c S) : pm_pI 0 93 k v (c, w, S, I, K) f = f (c, w, S, ly_u I 93 k v, K) := ly_pI h rfl
theorem lc_93 {r : pmR} (h : ly c S) : pm_rc 0 93 (c, w, S, I, K) r = r := ly_rc h rfl
theorem lg_96 {k : Nat} {f : Int32 → pmR} (h : ly c S) : pm_gI 0 96 k (c, w, S, I, K) f = f (I 96 k) := ly_gI h rfl
theorem lp_96 {k : Nat} {v : Int32} {f : pmM → pmR} (h : ly c S) : pm_pI 0 96 k v (c, w, S, I, K) f = f (c, w, S, ly_u I 96 k v, K) := ly_pI h rfl
theorem lc_96 {r : pmR} (h : ly c S) : pm_rc 0 96 (c, w, S, I, K) r = r := ly_rc h rfl
theorem lg_99 {k : Nat} {f : Int32 → pmR} (h : ly c S) : pm_gI 5 99 k (c, w, S, I, K) f = f (I 99 k) := ly_gI h rfl
theorem lp_99 {k : Nat} {v : Int32} {f : pmM → pmR} (h : ly c S) : pm_pI 5 99 k v (c, w, S, I, K) f = f (c, w, S, ly_u I 99 k v, K) := ly_pI h rfl
theorem lc_99 {r : pmR} (h : ly c S) : pm_rc 5 99 (c, w, S, I, K) r = r := ly_rc h rfl
theorem lg_102 {k : Nat} {f : Int32 → pmR} (h : ly c S) : pm_gI 4 102 k (c, w, S, I, K) f = f (I 102 k) := ly_gI h rfl
theorem lp_102 {k : Nat} {v : Int32} {f : pmM → pmR} (h : ly c S) : pm_pI 4 102 k v (c, w, S, I, K) f = f (c, w, S, ly_u I 102 k v, K) := ly_pI h rfl
theorem lc_102 {r : pmR} (h : ly c S) : pm_rc 4 102 (c, w, S, I, K) r = r := ly_rc h rfl
theorem lg_108 {k : Nat} {f : Int32 → pmR} (h : ly c S) : pm_gI 9 108 k (c, w, S, I, K) f = f (I 108 k) := ly_gI h rfl
theorem lp_108 {k : Nat} {v : Int32} {f : pmM → pmR} (h : ly c S) : pm_pI 9 108 k v (c, w, S, I, K) f = f (c, w, S, ly_u I 108 k v, K) := ly_pI h rfl
theorem lc_108 {r : pmR} (h : ly c S) : pm_rc 9 108 (c, w, S, I, K) r = r := ly_rc h rfl
def dk (d : Nat) : Prop := d = 93 ∨ d = 96
def rwa (a : Nat) : Prop := a = 535 ∨ a = 536
theorem lk_0 {d : Nat} {f : Nat → pmR} (h : ly c S) (hd : dk d) : pm_gR 0 d 0 (c, w, S, I, K) f = f 67 := by
  rcases hd with rfl | rfl
  · exact lr_93_0 h
  · exact lr_96_0 h
theorem lk_1 {d : Nat} {f : Nat → pmR} (h : ly c S) (hd : dk d) : pm_gR 0 d 1 (c, w, S, I, K) f = f 75 := by
  rcases hd with rfl | rfl
  · exact lr_93_1 h
  · exact lr_96_1 h
theorem lk_2 {d : Nat} {f : Nat → pmR} (h : ly c S) (hd : dk d) : pm_gR 0 d 2 (c, w, S, I, K) f = f (d + 1) := by
  rcases hd with rfl | rfl
  · exact lr_93_2 h
  · exact lr_96_2 h
theorem lk_3 {d : Nat} {f : Nat → pmR} (h : ly c S) (hd : dk d) : pm_gR 0 d 3 (c, w, S, I, K) f = f (d + 2) := by
  rcases hd with rfl | rfl
  · exact lr_93_3 h
  · exact lr_96_3 h
theorem lk_g {d k : Nat} {f : Int32 → pmR} (h : ly c S) (hd : dk d) : pm_gI 0 d k (c, w, S, I, K) f = f (I d k) := by
  rcases hd with rfl | rfl
  · exact lg_93 h
  · exact lg_96 h
theorem lk_p {d k : Nat} {v : Int32} {f : pmM → pmR} (h : ly c S) (hd : dk d) : pm_pI 0 d k v (c, w, S, I, K) f = f (c, w, S, ly_u I d k v, K) := by
  rcases hd with rfl | rfl
  · exact lp_93 h
  · exact lp_96 h
theorem lk_c {d : Nat} {r : pmR} (h : ly c S) (hd : dk d) : pm_rc 0 d (c, w, S, I, K) r = r := by
  rcases hd with rfl | rfl
  · exact lc_93 h
  · exact lc_96 h
theorem lk_l1 {d n : Nat} {f : Int32 → pmR} (h : ly c S) (hd : dk d) (hn : n < 6) : pm_ld 100 (d + 1) (nI n) (c, w, S, I, K) f = f (I (d + 1) n) := by
  rcases hd with rfl | rfl
  · exact ld_94 h hn
  · exact ld_97 h hn
theorem lk_s1 {d n : Nat} {v : Int32} {f : pmM → pmR} (h : ly c S) (hd : dk d) (hn : n < 6) : pm_st 100 (d + 1) (nI n) v (c, w, S, I, K) f = f (c, w, S, ly_u I (d + 1) n v, K) := by
  rcases hd with rfl | rfl
  · exact ls_94 h hn
  · exact ls_97 h hn
theorem lk_l2 {d n : Nat} {f : Int32 → pmR} (h : ly c S) (hd : dk d) (hn : n < 4) : pm_ld 100 (d + 2) (nI n) (c, w, S, I, K) f = f (I (d + 2) n) := by
  rcases hd with rfl | rfl
  · exact ld_95 h hn
  · exact ld_98 h hn
theorem lk_s2 {d n : Nat} {v : Int32} {f : pmM → pmR} (h : ly c S) (hd : dk d) (hn : n < 4) : pm_st 100 (d + 2) (nI n) v (c, w, S, I, K) f = f (c, w, S, ly_u I (d + 2) n v, K) := by
  rcases hd with rfl | rfl
  · exact ls_95 h hn
  · exact ls_98 h hn
theorem lw_l {a n : Nat} {f : Int32 → pmR} (h : ly c S) (hd : rwa a) (hn : n < 14) : pm_ld 100 a (nI n) (c, w, S, I, K) f = f (I a n) := by
  rcases hd with rfl | rfl
  · exact ld_535 h hn
  · exact ld_536 h hn
theorem lw_s {a n : Nat} {v : Int32} {f : pmM → pmR} (h : ly c S) (hd : rwa a) (hn : n < 14) : pm_st 100 a (nI n) v (c, w, S, I, K) f = f (c, w, S, ly_u I a n v, K) := by
  rcases hd with rfl | rfl
  · exact ls_535 h hn
  · exact ls_536 h hn
theorem nl_0 : (0 : Int32) = nI 0 := rfl
theorem nl_1 : (1 : Int32) = nI 1 := rfl
theorem nl_2 : (2 : Int32) = nI 2 := rfl
theorem nl_3 : (3 : Int32) = nI 3 := rfl
theorem nl_4 : (4 : Int32) = nI 4 := rfl
theorem nl_5 : (5 : Int32) = nI 5 := rfl
theorem nl_6 : (6 : Int32) = nI 6 := rfl
theorem nl_7 : (7 : Int32) = nI 7 := rfl
theorem nl_8 : (8 : Int32) = nI 8 := rfl
theorem nl_9 : (9 : Int32) = nI 9 := rfl
theorem nl_10 : (10 : Int32) = nI 10 := rfl
theorem nl_11 : (11 : Int32) = nI 11 := rfl
theorem nl_12 : (12 : Int32) = nI 12 := rfl
theorem nl_13 : (13 : Int32) = nI 13 := rfl
theorem nl_14 : (14 : Int32) = nI 14 := rfl
theorem nl_15 : (15 : Int32) = nI 15 := rfl
theorem nl_16 : (16 : Int32) = nI 16 := rfl
theorem nl_17 : (17 : Int32) = nI 17 := rfl
theorem nl_18 : (18 : Int32) = nI 18 := rfl
theorem nl_19 : (19 : Int32) = nI 19 := rfl
theorem nl_20 : (20 : Int32) = nI 20 := rfl
theorem nl_21 : (21 : Int32) = nI 21 := rfl
theorem nl_22 : (22 : Int32) = nI 22 := rfl
theorem nl_23 : (23 : Int32) = nI 23 := rfl
theorem nl_24 : (24 : Int32) = nI 24 := rfl
theorem nl_25 : (25 : Int32) = nI 25 := rfl
theorem nl_26 : (26 : Int32) = nI 26 := rfl
theorem nl_27 : (27 : Int32) = nI 27 := rfl
theorem nl_28 : (28 : Int32) = nI 28 := rfl
theorem nl_29 : (29 : Int32) = nI 29 := rfl
theorem nl_30 : (30 : Int32) = nI 30 := rfl
theorem nl_31 : (31 : Int32) = nI 31 := rfl
theorem nl_32 : (32 : Int32) = nI 32 := rfl
theorem nl_40 : (40 : Int32) = nI 40 := rfl
theorem nl_41 : (41 : Int32) = nI 41 := rfl
theorem nl_42 : (42 : Int32) = nI 42 := rfl
theorem nl_43 : (43 : Int32) = nI 43 := rfl
theorem nl_44 : (44 : Int32) = nI 44 := rfl
theorem nl_45 : (45 : Int32) = nI 45 := rfl
theorem nl_47 : (47 : Int32) = nI 47 := rfl
theorem nl_48 : (48 : Int32) = nI 48 := rfl
theorem nl_57 : (57 : Int32) = nI 57 := rfl
theorem nl_59 : (59 : Int32) = nI 59 := rfl
theorem nl_60 : (60 : Int32) = nI 60 := rfl
theorem nl_80 : (80 : Int32) = nI 80 := rfl
theorem nl_91 : (91 : Int32) = nI 91 := rfl
theorem nl_93 : (93 : Int32) = nI 93 := rfl
theorem nl_96 : (96 : Int32) = nI 96 := rfl
theorem nl_97 : (97 : Int32) = nI 97 := rfl
theorem nl_99 : (99 : Int32) = nI 99 := rfl
theorem nl_100 : (100 : Int32) = nI 100 := rfl
theorem nl_122 : (122 : Int32) = nI 122 := rfl
theorem nl_150 : (150 : Int32) = nI 150 := rfl
theorem nl_160 : (160 : Int32) = nI 160 := rfl
theorem nl_200 : (200 : Int32) = nI 200 := rfl
theorem nl_208 : (208 : Int32) = nI 208 := rfl
theorem nl_224 : (224 : Int32) = nI 224 := rfl
theorem nl_238 : (238 : Int32) = nI 238 := rfl
theorem nl_239 : (239 : Int32) = nI 239 := rfl
theorem nl_255 : (255 : Int32) = nI 255 := rfl
theorem nl_600 : (600 : Int32) = nI 600 := rfl
theorem nl_999 : (999 : Int32) = nI 999 := rfl
theorem nl_1000 : (1000 : Int32) = nI 1000 := rfl
theorem nl_9999 : (9999 : Int32) = nI 9999 := rfl
theorem nl_100000 : (100000 : Int32) = nI 100000 := rfl
theorem nl_12345 : (12345 : Int32) = nI 12345 := rfl
theorem nl_1103515245 : (1103515245 : Int32) = nI 1103515245 := rfl
theorem nl_32767 : (32767 : Int32) = nI 32767 := rfl
theorem ly_bzn {b : Bool} : (ly_b b = nI 0) ↔ (b = false) := by cases b <;> decide
theorem ly_bon {b : Bool} : (ly_b b = nI 1) ↔ (b = true) := by cases b <;> decide
theorem ly_n0n : vp_nar .boolean (nI 0) = nI 0 := rfl
theorem ly_n1n : vp_nar .boolean (nI 1) = nI 1 := rfl
theorem ly_b1n : ly_b true = nI 1 := rfl
theorem ly_b0n : ly_b false = nI 0 := rfl
theorem dk_93 : dk 93 := Or.inl rfl
theorem dk_96 : dk 96 := Or.inr rfl
theorem rwa_535 : rwa 535 := Or.inl rfl
theorem rwa_536 : rwa 536 := Or.inr rfl
end LAY
