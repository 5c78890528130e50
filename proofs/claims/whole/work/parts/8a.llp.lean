/-! the law's loop: each call by what was shown of it -/
section LLP
variable {c w : Nat} {S : Nat → pmS} {I I1 I2 J : Nat → Nat → Int32} {K K1 K2 : Nat → Nat → Int64} {n : Nat} {wd : Nat → Nat} {q : Nat → Nat → Nat} {r : Nat → Int32} {a : Nat} {se : Nat → Nat} {W G : Nat} {L w0 t : Nat} {f0 : Nat → Option Nat} {xs : Nat → Int32} {again : (Int32 × pmM) → pmR} {RC : pmR} {FM : pmM → pmR} {e : Nat → Nat}
theorem sl {f : Int32 → pmR} (hc : 0 < c) (h0 : S 0 = (100, L, f0)) (hx : ∀ j, I 0 j = xs j) (hL : L ≤ 512) (d : Nat) {y : Int32} (hy : y = nI d) (hd : 8 * t + d < L) : pm_ld 100 0 (nI (8 * t) + y) (c, w, S, I, K) f = f (xs (8 * t + d)) := by
  rw [hy, nI_add]
  unfold pm_ld
  rw [if_pos (show (0 : Nat) < c ∧ (S 0).1 = 100 from ⟨hc, by rw [h0]⟩)]
  simp only [h0]
  rw [if_neg (nI_in hd (by omega)), nI_clamp (by omega), hx]
theorem sl0 {f : Int32 → pmR} (hc : 0 < c) (h0 : S 0 = (100, L, f0)) (hx : ∀ j, I 0 j = xs j) (hL : L ≤ 512) (hd : 8 * t < L) : pm_ld 100 0 (nI (8 * t)) (c, w, S, I, K) f = f (xs (8 * t)) := by
  unfold pm_ld
  rw [if_pos (show (0 : Nat) < c ∧ (S 0).1 = 100 from ⟨hc, by rw [h0]⟩)]
  simp only [h0]
  rw [if_neg (nI_in hd (by omega)), nI_clamp (by omega), hx]
theorem sln {f : Int32 → pmR} (hc : 0 < c) (h0 : S 0 = (100, L, f0)) : pm_len 100 0 (c, w, S, I, K) f = f (nI L) := by
  unfold pm_len
  rw [if_pos (show (0 : Nat) < c ∧ (S 0).1 = 100 from ⟨hc, by rw [h0]⟩)]
  simp only [h0]
/-- how it stands ahead of a call -/
def gd (L : Nat) (f0 : Nat → Option Nat) (xs : Nat → Int32) (w0 t : Nat) (m : pmM) : Prop := ly m.1 m.2.2.1 ∧ m.2.2.1 0 = (100, L, f0) ∧ m.1 ≤ 595 + t ∧ m.2.1 ≤ w0 + 6 * t ∧ jx xs m.2.2.2.1
/-- what a call leaves: memory c1 .. S1, the script stays -/
def lf (c w : Nat) (S : Nat → pmS) (xs : Nat → Int32) (c1 w1 : Nat) (S1 : Nat → pmS) (I1 : Nat → Nat → Int32) : Prop := c ≤ c1 ∧ c1 ≤ c + 1 ∧ w1 ≤ w + 6 ∧ ly c1 S1 ∧ S1 0 = S 0 ∧ ∀ j, I1 0 j = xs j
theorem lUi (h : ag isI xs c w S (fun _ => 0) RC FM) : ∃ y c1 w1 S1 I1 K1 I2 K3, lf c w S xs c1 w1 S1 I1 ∧ RC = pm_oI y (c1, w1, S1, I1, K1) ∧ FM (c1, w1, S1, I1, K1) = pm_oI y (c1, w1, S1, I2, K3) ∧ jx xs I2 := by
  obtain ⟨c1, w1, S1, I1, K1, hl, h1 | ⟨k, b, hk, he, -⟩⟩ := h
  · obtain ⟨v, ⟨y, rfl⟩, h2, h3⟩ := h1
    obtain ⟨I2, K3, h4, -, h5, -⟩ := h3 K1
    exact ⟨y, c1, w1, S1, I1, K1, I2, K3, hl, h2, h4, h5⟩
  · exact absurd he (by simp)
theorem lUl (h : ag isL xs c w S (fun _ => 0) RC FM) : ∃ y c1 w1 S1 I1 K1 I2 K3, lf c w S xs c1 w1 S1 I1 ∧ RC = pm_oL y (c1, w1, S1, I1, K1) ∧ FM (c1, w1, S1, I1, K1) = pm_oL y (c1, w1, S1, I2, K3) ∧ jx xs I2 := by
  obtain ⟨c1, w1, S1, I1, K1, hl, h1 | ⟨k, b, hk, he, -⟩⟩ := h
  · obtain ⟨v, ⟨y, rfl⟩, h2, h3⟩ := h1
    obtain ⟨I2, K3, h4, -, h5, -⟩ := h3 K1
    exact ⟨y, c1, w1, S1, I1, K1, I2, K3, hl, h2, h4, h5⟩
  · exact absurd he (by simp)
theorem lWi {hh : Nat → pmM → pmR} (h : ag isI xs c w S e RC FM) (hh1 : ∀ k m, (k = 0 ∨ k = 1) → 0 < e k → hh k m = pm_oI (nI (e k)) m ∧ e k ≤ 2) : ∃ x b c1 w1 S1 I1 K1 I2 K3, lf c w S xs c1 w1 S1 I1 ∧ (pm_cIH RC (h := hh) fun x2 m1 => pm_stL 594 0 x2.toInt64 m1 fun m3 => pm_oI 0 m3) = pm_oI x (c1, w1, S1, I1, K1) ∧ FM (c1, w1, S1, I1, K1) = pm_oI b (c1, w1, S1, I2, K3) ∧ I2 108 0 = x ∧ (x = 0 → K3 594 0 = b.toInt64) ∧ jx xs I2 := by
  obtain ⟨c1, w1, S1, I1, K1, hl, h1 | ⟨k, b, hk, he, ⟨y, rfl⟩, h2, h3⟩⟩ := h
  · obtain ⟨v, ⟨y, rfl⟩, h2, h3⟩ := h1
    obtain ⟨I2, K3, h4, h6, h5, h7⟩ := h3 (ly_v K1 594 0 y.toInt64)
    refine ⟨0, y, c1, w1, S1, I1, ly_v K1 594 0 y.toInt64, I2, K3, hl, ?_, h4, h6, fun _ => ?_, h5⟩
    · rw [h2]
      show pm_stL 594 (nI 0) y.toInt64 (c1, w1, S1, I1, K1) (fun m3 => pm_oI 0 m3) = _
      rw [ls_594 hl.2.2.2.1 (by omega)]
    · rw [h7, ly_vE, if_pos ⟨rfl, rfl⟩]
  · obtain ⟨I2, K3, h4, h6, h5, h7⟩ := h3 K1
    obtain ⟨g1, g2⟩ := hh1 k (c1, w1, S1, I1, K1) hk he
    refine ⟨nI (e k), y, c1, w1, S1, I1, K1, I2, K3, hl, ?_, h4, h6, fun h0 => absurd h0 (nI_ne0 he (by omega)), h5⟩
    rw [h2]
    exact g1
theorem lWl {hh : Nat → pmM → pmR} (h : ag isL xs c w S e RC FM) (hh1 : ∀ k m, (k = 0 ∨ k = 1) → 0 < e k → hh k m = pm_oI (nI (e k)) m ∧ e k ≤ 2) : ∃ x b c1 w1 S1 I1 K1 I2 K3, lf c w S xs c1 w1 S1 I1 ∧ (pm_cLH RC (h := hh) fun x2 m1 => pm_stL 594 0 x2 m1 fun m3 => pm_oI 0 m3) = pm_oI x (c1, w1, S1, I1, K1) ∧ FM (c1, w1, S1, I1, K1) = pm_oL b (c1, w1, S1, I2, K3) ∧ I2 108 0 = x ∧ (x = 0 → K3 594 0 = b) ∧ jx xs I2 := by
  obtain ⟨c1, w1, S1, I1, K1, hl, h1 | ⟨k, b, hk, he, ⟨y, rfl⟩, h2, h3⟩⟩ := h
  · obtain ⟨v, ⟨y, rfl⟩, h2, h3⟩ := h1
    obtain ⟨I2, K3, h4, h6, h5, h7⟩ := h3 (ly_v K1 594 0 y)
    refine ⟨0, y, c1, w1, S1, I1, ly_v K1 594 0 y, I2, K3, hl, ?_, h4, h6, fun _ => ?_, h5⟩
    · rw [h2]
      show pm_stL 594 (nI 0) y (c1, w1, S1, I1, K1) (fun m3 => pm_oI 0 m3) = _
      rw [ls_594 hl.2.2.2.1 (by omega)]
    · rw [h7, ly_vE, if_pos ⟨rfl, rfl⟩]
  · obtain ⟨I2, K3, h4, h6, h5, h7⟩ := h3 K1
    obtain ⟨g1, g2⟩ := hh1 k (c1, w1, S1, I1, K1) hk he
    refine ⟨nI (e k), y, c1, w1, S1, I1, K1, I2, K3, hl, ?_, h4, h6, fun h0 => absurd h0 (nI_ne0 he (by omega)), h5⟩
    rw [h2]
    exact g1
theorem hhA : ∀ k (m : pmM), (k = 0 ∨ k = 1) → 0 < (fun k => k : Nat → Nat) k → (fun k9 (m9 : pmM) => if k9 = 1 then (pm_oI 1 m9) else none : Nat → pmM → pmR) k m = pm_oI (nI ((fun k => k : Nat → Nat) k)) m ∧ (fun k => k : Nat → Nat) k ≤ 2 := by
  intro k m hk h0
  rcases hk with rfl | rfl
  · exact absurd h0 (by decide)
  · exact ⟨rfl, by decide⟩
theorem hhN : ∀ k (m : pmM), (k = 0 ∨ k = 1) → 0 < (fun k => 1 - k : Nat → Nat) k → (fun k9 (m9 : pmM) => if k9 = 0 then (pm_oI 1 m9) else none : Nat → pmM → pmR) k m = pm_oI (nI ((fun k => 1 - k : Nat → Nat) k)) m ∧ (fun k => 1 - k : Nat → Nat) k ≤ 2 := by
  intro k m hk h0
  rcases hk with rfl | rfl
  · exact ⟨rfl, by decide⟩
  · exact absurd h0 (by decide)
theorem hhB : ∀ k (m : pmM), (k = 0 ∨ k = 1) → 0 < (fun k => 1 + k : Nat → Nat) k → (fun k9 (m9 : pmM) => if k9 = 0 then (pm_oI 1 m9) else if k9 = 1 then (pm_oI 2 m9) else none : Nat → pmM → pmR) k m = pm_oI (nI ((fun k => 1 + k : Nat → Nat) k)) m ∧ (fun k => 1 + k : Nat → Nat) k ≤ 2 := by
  intro k m hk h0
  rcases hk with rfl | rfl
  · exact ⟨rfl, by decide⟩
  · exact ⟨rfl, by decide⟩
/-- on to the next call -/
def nxt (L : Nat) (f0 : Nat → Option Nat) (xs : Nat → Int32) (w0 t : Nat) (again : (Int32 × pmM) → pmR) (Rp : pmR → Prop) : Prop := ∀ m', gd L f0 xs w0 (t + 1) m' → Rp (again (nI (8 * (t + 1)), m'))
theorem nx_g {c1 w1 : Nat} {S1 : Nat → pmS} {K3 : Nat → Nat → Int64} {Rp : pmR → Prop} (hn : nxt L f0 xs w0 t again Rp) (h0 : S 0 = (100, L, f0)) (hc : c ≤ 595 + t) (hw : w ≤ w0 + 6 * t) (hl : lf c w S xs c1 w1 S1 I1) (hj : jx xs I2) : Rp (L_law__j2232 again 0 64 108 594 (nI (8 * t)) (c1, w1, S1, I2, K3)) := by
  unfold L_law__j2232
  rw [ly_bI, show nI (8 * t) + (8 : Int32) = nI (8 * t + 8) from nI_add _ 8, show 8 * t + 8 = 8 * (t + 1) by omega]
  obtain ⟨l1, l2, l3, l4, l5, -⟩ := hl
  exact hn (c1, w1, S1, I2, K3) ⟨l4, by show S1 0 = _; rw [l5, h0], by show c1 ≤ _; omega, by show w1 ≤ _; omega, hj⟩
theorem th_M (h : ly c S) : X9_thrown 108 (c, w, S, I, K) = pm_oI (I 108 0) (c, w, S, I, K) := by
  unfold X9_thrown
  rw [lg_108 h]
def LC_0 (l0 l1 l2 l3 : Nat) (again23 : (Int32 × pmM) → pmR) (s23 : Int32 × pmM) : pmR := (pm_ld 100 l0 (s23.1 + 1) s23.2 fun x12 => pm_ld 100 l0 (s23.1 + 2) s23.2 fun x13 => pm_ld 100 l0 (s23.1 + 3) s23.2 fun x14 => pm_ld 100 l0 (s23.1 + 4) s23.2 fun x15 => pm_ld 100 l0 (s23.1 + 5) s23.2 fun x16 => pm_rc 8 l1 s23.2 <| pm_cI (X8_feed l1 x12 x13 x14 x15 x16 s23.2) fun x18 m17 => pm_ld 100 l0 (s23.1 + 1) m17 fun x19 => pm_ld 100 l0 (s23.1 + 2) m17 fun x20 => pm_ld 100 l0 (s23.1 + 3) m17 fun x21 => pm_ld 100 l0 (s23.1 + 4) m17 fun x22 => pm_ld 100 l0 (s23.1 + 5) m17 fun x23 => pm_rc 9 l2 m17 <| pm_cI (X9_feed l2 x19 x20 x21 x22 x23 m17) fun x25 m24 => if x18 = x25 then (L_law__j2232 again23 l0 l1 l2 l3 s23.1 m24) else (pm_oI 0 m24))
theorem lc_0 {Rp : pmR → Prop} (hg : gd L f0 xs w0 t (c, w, S, I, K)) (hL : L ≤ 512) (ht : 8 * t + 8 ≤ L) (hn : nxt L f0 xs w0 t again Rp) : Rp (LC_0 0 64 108 594 again (nI (8 * t), (c, w, S, I, K))) := by
  obtain ⟨h, h0, hcc, hww, hx, n, wd, q, r, a, se, W, G, hJ⟩ := hg
  replace h : ly c S := h
  replace h0 : S 0 = (100, L, f0) := h0
  replace hcc : c ≤ 595 + t := hcc
  replace hww : w ≤ w0 + 6 * t := hww
  replace hx : ∀ j, I 0 j = xs j := hx
  replace hJ : JJ I n wd q r a se W G := hJ
  have hc : 0 < c := by have := h.1; omega
  have hI0 : I 0 = xs := funext hx
  have hag := ca_feed (K := K) (w := w) (xs (8 * t + 1)) (xs (8 * t + 2)) (xs (8 * t + 3)) (xs (8 * t + 4)) (xs (8 * t + 5)) h hJ
  rw [hI0] at hag
  obtain ⟨y, c1, w1, S1, I1, K1, I2, K3, hl, h1, h2, h3⟩ := lUi hag
  have h4 := hl.2.2.2.1
  have hc1 : 0 < c1 := by have := h4.1; omega
  have h01 : S1 0 = (100, L, f0) := by rw [hl.2.2.2.2.1, h0]
  unfold LC_0
  simp only
  rw [sl (y := 1) hc h0 hx hL 1 rfl (by omega), sl (y := 2) hc h0 hx hL 2 rfl (by omega), sl (y := 3) hc h0 hx hL 3 rfl (by omega), sl (y := 4) hc h0 hx hL 4 rfl (by omega), sl (y := 5) hc h0 hx hL 5 rfl (by omega), lc_64 h, h1, ly_cI, sl (y := 1) hc1 h01 hl.2.2.2.2.2 hL 1 rfl (by omega), sl (y := 2) hc1 h01 hl.2.2.2.2.2 hL 2 rfl (by omega), sl (y := 3) hc1 h01 hl.2.2.2.2.2 hL 3 rfl (by omega), sl (y := 4) hc1 h01 hl.2.2.2.2.2 hL 4 rfl (by omega), sl (y := 5) hc1 h01 hl.2.2.2.2.2 hL 5 rfl (by omega), lc_108 h4, h2, ly_cI, if_pos rfl]
  exact nx_g hn h0 hcc hww hl h3
def LC_1 (l0 l1 l2 l3 : Nat) (again23 : (Int32 × pmM) → pmR) (s23 : Int32 × pmM) : pmR := (pm_ld 100 l0 (s23.1 + 1) s23.2 fun x27 => pm_cI (L_page l1 x27 l3 s23.2) fun x29 m28 => pm_ld 100 l0 (s23.1 + 1) m28 fun x30 => pm_rc 9 l2 m28 <| pm_cI (X9_page l2 x30 m28) fun x32 m31 => pm_rc 9 l2 m31 <| pm_cI (X9_thrown l2 m31) fun x34 m33 => if x34 = x29 then (if x29 = 0 then (pm_ldL l3 0 m33 fun x35 => if (lg_cmp x35 x32.toInt64) = 0 then (L_law__j338 again23 l0 l1 l2 l3 s23.1 m33) else (pm_oI 0 m33)) else (L_law__j338 again23 l0 l1 l2 l3 s23.1 m33)) else (pm_oI 0 m33))
theorem lc_1 {Rp : pmR → Prop} (hg : gd L f0 xs w0 t (c, w, S, I, K)) (hL : L ≤ 512) (ht : 8 * t + 8 ≤ L) (hn : nxt L f0 xs w0 t again Rp) : Rp (LC_1 0 64 108 594 again (nI (8 * t), (c, w, S, I, K))) := by
  obtain ⟨h, h0, hcc, hww, hx, n, wd, q, r, a, se, W, G, hJ⟩ := hg
  replace h : ly c S := h
  replace h0 : S 0 = (100, L, f0) := h0
  replace hcc : c ≤ 595 + t := hcc
  replace hww : w ≤ w0 + 6 * t := hww
  replace hx : ∀ j, I 0 j = xs j := hx
  replace hJ : JJ I n wd q r a se W G := hJ
  have hc : 0 < c := by have := h.1; omega
  have hI0 : I 0 = xs := funext hx
  have hag := ca_page (K := K) (w := w) (xs (8 * t + 1)) h hJ
  rw [hI0] at hag
  obtain ⟨x, b, c1, w1, S1, I1, K1, I2, K3, hl, h1, h2, h5, h6, h3⟩ := lWi hag hhA
  have h4 := hl.2.2.2.1
  have hc1 : 0 < c1 := by have := h4.1; omega
  have h01 : S1 0 = (100, L, f0) := by rw [hl.2.2.2.2.1, h0]
  have hL1 : L_page 64 (xs (8 * t + 1)) 594 (c, w, S, I, K) = pm_oI x (c1, w1, S1, I1, K1) := by
    unfold L_page
    rw [lc_64 h]
    exact h1
  unfold LC_1 L_law__j338
  simp only
  rw [sl (y := 1) hc h0 hx hL 1 rfl (by omega), hL1, ly_cI, sl (y := 1) hc1 h01 hl.2.2.2.2.2 hL 1 rfl (by omega), lc_108 h4, h2, ly_cI, lc_108 h4, th_M h4, ly_cI, if_pos h5]
  by_cases hx0 : x = 0
  · rw [if_pos hx0, show pm_ldL 594 0 (c1, w1, S1, I2, K3) = pm_ldL 594 (nI 0) (c1, w1, S1, I2, K3) from rfl, ld_594 h4 (by omega), h6 hx0, if_pos ((lg_cmp_eq _ _).mpr rfl)]
    exact nx_g hn h0 hcc hww hl h3
  · rw [if_neg hx0]
    exact nx_g hn h0 hcc hww hl h3
def LC_2 (l0 l1 l2 l3 : Nat) (again23 : (Int32 × pmM) → pmR) (s23 : Int32 × pmM) : pmR := (pm_ld 100 l0 (s23.1 + 1) s23.2 fun x36 => pm_cI (L_law l1 x36 l3 s23.2) fun x38 m37 => pm_ld 100 l0 (s23.1 + 1) m37 fun x39 => pm_rc 9 l2 m37 <| pm_cI (X9_law l2 x39 m37) fun x41 m40 => pm_rc 9 l2 m40 <| pm_cI (X9_thrown l2 m40) fun x43 m42 => if x43 = x38 then (if x38 = 0 then (pm_ldL l3 0 m42 fun x44 => if (lg_cmp x44 x41.toInt64) = 0 then (L_law__j394 again23 l0 l1 l2 l3 s23.1 m42) else (pm_oI 0 m42)) else (L_law__j394 again23 l0 l1 l2 l3 s23.1 m42)) else (pm_oI 0 m42))
theorem lc_2 {Rp : pmR → Prop} (hg : gd L f0 xs w0 t (c, w, S, I, K)) (hL : L ≤ 512) (ht : 8 * t + 8 ≤ L) (hn : nxt L f0 xs w0 t again Rp) : Rp (LC_2 0 64 108 594 again (nI (8 * t), (c, w, S, I, K))) := by
  obtain ⟨h, h0, hcc, hww, hx, n, wd, q, r, a, se, W, G, hJ⟩ := hg
  replace h : ly c S := h
  replace h0 : S 0 = (100, L, f0) := h0
  replace hcc : c ≤ 595 + t := hcc
  replace hww : w ≤ w0 + 6 * t := hww
  replace hx : ∀ j, I 0 j = xs j := hx
  replace hJ : JJ I n wd q r a se W G := hJ
  have hc : 0 < c := by have := h.1; omega
  have hI0 : I 0 = xs := funext hx
  have hag := ca_law (K := K) (w := w) (xs (8 * t + 1)) h hJ
  rw [hI0] at hag
  obtain ⟨x, b, c1, w1, S1, I1, K1, I2, K3, hl, h1, h2, h5, h6, h3⟩ := lWi hag hhA
  have h4 := hl.2.2.2.1
  have hc1 : 0 < c1 := by have := h4.1; omega
  have h01 : S1 0 = (100, L, f0) := by rw [hl.2.2.2.2.1, h0]
  have hL1 : L_law 64 (xs (8 * t + 1)) 594 (c, w, S, I, K) = pm_oI x (c1, w1, S1, I1, K1) := by
    unfold L_law
    rw [lc_64 h]
    exact h1
  unfold LC_2 L_law__j394
  simp only
  rw [sl (y := 1) hc h0 hx hL 1 rfl (by omega), hL1, ly_cI, sl (y := 1) hc1 h01 hl.2.2.2.2.2 hL 1 rfl (by omega), lc_108 h4, h2, ly_cI, lc_108 h4, th_M h4, ly_cI, if_pos h5]
  by_cases hx0 : x = 0
  · rw [if_pos hx0, show pm_ldL 594 0 (c1, w1, S1, I2, K3) = pm_ldL 594 (nI 0) (c1, w1, S1, I2, K3) from rfl, ld_594 h4 (by omega), h6 hx0, if_pos ((lg_cmp_eq _ _).mpr rfl)]
    exact nx_g hn h0 hcc hww hl h3
  · rw [if_neg hx0]
    exact nx_g hn h0 hcc hww hl h3
def LC_3 (l0 l1 l2 l3 : Nat) (again23 : (Int32 × pmM) → pmR) (s23 : Int32 × pmM) : pmR := (pm_ld 100 l0 (s23.1 + 1) s23.2 fun x45 => pm_cI (L_work l1 x45 l3 s23.2) fun x47 m46 => pm_ld 100 l0 (s23.1 + 1) m46 fun x48 => pm_rc 9 l2 m46 <| pm_cI (X9_work l2 x48 m46) fun x50 m49 => pm_rc 9 l2 m49 <| pm_cI (X9_thrown l2 m49) fun x52 m51 => if x52 = x47 then (if x47 = 0 then (pm_ldL l3 0 m51 fun x53 => if (lg_cmp x53 x50.toInt64) = 0 then (L_law__j450 again23 l0 l1 l2 l3 s23.1 m51) else (pm_oI 0 m51)) else (L_law__j450 again23 l0 l1 l2 l3 s23.1 m51)) else (pm_oI 0 m51))
theorem lc_3 {Rp : pmR → Prop} (hg : gd L f0 xs w0 t (c, w, S, I, K)) (hL : L ≤ 512) (ht : 8 * t + 8 ≤ L) (hn : nxt L f0 xs w0 t again Rp) : Rp (LC_3 0 64 108 594 again (nI (8 * t), (c, w, S, I, K))) := by
  obtain ⟨h, h0, hcc, hww, hx, n, wd, q, r, a, se, W, G, hJ⟩ := hg
  replace h : ly c S := h
  replace h0 : S 0 = (100, L, f0) := h0
  replace hcc : c ≤ 595 + t := hcc
  replace hww : w ≤ w0 + 6 * t := hww
  replace hx : ∀ j, I 0 j = xs j := hx
  replace hJ : JJ I n wd q r a se W G := hJ
  have hc : 0 < c := by have := h.1; omega
  have hI0 : I 0 = xs := funext hx
  have hag := ca_work (K := K) (w := w) (xs (8 * t + 1)) h hJ
  rw [hI0] at hag
  obtain ⟨x, b, c1, w1, S1, I1, K1, I2, K3, hl, h1, h2, h5, h6, h3⟩ := lWi hag hhA
  have h4 := hl.2.2.2.1
  have hc1 : 0 < c1 := by have := h4.1; omega
  have h01 : S1 0 = (100, L, f0) := by rw [hl.2.2.2.2.1, h0]
  have hL1 : L_work 64 (xs (8 * t + 1)) 594 (c, w, S, I, K) = pm_oI x (c1, w1, S1, I1, K1) := by
    unfold L_work
    rw [lc_64 h]
    exact h1
  unfold LC_3 L_law__j450
  simp only
  rw [sl (y := 1) hc h0 hx hL 1 rfl (by omega), hL1, ly_cI, sl (y := 1) hc1 h01 hl.2.2.2.2.2 hL 1 rfl (by omega), lc_108 h4, h2, ly_cI, lc_108 h4, th_M h4, ly_cI, if_pos h5]
  by_cases hx0 : x = 0
  · rw [if_pos hx0, show pm_ldL 594 0 (c1, w1, S1, I2, K3) = pm_ldL 594 (nI 0) (c1, w1, S1, I2, K3) from rfl, ld_594 h4 (by omega), h6 hx0, if_pos ((lg_cmp_eq _ _).mpr rfl)]
    exact nx_g hn h0 hcc hww hl h3
  · rw [if_neg hx0]
    exact nx_g hn h0 hcc hww hl h3
def LC_4 (l0 l1 l2 l3 : Nat) (again23 : (Int32 × pmM) → pmR) (s23 : Int32 × pmM) : pmR := (pm_ld 100 l0 (s23.1 + 1) s23.2 fun x54 => pm_cI (L_sentence l1 x54 l3 s23.2) fun x56 m55 => pm_ld 100 l0 (s23.1 + 1) m55 fun x57 => pm_rc 9 l2 m55 <| pm_cI (X9_sentence l2 x57 m55) fun x59 m58 => pm_rc 9 l2 m58 <| pm_cI (X9_thrown l2 m58) fun x61 m60 => if x61 = x56 then (if x56 = 0 then (pm_ldL l3 0 m60 fun x62 => if (lg_cmp x62 x59.toInt64) = 0 then (L_law__j506 again23 l0 l1 l2 l3 s23.1 m60) else (pm_oI 0 m60)) else (L_law__j506 again23 l0 l1 l2 l3 s23.1 m60)) else (pm_oI 0 m60))
theorem lc_4 {Rp : pmR → Prop} (hg : gd L f0 xs w0 t (c, w, S, I, K)) (hL : L ≤ 512) (ht : 8 * t + 8 ≤ L) (hn : nxt L f0 xs w0 t again Rp) : Rp (LC_4 0 64 108 594 again (nI (8 * t), (c, w, S, I, K))) := by
  obtain ⟨h, h0, hcc, hww, hx, n, wd, q, r, a, se, W, G, hJ⟩ := hg
  replace h : ly c S := h
  replace h0 : S 0 = (100, L, f0) := h0
  replace hcc : c ≤ 595 + t := hcc
  replace hww : w ≤ w0 + 6 * t := hww
  replace hx : ∀ j, I 0 j = xs j := hx
  replace hJ : JJ I n wd q r a se W G := hJ
  have hc : 0 < c := by have := h.1; omega
  have hI0 : I 0 = xs := funext hx
  have hag := ca_sentence (K := K) (w := w) (xs (8 * t + 1)) h hJ
  rw [hI0] at hag
  obtain ⟨x, b, c1, w1, S1, I1, K1, I2, K3, hl, h1, h2, h5, h6, h3⟩ := lWi hag hhA
  have h4 := hl.2.2.2.1
  have hc1 : 0 < c1 := by have := h4.1; omega
  have h01 : S1 0 = (100, L, f0) := by rw [hl.2.2.2.2.1, h0]
  have hL1 : L_sentence 64 (xs (8 * t + 1)) 594 (c, w, S, I, K) = pm_oI x (c1, w1, S1, I1, K1) := by
    unfold L_sentence
    rw [lc_64 h]
    exact h1
  unfold LC_4 L_law__j506
  simp only
  rw [sl (y := 1) hc h0 hx hL 1 rfl (by omega), hL1, ly_cI, sl (y := 1) hc1 h01 hl.2.2.2.2.2 hL 1 rfl (by omega), lc_108 h4, h2, ly_cI, lc_108 h4, th_M h4, ly_cI, if_pos h5]
  by_cases hx0 : x = 0
  · rw [if_pos hx0, show pm_ldL 594 0 (c1, w1, S1, I2, K3) = pm_ldL 594 (nI 0) (c1, w1, S1, I2, K3) from rfl, ld_594 h4 (by omega), h6 hx0, if_pos ((lg_cmp_eq _ _).mpr rfl)]
    exact nx_g hn h0 hcc hww hl h3
  · rw [if_neg hx0]
    exact nx_g hn h0 hcc hww hl h3
def LC_5 (l0 l1 l2 l3 : Nat) (again23 : (Int32 × pmM) → pmR) (s23 : Int32 × pmM) : pmR := (pm_rc 8 l1 s23.2 <| pm_cI (X8_fault l1 s23.2) fun x64 m63 => pm_rc 9 l2 m63 <| pm_cI (X9_fault l2 m63) fun x66 m65 => if x64 = x66 then (L_law__j2232 again23 l0 l1 l2 l3 s23.1 m65) else (pm_oI 0 m65))
theorem lc_5 {Rp : pmR → Prop} (hg : gd L f0 xs w0 t (c, w, S, I, K)) (hL : L ≤ 512) (ht : 8 * t + 8 ≤ L) (hn : nxt L f0 xs w0 t again Rp) : Rp (LC_5 0 64 108 594 again (nI (8 * t), (c, w, S, I, K))) := by
  obtain ⟨h, h0, hcc, hww, hx, n, wd, q, r, a, se, W, G, hJ⟩ := hg
  replace h : ly c S := h
  replace h0 : S 0 = (100, L, f0) := h0
  replace hcc : c ≤ 595 + t := hcc
  replace hww : w ≤ w0 + 6 * t := hww
  replace hx : ∀ j, I 0 j = xs j := hx
  replace hJ : JJ I n wd q r a se W G := hJ
  have hc : 0 < c := by have := h.1; omega
  have hI0 : I 0 = xs := funext hx
  have hag := ca_fault (K := K) (w := w)  h hJ
  rw [hI0] at hag
  obtain ⟨y, c1, w1, S1, I1, K1, I2, K3, hl, h1, h2, h3⟩ := lUi hag
  have h4 := hl.2.2.2.1
  have hc1 : 0 < c1 := by have := h4.1; omega
  have h01 : S1 0 = (100, L, f0) := by rw [hl.2.2.2.2.1, h0]
  unfold LC_5
  simp only
  rw [lc_64 h, h1, ly_cI, lc_108 h4, h2, ly_cI, if_pos rfl]
  exact nx_g hn h0 hcc hww hl h3
def LC_6 (l0 l1 l2 l3 : Nat) (again23 : (Int32 × pmM) → pmR) (s23 : Int32 × pmM) : pmR := (pm_rc 8 l1 s23.2 <| pm_cI (X8_undo l1 s23.2) fun x68 m67 => pm_rc 9 l2 m67 <| pm_cI (X9_undo l2 m67) fun x70 m69 => if x68 = x70 then (L_law__j2232 again23 l0 l1 l2 l3 s23.1 m69) else (pm_oI 0 m69))
theorem lc_6 {Rp : pmR → Prop} (hg : gd L f0 xs w0 t (c, w, S, I, K)) (hL : L ≤ 512) (ht : 8 * t + 8 ≤ L) (hn : nxt L f0 xs w0 t again Rp) : Rp (LC_6 0 64 108 594 again (nI (8 * t), (c, w, S, I, K))) := by
  obtain ⟨h, h0, hcc, hww, hx, n, wd, q, r, a, se, W, G, hJ⟩ := hg
  replace h : ly c S := h
  replace h0 : S 0 = (100, L, f0) := h0
  replace hcc : c ≤ 595 + t := hcc
  replace hww : w ≤ w0 + 6 * t := hww
  replace hx : ∀ j, I 0 j = xs j := hx
  replace hJ : JJ I n wd q r a se W G := hJ
  have hc : 0 < c := by have := h.1; omega
  have hI0 : I 0 = xs := funext hx
  have hag := ca_undo (K := K) (w := w)  h hJ
  rw [hI0] at hag
  obtain ⟨y, c1, w1, S1, I1, K1, I2, K3, hl, h1, h2, h3⟩ := lUi hag
  have h4 := hl.2.2.2.1
  have hc1 : 0 < c1 := by have := h4.1; omega
  have h01 : S1 0 = (100, L, f0) := by rw [hl.2.2.2.2.1, h0]
  unfold LC_6
  simp only
  rw [lc_64 h, h1, ly_cI, lc_108 h4, h2, ly_cI, if_pos rfl]
  exact nx_g hn h0 hcc hww hl h3
def LC_7 (l0 l1 l2 l3 : Nat) (again23 : (Int32 × pmM) → pmR) (s23 : Int32 × pmM) : pmR := (pm_ld 100 l0 (s23.1 + 1) s23.2 fun x71 => pm_cI (L_told l1 x71 l3 s23.2) fun x73 m72 => pm_ld 100 l0 (s23.1 + 1) m72 fun x74 => pm_rc 9 l2 m72 <| pm_cI (X9_told l2 x74 m72) fun x76 m75 => pm_rc 9 l2 m75 <| pm_cI (X9_thrown l2 m75) fun x78 m77 => if x78 = x73 then (if x73 = 0 then (pm_ldL l3 0 m77 fun x79 => if (lg_cmp x79 x76.toInt64) = 0 then (L_law__j588 again23 l0 l1 l2 l3 s23.1 m77) else (pm_oI 0 m77)) else (L_law__j588 again23 l0 l1 l2 l3 s23.1 m77)) else (pm_oI 0 m77))
theorem lc_7 {Rp : pmR → Prop} (hg : gd L f0 xs w0 t (c, w, S, I, K)) (hL : L ≤ 512) (ht : 8 * t + 8 ≤ L) (hn : nxt L f0 xs w0 t again Rp) : Rp (LC_7 0 64 108 594 again (nI (8 * t), (c, w, S, I, K))) := by
  obtain ⟨h, h0, hcc, hww, hx, n, wd, q, r, a, se, W, G, hJ⟩ := hg
  replace h : ly c S := h
  replace h0 : S 0 = (100, L, f0) := h0
  replace hcc : c ≤ 595 + t := hcc
  replace hww : w ≤ w0 + 6 * t := hww
  replace hx : ∀ j, I 0 j = xs j := hx
  replace hJ : JJ I n wd q r a se W G := hJ
  have hc : 0 < c := by have := h.1; omega
  have hI0 : I 0 = xs := funext hx
  have hag := ca_told (K := K) (w := w) (xs (8 * t + 1)) h hJ
  rw [hI0] at hag
  obtain ⟨x, b, c1, w1, S1, I1, K1, I2, K3, hl, h1, h2, h5, h6, h3⟩ := lWi hag hhA
  have h4 := hl.2.2.2.1
  have hc1 : 0 < c1 := by have := h4.1; omega
  have h01 : S1 0 = (100, L, f0) := by rw [hl.2.2.2.2.1, h0]
  have hL1 : L_told 64 (xs (8 * t + 1)) 594 (c, w, S, I, K) = pm_oI x (c1, w1, S1, I1, K1) := by
    unfold L_told
    rw [lc_64 h]
    exact h1
  unfold LC_7 L_law__j588
  simp only
  rw [sl (y := 1) hc h0 hx hL 1 rfl (by omega), hL1, ly_cI, sl (y := 1) hc1 h01 hl.2.2.2.2.2 hL 1 rfl (by omega), lc_108 h4, h2, ly_cI, lc_108 h4, th_M h4, ly_cI, if_pos h5]
  by_cases hx0 : x = 0
  · rw [if_pos hx0, show pm_ldL 594 0 (c1, w1, S1, I2, K3) = pm_ldL 594 (nI 0) (c1, w1, S1, I2, K3) from rfl, ld_594 h4 (by omega), h6 hx0, if_pos ((lg_cmp_eq _ _).mpr rfl)]
    exact nx_g hn h0 hcc hww hl h3
  · rw [if_neg hx0]
    exact nx_g hn h0 hcc hww hl h3
def LC_8 (l0 l1 l2 l3 : Nat) (again23 : (Int32 × pmM) → pmR) (s23 : Int32 × pmM) : pmR := (pm_ld 100 l0 (s23.1 + 1) s23.2 fun x80 => pm_ld 100 l0 (s23.1 + 2) s23.2 fun x81 => pm_cI (L_line l1 x80 x81 l3 s23.2) fun x83 m82 => pm_ld 100 l0 (s23.1 + 1) m82 fun x84 => pm_ld 100 l0 (s23.1 + 2) m82 fun x85 => pm_rc 9 l2 m82 <| pm_cI (X9_line l2 x84 x85 m82) fun x87 m86 => pm_rc 9 l2 m86 <| pm_cI (X9_thrown l2 m86) fun x89 m88 => if x89 = x83 then (if x83 = 0 then (pm_ldL l3 0 m88 fun x90 => if (lg_cmp x90 x87.toInt64) = 0 then (L_law__j656 again23 l0 l1 l2 l3 s23.1 m88) else (pm_oI 0 m88)) else (L_law__j656 again23 l0 l1 l2 l3 s23.1 m88)) else (pm_oI 0 m88))
theorem lc_8 {Rp : pmR → Prop} (hg : gd L f0 xs w0 t (c, w, S, I, K)) (hL : L ≤ 512) (ht : 8 * t + 8 ≤ L) (hn : nxt L f0 xs w0 t again Rp) : Rp (LC_8 0 64 108 594 again (nI (8 * t), (c, w, S, I, K))) := by
  obtain ⟨h, h0, hcc, hww, hx, n, wd, q, r, a, se, W, G, hJ⟩ := hg
  replace h : ly c S := h
  replace h0 : S 0 = (100, L, f0) := h0
  replace hcc : c ≤ 595 + t := hcc
  replace hww : w ≤ w0 + 6 * t := hww
  replace hx : ∀ j, I 0 j = xs j := hx
  replace hJ : JJ I n wd q r a se W G := hJ
  have hc : 0 < c := by have := h.1; omega
  have hI0 : I 0 = xs := funext hx
  have hag := ca_line (K := K) (w := w) (xs (8 * t + 1)) (xs (8 * t + 2)) h hJ
  rw [hI0] at hag
  obtain ⟨x, b, c1, w1, S1, I1, K1, I2, K3, hl, h1, h2, h5, h6, h3⟩ := lWi hag hhB
  have h4 := hl.2.2.2.1
  have hc1 : 0 < c1 := by have := h4.1; omega
  have h01 : S1 0 = (100, L, f0) := by rw [hl.2.2.2.2.1, h0]
  have hL1 : L_line 64 (xs (8 * t + 1)) (xs (8 * t + 2)) 594 (c, w, S, I, K) = pm_oI x (c1, w1, S1, I1, K1) := by
    unfold L_line
    rw [lc_64 h]
    exact h1
  unfold LC_8 L_law__j656
  simp only
  rw [sl (y := 1) hc h0 hx hL 1 rfl (by omega), sl (y := 2) hc h0 hx hL 2 rfl (by omega), hL1, ly_cI, sl (y := 1) hc1 h01 hl.2.2.2.2.2 hL 1 rfl (by omega), sl (y := 2) hc1 h01 hl.2.2.2.2.2 hL 2 rfl (by omega), lc_108 h4, h2, ly_cI, lc_108 h4, th_M h4, ly_cI, if_pos h5]
  by_cases hx0 : x = 0
  · rw [if_pos hx0, show pm_ldL 594 0 (c1, w1, S1, I2, K3) = pm_ldL 594 (nI 0) (c1, w1, S1, I2, K3) from rfl, ld_594 h4 (by omega), h6 hx0, if_pos ((lg_cmp_eq _ _).mpr rfl)]
    exact nx_g hn h0 hcc hww hl h3
  · rw [if_neg hx0]
    exact nx_g hn h0 hcc hww hl h3
def LC_9 (l0 l1 l2 l3 : Nat) (again23 : (Int32 × pmM) → pmR) (s23 : Int32 × pmM) : pmR := (pm_ld 100 l0 (s23.1 + 1) s23.2 fun x91 => pm_ld 100 l0 (s23.1 + 2) s23.2 fun x92 => pm_ld 100 l0 (s23.1 + 3) s23.2 fun x93 => pm_cI (L_word l1 x91 x92 x93 l3 s23.2) fun x95 m94 => pm_ld 100 l0 (s23.1 + 1) m94 fun x96 => pm_ld 100 l0 (s23.1 + 2) m94 fun x97 => pm_ld 100 l0 (s23.1 + 3) m94 fun x98 => pm_rc 9 l2 m94 <| pm_cI (X9_word l2 x96 x97 x98 m94) fun x100 m99 => pm_rc 9 l2 m99 <| pm_cI (X9_thrown l2 m99) fun x102 m101 => if x102 = x95 then (if x95 = 0 then (pm_ldL l3 0 m101 fun x103 => if (lg_cmp x103 x100.toInt64) = 0 then (L_law__j736 again23 l0 l1 l2 l3 s23.1 m101) else (pm_oI 0 m101)) else (L_law__j736 again23 l0 l1 l2 l3 s23.1 m101)) else (pm_oI 0 m101))
theorem lc_9 {Rp : pmR → Prop} (hg : gd L f0 xs w0 t (c, w, S, I, K)) (hL : L ≤ 512) (ht : 8 * t + 8 ≤ L) (hn : nxt L f0 xs w0 t again Rp) : Rp (LC_9 0 64 108 594 again (nI (8 * t), (c, w, S, I, K))) := by
  obtain ⟨h, h0, hcc, hww, hx, n, wd, q, r, a, se, W, G, hJ⟩ := hg
  replace h : ly c S := h
  replace h0 : S 0 = (100, L, f0) := h0
  replace hcc : c ≤ 595 + t := hcc
  replace hww : w ≤ w0 + 6 * t := hww
  replace hx : ∀ j, I 0 j = xs j := hx
  replace hJ : JJ I n wd q r a se W G := hJ
  have hc : 0 < c := by have := h.1; omega
  have hI0 : I 0 = xs := funext hx
  have hag := ca_word (K := K) (w := w) (xs (8 * t + 1)) (xs (8 * t + 2)) (xs (8 * t + 3)) h hJ
  rw [hI0] at hag
  obtain ⟨x, b, c1, w1, S1, I1, K1, I2, K3, hl, h1, h2, h5, h6, h3⟩ := lWi hag hhB
  have h4 := hl.2.2.2.1
  have hc1 : 0 < c1 := by have := h4.1; omega
  have h01 : S1 0 = (100, L, f0) := by rw [hl.2.2.2.2.1, h0]
  have hL1 : L_word 64 (xs (8 * t + 1)) (xs (8 * t + 2)) (xs (8 * t + 3)) 594 (c, w, S, I, K) = pm_oI x (c1, w1, S1, I1, K1) := by
    unfold L_word
    rw [lc_64 h]
    exact h1
  unfold LC_9 L_law__j736
  simp only
  rw [sl (y := 1) hc h0 hx hL 1 rfl (by omega), sl (y := 2) hc h0 hx hL 2 rfl (by omega), sl (y := 3) hc h0 hx hL 3 rfl (by omega), hL1, ly_cI, sl (y := 1) hc1 h01 hl.2.2.2.2.2 hL 1 rfl (by omega), sl (y := 2) hc1 h01 hl.2.2.2.2.2 hL 2 rfl (by omega), sl (y := 3) hc1 h01 hl.2.2.2.2.2 hL 3 rfl (by omega), lc_108 h4, h2, ly_cI, lc_108 h4, th_M h4, ly_cI, if_pos h5]
  by_cases hx0 : x = 0
  · rw [if_pos hx0, show pm_ldL 594 0 (c1, w1, S1, I2, K3) = pm_ldL 594 (nI 0) (c1, w1, S1, I2, K3) from rfl, ld_594 h4 (by omega), h6 hx0, if_pos ((lg_cmp_eq _ _).mpr rfl)]
    exact nx_g hn h0 hcc hww hl h3
  · rw [if_neg hx0]
    exact nx_g hn h0 hcc hww hl h3
def LC_10 (l0 l1 l2 l3 : Nat) (again23 : (Int32 × pmM) → pmR) (s23 : Int32 × pmM) : pmR := (pm_ld 100 l0 (s23.1 + 1) s23.2 fun x104 => pm_cI (L_reads l1 x104 l3 s23.2) fun x106 m105 => pm_ld 100 l0 (s23.1 + 1) m105 fun x107 => pm_rc 9 l2 m105 <| pm_cI (X9_reads l2 x107 m105) fun x109 m108 => pm_rc 9 l2 m108 <| pm_cI (X9_thrown l2 m108) fun x111 m110 => if x111 = x106 then (if x106 = 0 then (pm_ldL l3 0 m110 fun x112 => if (lg_cmp x112 x109.toInt64) = 0 then (L_law__j792 again23 l0 l1 l2 l3 s23.1 m110) else (pm_oI 0 m110)) else (L_law__j792 again23 l0 l1 l2 l3 s23.1 m110)) else (pm_oI 0 m110))
theorem lc_10 {Rp : pmR → Prop} (hg : gd L f0 xs w0 t (c, w, S, I, K)) (hL : L ≤ 512) (ht : 8 * t + 8 ≤ L) (hn : nxt L f0 xs w0 t again Rp) : Rp (LC_10 0 64 108 594 again (nI (8 * t), (c, w, S, I, K))) := by
  obtain ⟨h, h0, hcc, hww, hx, n, wd, q, r, a, se, W, G, hJ⟩ := hg
  replace h : ly c S := h
  replace h0 : S 0 = (100, L, f0) := h0
  replace hcc : c ≤ 595 + t := hcc
  replace hww : w ≤ w0 + 6 * t := hww
  replace hx : ∀ j, I 0 j = xs j := hx
  replace hJ : JJ I n wd q r a se W G := hJ
  have hc : 0 < c := by have := h.1; omega
  have hI0 : I 0 = xs := funext hx
  have hag := ca_reads (K := K) (w := w) (xs (8 * t + 1)) h hJ
  rw [hI0] at hag
  obtain ⟨x, b, c1, w1, S1, I1, K1, I2, K3, hl, h1, h2, h5, h6, h3⟩ := lWi hag hhA
  have h4 := hl.2.2.2.1
  have hc1 : 0 < c1 := by have := h4.1; omega
  have h01 : S1 0 = (100, L, f0) := by rw [hl.2.2.2.2.1, h0]
  have hL1 : L_reads 64 (xs (8 * t + 1)) 594 (c, w, S, I, K) = pm_oI x (c1, w1, S1, I1, K1) := by
    unfold L_reads
    rw [lc_64 h]
    exact h1
  unfold LC_10 L_law__j792
  simp only
  rw [sl (y := 1) hc h0 hx hL 1 rfl (by omega), hL1, ly_cI, sl (y := 1) hc1 h01 hl.2.2.2.2.2 hL 1 rfl (by omega), lc_108 h4, h2, ly_cI, lc_108 h4, th_M h4, ly_cI, if_pos h5]
  by_cases hx0 : x = 0
  · rw [if_pos hx0, show pm_ldL 594 0 (c1, w1, S1, I2, K3) = pm_ldL 594 (nI 0) (c1, w1, S1, I2, K3) from rfl, ld_594 h4 (by omega), h6 hx0, if_pos ((lg_cmp_eq _ _).mpr rfl)]
    exact nx_g hn h0 hcc hww hl h3
  · rw [if_neg hx0]
    exact nx_g hn h0 hcc hww hl h3
def LC_11 (l0 l1 l2 l3 : Nat) (again23 : (Int32 × pmM) → pmR) (s23 : Int32 × pmM) : pmR := (pm_ld 100 l0 (s23.1 + 1) s23.2 fun x113 => pm_cI (L_cell l1 x113 l3 s23.2) fun x115 m114 => pm_ld 100 l0 (s23.1 + 1) m114 fun x116 => pm_rc 9 l2 m114 <| pm_cI (X9_cell l2 x116 m114) fun x118 m117 => pm_rc 9 l2 m117 <| pm_cI (X9_thrown l2 m117) fun x120 m119 => if x120 = x115 then (if x115 = 0 then (pm_ldL l3 0 m119 fun x121 => if (lg_cmp x121 x118.toInt64) = 0 then (L_law__j848 again23 l0 l1 l2 l3 s23.1 m119) else (pm_oI 0 m119)) else (L_law__j848 again23 l0 l1 l2 l3 s23.1 m119)) else (pm_oI 0 m119))
theorem lc_11 {Rp : pmR → Prop} (hg : gd L f0 xs w0 t (c, w, S, I, K)) (hL : L ≤ 512) (ht : 8 * t + 8 ≤ L) (hn : nxt L f0 xs w0 t again Rp) : Rp (LC_11 0 64 108 594 again (nI (8 * t), (c, w, S, I, K))) := by
  obtain ⟨h, h0, hcc, hww, hx, n, wd, q, r, a, se, W, G, hJ⟩ := hg
  replace h : ly c S := h
  replace h0 : S 0 = (100, L, f0) := h0
  replace hcc : c ≤ 595 + t := hcc
  replace hww : w ≤ w0 + 6 * t := hww
  replace hx : ∀ j, I 0 j = xs j := hx
  replace hJ : JJ I n wd q r a se W G := hJ
  have hc : 0 < c := by have := h.1; omega
  have hI0 : I 0 = xs := funext hx
  have hag := ca_cell (K := K) (w := w) (xs (8 * t + 1)) h hJ
  rw [hI0] at hag
  obtain ⟨x, b, c1, w1, S1, I1, K1, I2, K3, hl, h1, h2, h5, h6, h3⟩ := lWi hag hhA
  have h4 := hl.2.2.2.1
  have hc1 : 0 < c1 := by have := h4.1; omega
  have h01 : S1 0 = (100, L, f0) := by rw [hl.2.2.2.2.1, h0]
  have hL1 : L_cell 64 (xs (8 * t + 1)) 594 (c, w, S, I, K) = pm_oI x (c1, w1, S1, I1, K1) := by
    unfold L_cell
    rw [lc_64 h]
    exact h1
  unfold LC_11 L_law__j848
  simp only
  rw [sl (y := 1) hc h0 hx hL 1 rfl (by omega), hL1, ly_cI, sl (y := 1) hc1 h01 hl.2.2.2.2.2 hL 1 rfl (by omega), lc_108 h4, h2, ly_cI, lc_108 h4, th_M h4, ly_cI, if_pos h5]
  by_cases hx0 : x = 0
  · rw [if_pos hx0, show pm_ldL 594 0 (c1, w1, S1, I2, K3) = pm_ldL 594 (nI 0) (c1, w1, S1, I2, K3) from rfl, ld_594 h4 (by omega), h6 hx0, if_pos ((lg_cmp_eq _ _).mpr rfl)]
    exact nx_g hn h0 hcc hww hl h3
  · rw [if_neg hx0]
    exact nx_g hn h0 hcc hww hl h3
def LC_12 (l0 l1 l2 l3 : Nat) (again23 : (Int32 × pmM) → pmR) (s23 : Int32 × pmM) : pmR := (pm_ld 100 l0 (s23.1 + 1) s23.2 fun x122 => pm_ld 100 l0 (s23.1 + 2) s23.2 fun x123 => pm_ld 100 l0 (s23.1 + 3) s23.2 fun x124 => pm_cI (L_cost l1 x122 x123 x124 l3 s23.2) fun x126 m125 => pm_ld 100 l0 (s23.1 + 1) m125 fun x127 => pm_ld 100 l0 (s23.1 + 2) m125 fun x128 => pm_ld 100 l0 (s23.1 + 3) m125 fun x129 => pm_rc 9 l2 m125 <| pm_cI (X9_cost l2 x127 x128 x129 m125) fun x131 m130 => pm_rc 9 l2 m130 <| pm_cI (X9_thrown l2 m130) fun x133 m132 => if x133 = x126 then (if x126 = 0 then (pm_ldL l3 0 m132 fun x134 => if (lg_cmp x134 x131.toInt64) = 0 then (L_law__j928 again23 l0 l1 l2 l3 s23.1 m132) else (pm_oI 0 m132)) else (L_law__j928 again23 l0 l1 l2 l3 s23.1 m132)) else (pm_oI 0 m132))
theorem lc_12 {Rp : pmR → Prop} (hg : gd L f0 xs w0 t (c, w, S, I, K)) (hL : L ≤ 512) (ht : 8 * t + 8 ≤ L) (hn : nxt L f0 xs w0 t again Rp) : Rp (LC_12 0 64 108 594 again (nI (8 * t), (c, w, S, I, K))) := by
  obtain ⟨h, h0, hcc, hww, hx, n, wd, q, r, a, se, W, G, hJ⟩ := hg
  replace h : ly c S := h
  replace h0 : S 0 = (100, L, f0) := h0
  replace hcc : c ≤ 595 + t := hcc
  replace hww : w ≤ w0 + 6 * t := hww
  replace hx : ∀ j, I 0 j = xs j := hx
  replace hJ : JJ I n wd q r a se W G := hJ
  have hc : 0 < c := by have := h.1; omega
  have hI0 : I 0 = xs := funext hx
  have hag := ca_cost (K := K) (w := w) (xs (8 * t + 1)) (xs (8 * t + 2)) (xs (8 * t + 3)) h hJ
  rw [hI0] at hag
  obtain ⟨x, b, c1, w1, S1, I1, K1, I2, K3, hl, h1, h2, h5, h6, h3⟩ := lWi hag hhB
  have h4 := hl.2.2.2.1
  have hc1 : 0 < c1 := by have := h4.1; omega
  have h01 : S1 0 = (100, L, f0) := by rw [hl.2.2.2.2.1, h0]
  have hL1 : L_cost 64 (xs (8 * t + 1)) (xs (8 * t + 2)) (xs (8 * t + 3)) 594 (c, w, S, I, K) = pm_oI x (c1, w1, S1, I1, K1) := by
    unfold L_cost
    rw [lc_64 h]
    exact h1
  unfold LC_12 L_law__j928
  simp only
  rw [sl (y := 1) hc h0 hx hL 1 rfl (by omega), sl (y := 2) hc h0 hx hL 2 rfl (by omega), sl (y := 3) hc h0 hx hL 3 rfl (by omega), hL1, ly_cI, sl (y := 1) hc1 h01 hl.2.2.2.2.2 hL 1 rfl (by omega), sl (y := 2) hc1 h01 hl.2.2.2.2.2 hL 2 rfl (by omega), sl (y := 3) hc1 h01 hl.2.2.2.2.2 hL 3 rfl (by omega), lc_108 h4, h2, ly_cI, lc_108 h4, th_M h4, ly_cI, if_pos h5]
  by_cases hx0 : x = 0
  · rw [if_pos hx0, show pm_ldL 594 0 (c1, w1, S1, I2, K3) = pm_ldL 594 (nI 0) (c1, w1, S1, I2, K3) from rfl, ld_594 h4 (by omega), h6 hx0, if_pos ((lg_cmp_eq _ _).mpr rfl)]
    exact nx_g hn h0 hcc hww hl h3
  · rw [if_neg hx0]
    exact nx_g hn h0 hcc hww hl h3
def LC_13 (l0 l1 l2 l3 : Nat) (again23 : (Int32 × pmM) → pmR) (s23 : Int32 × pmM) : pmR := (pm_ld 100 l0 (s23.1 + 1) s23.2 fun x135 => pm_ld 100 l0 (s23.1 + 2) s23.2 fun x136 => pm_ld 100 l0 (s23.1 + 3) s23.2 fun x137 => pm_ld 100 l0 (s23.1 + 4) s23.2 fun x138 => pm_ld 100 l0 (s23.1 + 5) s23.2 fun x139 => pm_ld 100 l0 (s23.1 + 6) s23.2 fun x140 => pm_ld 100 l0 (s23.1 + 7) s23.2 fun x141 => pm_cI (L_would l1 x135 x136 x137 x138 x139 x140 x141 l3 s23.2) fun x143 m142 => pm_ld 100 l0 (s23.1 + 1) m142 fun x144 => pm_ld 100 l0 (s23.1 + 2) m142 fun x145 => pm_ld 100 l0 (s23.1 + 3) m142 fun x146 => pm_ld 100 l0 (s23.1 + 4) m142 fun x147 => pm_ld 100 l0 (s23.1 + 5) m142 fun x148 => pm_ld 100 l0 (s23.1 + 6) m142 fun x149 => pm_ld 100 l0 (s23.1 + 7) m142 fun x150 => pm_rc 9 l2 m142 <| pm_cI (X9_would l2 x144 x145 x146 x147 x148 x149 x150 m142) fun x152 m151 => pm_rc 9 l2 m151 <| pm_cI (X9_thrown l2 m151) fun x154 m153 => if x154 = x143 then (if x143 = 0 then (pm_ldL l3 0 m153 fun x155 => if (lg_cmp x155 x152.toInt64) = 0 then (L_law__j1060 again23 l0 l1 l2 l3 s23.1 m153) else (pm_oI 0 m153)) else (L_law__j1060 again23 l0 l1 l2 l3 s23.1 m153)) else (pm_oI 0 m153))
theorem lc_13 {Rp : pmR → Prop} (hg : gd L f0 xs w0 t (c, w, S, I, K)) (hL : L ≤ 512) (ht : 8 * t + 8 ≤ L) (hn : nxt L f0 xs w0 t again Rp) : Rp (LC_13 0 64 108 594 again (nI (8 * t), (c, w, S, I, K))) := by
  obtain ⟨h, h0, hcc, hww, hx, n, wd, q, r, a, se, W, G, hJ⟩ := hg
  replace h : ly c S := h
  replace h0 : S 0 = (100, L, f0) := h0
  replace hcc : c ≤ 595 + t := hcc
  replace hww : w ≤ w0 + 6 * t := hww
  replace hx : ∀ j, I 0 j = xs j := hx
  replace hJ : JJ I n wd q r a se W G := hJ
  have hc : 0 < c := by have := h.1; omega
  have hI0 : I 0 = xs := funext hx
  have hag := ca_would (K := K) (w := w) (xs (8 * t + 1)) (xs (8 * t + 2)) (xs (8 * t + 3)) (xs (8 * t + 4)) (xs (8 * t + 5)) (xs (8 * t + 6)) (xs (8 * t + 7)) h hJ
  rw [hI0] at hag
  obtain ⟨x, b, c1, w1, S1, I1, K1, I2, K3, hl, h1, h2, h5, h6, h3⟩ := lWi hag hhA
  have h4 := hl.2.2.2.1
  have hc1 : 0 < c1 := by have := h4.1; omega
  have h01 : S1 0 = (100, L, f0) := by rw [hl.2.2.2.2.1, h0]
  have hL1 : L_would 64 (xs (8 * t + 1)) (xs (8 * t + 2)) (xs (8 * t + 3)) (xs (8 * t + 4)) (xs (8 * t + 5)) (xs (8 * t + 6)) (xs (8 * t + 7)) 594 (c, w, S, I, K) = pm_oI x (c1, w1, S1, I1, K1) := by
    unfold L_would
    rw [lc_64 h]
    exact h1
  unfold LC_13 L_law__j1060
  simp only
  rw [sl (y := 1) hc h0 hx hL 1 rfl (by omega), sl (y := 2) hc h0 hx hL 2 rfl (by omega), sl (y := 3) hc h0 hx hL 3 rfl (by omega), sl (y := 4) hc h0 hx hL 4 rfl (by omega), sl (y := 5) hc h0 hx hL 5 rfl (by omega), sl (y := 6) hc h0 hx hL 6 rfl (by omega), sl (y := 7) hc h0 hx hL 7 rfl (by omega), hL1, ly_cI, sl (y := 1) hc1 h01 hl.2.2.2.2.2 hL 1 rfl (by omega), sl (y := 2) hc1 h01 hl.2.2.2.2.2 hL 2 rfl (by omega), sl (y := 3) hc1 h01 hl.2.2.2.2.2 hL 3 rfl (by omega), sl (y := 4) hc1 h01 hl.2.2.2.2.2 hL 4 rfl (by omega), sl (y := 5) hc1 h01 hl.2.2.2.2.2 hL 5 rfl (by omega), sl (y := 6) hc1 h01 hl.2.2.2.2.2 hL 6 rfl (by omega), sl (y := 7) hc1 h01 hl.2.2.2.2.2 hL 7 rfl (by omega), lc_108 h4, h2, ly_cI, lc_108 h4, th_M h4, ly_cI, if_pos h5]
  by_cases hx0 : x = 0
  · rw [if_pos hx0, show pm_ldL 594 0 (c1, w1, S1, I2, K3) = pm_ldL 594 (nI 0) (c1, w1, S1, I2, K3) from rfl, ld_594 h4 (by omega), h6 hx0, if_pos ((lg_cmp_eq _ _).mpr rfl)]
    exact nx_g hn h0 hcc hww hl h3
  · rw [if_neg hx0]
    exact nx_g hn h0 hcc hww hl h3
def LC_14 (l0 l1 l2 l3 : Nat) (again23 : (Int32 × pmM) → pmR) (s23 : Int32 × pmM) : pmR := (pm_ld 100 l0 (s23.1 + 1) s23.2 fun x156 => pm_ld 100 l0 (s23.1 + 2) s23.2 fun x157 => pm_cI (L_ahead l1 x156 x157 l3 s23.2) fun x159 m158 => pm_ld 100 l0 (s23.1 + 1) m158 fun x160 => pm_ld 100 l0 (s23.1 + 2) m158 fun x161 => pm_rc 9 l2 m158 <| pm_cI (X9_ahead l2 x160 x161 m158) fun x163 m162 => pm_rc 9 l2 m162 <| pm_cI (X9_thrown l2 m162) fun x165 m164 => if x165 = x159 then (if x159 = 0 then (pm_ldL l3 0 m164 fun x166 => if (lg_cmp x166 x163.toInt64) = 0 then (L_law__j1128 again23 l0 l1 l2 l3 s23.1 m164) else (pm_oI 0 m164)) else (L_law__j1128 again23 l0 l1 l2 l3 s23.1 m164)) else (pm_oI 0 m164))
theorem lc_14 {Rp : pmR → Prop} (hg : gd L f0 xs w0 t (c, w, S, I, K)) (hL : L ≤ 512) (ht : 8 * t + 8 ≤ L) (hn : nxt L f0 xs w0 t again Rp) : Rp (LC_14 0 64 108 594 again (nI (8 * t), (c, w, S, I, K))) := by
  obtain ⟨h, h0, hcc, hww, hx, n, wd, q, r, a, se, W, G, hJ⟩ := hg
  replace h : ly c S := h
  replace h0 : S 0 = (100, L, f0) := h0
  replace hcc : c ≤ 595 + t := hcc
  replace hww : w ≤ w0 + 6 * t := hww
  replace hx : ∀ j, I 0 j = xs j := hx
  replace hJ : JJ I n wd q r a se W G := hJ
  have hc : 0 < c := by have := h.1; omega
  have hI0 : I 0 = xs := funext hx
  have hag := ca_ahead (K := K) (w := w) (xs (8 * t + 1)) (xs (8 * t + 2)) h hJ
  rw [hI0] at hag
  obtain ⟨x, b, c1, w1, S1, I1, K1, I2, K3, hl, h1, h2, h5, h6, h3⟩ := lWi hag hhA
  have h4 := hl.2.2.2.1
  have hc1 : 0 < c1 := by have := h4.1; omega
  have h01 : S1 0 = (100, L, f0) := by rw [hl.2.2.2.2.1, h0]
  have hL1 : L_ahead 64 (xs (8 * t + 1)) (xs (8 * t + 2)) 594 (c, w, S, I, K) = pm_oI x (c1, w1, S1, I1, K1) := by
    unfold L_ahead
    rw [lc_64 h]
    exact h1
  unfold LC_14 L_law__j1128
  simp only
  rw [sl (y := 1) hc h0 hx hL 1 rfl (by omega), sl (y := 2) hc h0 hx hL 2 rfl (by omega), hL1, ly_cI, sl (y := 1) hc1 h01 hl.2.2.2.2.2 hL 1 rfl (by omega), sl (y := 2) hc1 h01 hl.2.2.2.2.2 hL 2 rfl (by omega), lc_108 h4, h2, ly_cI, lc_108 h4, th_M h4, ly_cI, if_pos h5]
  by_cases hx0 : x = 0
  · rw [if_pos hx0, show pm_ldL 594 0 (c1, w1, S1, I2, K3) = pm_ldL 594 (nI 0) (c1, w1, S1, I2, K3) from rfl, ld_594 h4 (by omega), h6 hx0, if_pos ((lg_cmp_eq _ _).mpr rfl)]
    exact nx_g hn h0 hcc hww hl h3
  · rw [if_neg hx0]
    exact nx_g hn h0 hcc hww hl h3
def LC_15 (l0 l1 l2 l3 : Nat) (again23 : (Int32 × pmM) → pmR) (s23 : Int32 × pmM) : pmR := (pm_rc 8 l1 s23.2 <| pm_cI (X8_ends l1 s23.2) fun x168 m167 => pm_rc 9 l2 m167 <| pm_cI (X9_ends l2 m167) fun x170 m169 => if x168 = x170 then (L_law__j2232 again23 l0 l1 l2 l3 s23.1 m169) else (pm_oI 0 m169))
theorem lc_15 {Rp : pmR → Prop} (hg : gd L f0 xs w0 t (c, w, S, I, K)) (hL : L ≤ 512) (ht : 8 * t + 8 ≤ L) (hn : nxt L f0 xs w0 t again Rp) : Rp (LC_15 0 64 108 594 again (nI (8 * t), (c, w, S, I, K))) := by
  obtain ⟨h, h0, hcc, hww, hx, n, wd, q, r, a, se, W, G, hJ⟩ := hg
  replace h : ly c S := h
  replace h0 : S 0 = (100, L, f0) := h0
  replace hcc : c ≤ 595 + t := hcc
  replace hww : w ≤ w0 + 6 * t := hww
  replace hx : ∀ j, I 0 j = xs j := hx
  replace hJ : JJ I n wd q r a se W G := hJ
  have hc : 0 < c := by have := h.1; omega
  have hI0 : I 0 = xs := funext hx
  have hag := ca_ends (K := K) (w := w)  h hJ
  rw [hI0] at hag
  obtain ⟨y, c1, w1, S1, I1, K1, I2, K3, hl, h1, h2, h3⟩ := lUi hag
  have h4 := hl.2.2.2.1
  have hc1 : 0 < c1 := by have := h4.1; omega
  have h01 : S1 0 = (100, L, f0) := by rw [hl.2.2.2.2.1, h0]
  unfold LC_15
  simp only
  rw [lc_64 h, h1, ly_cI, lc_108 h4, h2, ly_cI, if_pos rfl]
  exact nx_g hn h0 hcc hww hl h3
def LC_16 (l0 l1 l2 l3 : Nat) (again23 : (Int32 × pmM) → pmR) (s23 : Int32 × pmM) : pmR := (pm_rc 8 l1 s23.2 <| pm_cI (X8_says l1 s23.2) fun x172 m171 => pm_rc 9 l2 m171 <| pm_cI (X9_says l2 m171) fun x174 m173 => if x172 = x174 then (L_law__j2232 again23 l0 l1 l2 l3 s23.1 m173) else (pm_oI 0 m173))
theorem lc_16 {Rp : pmR → Prop} (hg : gd L f0 xs w0 t (c, w, S, I, K)) (hL : L ≤ 512) (ht : 8 * t + 8 ≤ L) (hn : nxt L f0 xs w0 t again Rp) : Rp (LC_16 0 64 108 594 again (nI (8 * t), (c, w, S, I, K))) := by
  obtain ⟨h, h0, hcc, hww, hx, n, wd, q, r, a, se, W, G, hJ⟩ := hg
  replace h : ly c S := h
  replace h0 : S 0 = (100, L, f0) := h0
  replace hcc : c ≤ 595 + t := hcc
  replace hww : w ≤ w0 + 6 * t := hww
  replace hx : ∀ j, I 0 j = xs j := hx
  replace hJ : JJ I n wd q r a se W G := hJ
  have hc : 0 < c := by have := h.1; omega
  have hI0 : I 0 = xs := funext hx
  have hag := ca_says (K := K) (w := w)  h hJ
  rw [hI0] at hag
  obtain ⟨y, c1, w1, S1, I1, K1, I2, K3, hl, h1, h2, h3⟩ := lUi hag
  have h4 := hl.2.2.2.1
  have hc1 : 0 < c1 := by have := h4.1; omega
  have h01 : S1 0 = (100, L, f0) := by rw [hl.2.2.2.2.1, h0]
  unfold LC_16
  simp only
  rw [lc_64 h, h1, ly_cI, lc_108 h4, h2, ly_cI, if_pos rfl]
  exact nx_g hn h0 hcc hww hl h3
def LC_17 (l0 l1 l2 l3 : Nat) (again23 : (Int32 × pmM) → pmR) (s23 : Int32 × pmM) : pmR := (pm_rc 8 l1 s23.2 <| pm_cL (X8_ways l1 s23.2) fun x176 m175 => pm_rc 9 l2 m175 <| pm_cL (X9_ways l2 m175) fun x178 m177 => if (lg_cmp x176 x178) = 0 then (L_law__j2232 again23 l0 l1 l2 l3 s23.1 m177) else (pm_oI 0 m177))
theorem lc_17 {Rp : pmR → Prop} (hg : gd L f0 xs w0 t (c, w, S, I, K)) (hL : L ≤ 512) (ht : 8 * t + 8 ≤ L) (hn : nxt L f0 xs w0 t again Rp) : Rp (LC_17 0 64 108 594 again (nI (8 * t), (c, w, S, I, K))) := by
  obtain ⟨h, h0, hcc, hww, hx, n, wd, q, r, a, se, W, G, hJ⟩ := hg
  replace h : ly c S := h
  replace h0 : S 0 = (100, L, f0) := h0
  replace hcc : c ≤ 595 + t := hcc
  replace hww : w ≤ w0 + 6 * t := hww
  replace hx : ∀ j, I 0 j = xs j := hx
  replace hJ : JJ I n wd q r a se W G := hJ
  have hc : 0 < c := by have := h.1; omega
  have hI0 : I 0 = xs := funext hx
  have hag := ca_ways (K := K) (w := w)  h hJ
  rw [hI0] at hag
  obtain ⟨y, c1, w1, S1, I1, K1, I2, K3, hl, h1, h2, h3⟩ := lUl hag
  have h4 := hl.2.2.2.1
  have hc1 : 0 < c1 := by have := h4.1; omega
  have h01 : S1 0 = (100, L, f0) := by rw [hl.2.2.2.2.1, h0]
  unfold LC_17
  simp only
  rw [lc_64 h, h1, ly_cL, lc_108 h4, h2, ly_cL, if_pos ((lg_cmp_eq _ _).mpr rfl)]
  exact nx_g hn h0 hcc hww hl h3
def LC_18 (l0 l1 l2 l3 : Nat) (again23 : (Int32 × pmM) → pmR) (s23 : Int32 × pmM) : pmR := (pm_rc 8 l1 s23.2 <| pm_cI (X8_strokes l1 s23.2) fun x180 m179 => pm_rc 9 l2 m179 <| pm_cI (X9_strokes l2 m179) fun x182 m181 => if x180 = x182 then (L_law__j2232 again23 l0 l1 l2 l3 s23.1 m181) else (pm_oI 0 m181))
theorem lc_18 {Rp : pmR → Prop} (hg : gd L f0 xs w0 t (c, w, S, I, K)) (hL : L ≤ 512) (ht : 8 * t + 8 ≤ L) (hn : nxt L f0 xs w0 t again Rp) : Rp (LC_18 0 64 108 594 again (nI (8 * t), (c, w, S, I, K))) := by
  obtain ⟨h, h0, hcc, hww, hx, n, wd, q, r, a, se, W, G, hJ⟩ := hg
  replace h : ly c S := h
  replace h0 : S 0 = (100, L, f0) := h0
  replace hcc : c ≤ 595 + t := hcc
  replace hww : w ≤ w0 + 6 * t := hww
  replace hx : ∀ j, I 0 j = xs j := hx
  replace hJ : JJ I n wd q r a se W G := hJ
  have hc : 0 < c := by have := h.1; omega
  have hI0 : I 0 = xs := funext hx
  have hag := ca_strokes (K := K) (w := w)  h hJ
  rw [hI0] at hag
  obtain ⟨y, c1, w1, S1, I1, K1, I2, K3, hl, h1, h2, h3⟩ := lUi hag
  have h4 := hl.2.2.2.1
  have hc1 : 0 < c1 := by have := h4.1; omega
  have h01 : S1 0 = (100, L, f0) := by rw [hl.2.2.2.2.1, h0]
  unfold LC_18
  simp only
  rw [lc_64 h, h1, ly_cI, lc_108 h4, h2, ly_cI, if_pos rfl]
  exact nx_g hn h0 hcc hww hl h3
def LC_19 (l0 l1 l2 l3 : Nat) (again23 : (Int32 × pmM) → pmR) (s23 : Int32 × pmM) : pmR := (pm_rc 8 l1 s23.2 <| pm_cL (X8_best l1 s23.2) fun x184 m183 => pm_rc 9 l2 m183 <| pm_cL (X9_best l2 m183) fun x186 m185 => if (lg_cmp x184 x186) = 0 then (L_law__j2232 again23 l0 l1 l2 l3 s23.1 m185) else (pm_oI 0 m185))
theorem lc_19 {Rp : pmR → Prop} (hg : gd L f0 xs w0 t (c, w, S, I, K)) (hL : L ≤ 512) (ht : 8 * t + 8 ≤ L) (hn : nxt L f0 xs w0 t again Rp) : Rp (LC_19 0 64 108 594 again (nI (8 * t), (c, w, S, I, K))) := by
  obtain ⟨h, h0, hcc, hww, hx, n, wd, q, r, a, se, W, G, hJ⟩ := hg
  replace h : ly c S := h
  replace h0 : S 0 = (100, L, f0) := h0
  replace hcc : c ≤ 595 + t := hcc
  replace hww : w ≤ w0 + 6 * t := hww
  replace hx : ∀ j, I 0 j = xs j := hx
  replace hJ : JJ I n wd q r a se W G := hJ
  have hc : 0 < c := by have := h.1; omega
  have hI0 : I 0 = xs := funext hx
  have hag := ca_best (K := K) (w := w)  h hJ
  rw [hI0] at hag
  obtain ⟨y, c1, w1, S1, I1, K1, I2, K3, hl, h1, h2, h3⟩ := lUl hag
  have h4 := hl.2.2.2.1
  have hc1 : 0 < c1 := by have := h4.1; omega
  have h01 : S1 0 = (100, L, f0) := by rw [hl.2.2.2.2.1, h0]
  unfold LC_19
  simp only
  rw [lc_64 h, h1, ly_cL, lc_108 h4, h2, ly_cL, if_pos ((lg_cmp_eq _ _).mpr rfl)]
  exact nx_g hn h0 hcc hww hl h3
def LC_20 (l0 l1 l2 l3 : Nat) (again23 : (Int32 × pmM) → pmR) (s23 : Int32 × pmM) : pmR := (pm_ld 100 l0 (s23.1 + 1) s23.2 fun x187 => pm_cI (L_unlike l1 x187 l3 s23.2) fun x189 m188 => pm_ld 100 l0 (s23.1 + 1) m188 fun x190 => pm_rc 9 l2 m188 <| pm_cL (X9_unlike l2 x190 m188) fun x192 m191 => pm_rc 9 l2 m191 <| pm_cI (X9_thrown l2 m191) fun x194 m193 => if x194 = x189 then (if x189 = 0 then (pm_ldL l3 0 m193 fun x195 => if (lg_cmp x195 x192) = 0 then (L_law__j1250 again23 l0 l1 l2 l3 s23.1 m193) else (pm_oI 0 m193)) else (L_law__j1250 again23 l0 l1 l2 l3 s23.1 m193)) else (pm_oI 0 m193))
theorem lc_20 {Rp : pmR → Prop} (hg : gd L f0 xs w0 t (c, w, S, I, K)) (hL : L ≤ 512) (ht : 8 * t + 8 ≤ L) (hn : nxt L f0 xs w0 t again Rp) : Rp (LC_20 0 64 108 594 again (nI (8 * t), (c, w, S, I, K))) := by
  obtain ⟨h, h0, hcc, hww, hx, n, wd, q, r, a, se, W, G, hJ⟩ := hg
  replace h : ly c S := h
  replace h0 : S 0 = (100, L, f0) := h0
  replace hcc : c ≤ 595 + t := hcc
  replace hww : w ≤ w0 + 6 * t := hww
  replace hx : ∀ j, I 0 j = xs j := hx
  replace hJ : JJ I n wd q r a se W G := hJ
  have hc : 0 < c := by have := h.1; omega
  have hI0 : I 0 = xs := funext hx
  have hag := ca_unlike (K := K) (w := w) (xs (8 * t + 1)) h hJ
  rw [hI0] at hag
  obtain ⟨x, b, c1, w1, S1, I1, K1, I2, K3, hl, h1, h2, h5, h6, h3⟩ := lWl hag hhA
  have h4 := hl.2.2.2.1
  have hc1 : 0 < c1 := by have := h4.1; omega
  have h01 : S1 0 = (100, L, f0) := by rw [hl.2.2.2.2.1, h0]
  have hL1 : L_unlike 64 (xs (8 * t + 1)) 594 (c, w, S, I, K) = pm_oI x (c1, w1, S1, I1, K1) := by
    unfold L_unlike
    rw [lc_64 h]
    exact h1
  unfold LC_20 L_law__j1250
  simp only
  rw [sl (y := 1) hc h0 hx hL 1 rfl (by omega), hL1, ly_cI, sl (y := 1) hc1 h01 hl.2.2.2.2.2 hL 1 rfl (by omega), lc_108 h4, h2, ly_cL, lc_108 h4, th_M h4, ly_cI, if_pos h5]
  by_cases hx0 : x = 0
  · rw [if_pos hx0, show pm_ldL 594 0 (c1, w1, S1, I2, K3) = pm_ldL 594 (nI 0) (c1, w1, S1, I2, K3) from rfl, ld_594 h4 (by omega), h6 hx0, if_pos ((lg_cmp_eq _ _).mpr rfl)]
    exact nx_g hn h0 hcc hww hl h3
  · rw [if_neg hx0]
    exact nx_g hn h0 hcc hww hl h3
def LC_21 (l0 l1 l2 l3 : Nat) (again23 : (Int32 × pmM) → pmR) (s23 : Int32 × pmM) : pmR := (pm_ld 100 l0 (s23.1 + 1) s23.2 fun x196 => pm_cI (L_forged l1 x196 l3 s23.2) fun x198 m197 => pm_ld 100 l0 (s23.1 + 1) m197 fun x199 => pm_rc 9 l2 m197 <| pm_cI (X9_forged l2 x199 m197) fun x201 m200 => pm_rc 9 l2 m200 <| pm_cI (X9_thrown l2 m200) fun x203 m202 => if x203 = x198 then (if x198 = 0 then (pm_ldL l3 0 m202 fun x204 => if (lg_cmp x204 x201.toInt64) = 0 then (L_law__j1306 again23 l0 l1 l2 l3 s23.1 m202) else (pm_oI 0 m202)) else (L_law__j1306 again23 l0 l1 l2 l3 s23.1 m202)) else (pm_oI 0 m202))
theorem lc_21 {Rp : pmR → Prop} (hg : gd L f0 xs w0 t (c, w, S, I, K)) (hL : L ≤ 512) (ht : 8 * t + 8 ≤ L) (hn : nxt L f0 xs w0 t again Rp) : Rp (LC_21 0 64 108 594 again (nI (8 * t), (c, w, S, I, K))) := by
  obtain ⟨h, h0, hcc, hww, hx, n, wd, q, r, a, se, W, G, hJ⟩ := hg
  replace h : ly c S := h
  replace h0 : S 0 = (100, L, f0) := h0
  replace hcc : c ≤ 595 + t := hcc
  replace hww : w ≤ w0 + 6 * t := hww
  replace hx : ∀ j, I 0 j = xs j := hx
  replace hJ : JJ I n wd q r a se W G := hJ
  have hc : 0 < c := by have := h.1; omega
  have hI0 : I 0 = xs := funext hx
  have hag := ca_forged (K := K) (w := w) (xs (8 * t + 1)) h hJ
  rw [hI0] at hag
  obtain ⟨x, b, c1, w1, S1, I1, K1, I2, K3, hl, h1, h2, h5, h6, h3⟩ := lWi hag hhA
  have h4 := hl.2.2.2.1
  have hc1 : 0 < c1 := by have := h4.1; omega
  have h01 : S1 0 = (100, L, f0) := by rw [hl.2.2.2.2.1, h0]
  have hL1 : L_forged 64 (xs (8 * t + 1)) 594 (c, w, S, I, K) = pm_oI x (c1, w1, S1, I1, K1) := by
    unfold L_forged
    rw [lc_64 h]
    exact h1
  unfold LC_21 L_law__j1306
  simp only
  rw [sl (y := 1) hc h0 hx hL 1 rfl (by omega), hL1, ly_cI, sl (y := 1) hc1 h01 hl.2.2.2.2.2 hL 1 rfl (by omega), lc_108 h4, h2, ly_cI, lc_108 h4, th_M h4, ly_cI, if_pos h5]
  by_cases hx0 : x = 0
  · rw [if_pos hx0, show pm_ldL 594 0 (c1, w1, S1, I2, K3) = pm_ldL 594 (nI 0) (c1, w1, S1, I2, K3) from rfl, ld_594 h4 (by omega), h6 hx0, if_pos ((lg_cmp_eq _ _).mpr rfl)]
    exact nx_g hn h0 hcc hww hl h3
  · rw [if_neg hx0]
    exact nx_g hn h0 hcc hww hl h3
def LC_22 (l0 l1 l2 l3 : Nat) (again23 : (Int32 × pmM) → pmR) (s23 : Int32 × pmM) : pmR := (pm_ld 100 l0 (s23.1 + 1) s23.2 fun x205 => pm_cI (L_value l1 x205 l3 s23.2) fun x207 m206 => pm_ld 100 l0 (s23.1 + 1) m206 fun x208 => pm_rc 9 l2 m206 <| pm_cI (X9_value l2 x208 m206) fun x210 m209 => pm_rc 9 l2 m209 <| pm_cI (X9_thrown l2 m209) fun x212 m211 => if x212 = x207 then (if x207 = 0 then (pm_ldL l3 0 m211 fun x213 => if (lg_cmp x213 x210.toInt64) = 0 then (L_law__j1362 again23 l0 l1 l2 l3 s23.1 m211) else (pm_oI 0 m211)) else (L_law__j1362 again23 l0 l1 l2 l3 s23.1 m211)) else (pm_oI 0 m211))
theorem lc_22 {Rp : pmR → Prop} (hg : gd L f0 xs w0 t (c, w, S, I, K)) (hL : L ≤ 512) (ht : 8 * t + 8 ≤ L) (hn : nxt L f0 xs w0 t again Rp) : Rp (LC_22 0 64 108 594 again (nI (8 * t), (c, w, S, I, K))) := by
  obtain ⟨h, h0, hcc, hww, hx, n, wd, q, r, a, se, W, G, hJ⟩ := hg
  replace h : ly c S := h
  replace h0 : S 0 = (100, L, f0) := h0
  replace hcc : c ≤ 595 + t := hcc
  replace hww : w ≤ w0 + 6 * t := hww
  replace hx : ∀ j, I 0 j = xs j := hx
  replace hJ : JJ I n wd q r a se W G := hJ
  have hc : 0 < c := by have := h.1; omega
  have hI0 : I 0 = xs := funext hx
  have hag := ca_value (K := K) (w := w) (xs (8 * t + 1)) h hJ
  rw [hI0] at hag
  obtain ⟨x, b, c1, w1, S1, I1, K1, I2, K3, hl, h1, h2, h5, h6, h3⟩ := lWi hag hhN
  have h4 := hl.2.2.2.1
  have hc1 : 0 < c1 := by have := h4.1; omega
  have h01 : S1 0 = (100, L, f0) := by rw [hl.2.2.2.2.1, h0]
  have hL1 : L_value 64 (xs (8 * t + 1)) 594 (c, w, S, I, K) = pm_oI x (c1, w1, S1, I1, K1) := by
    unfold L_value
    rw [lc_64 h]
    exact h1
  unfold LC_22 L_law__j1362
  simp only
  rw [sl (y := 1) hc h0 hx hL 1 rfl (by omega), hL1, ly_cI, sl (y := 1) hc1 h01 hl.2.2.2.2.2 hL 1 rfl (by omega), lc_108 h4, h2, ly_cI, lc_108 h4, th_M h4, ly_cI, if_pos h5]
  by_cases hx0 : x = 0
  · rw [if_pos hx0, show pm_ldL 594 0 (c1, w1, S1, I2, K3) = pm_ldL 594 (nI 0) (c1, w1, S1, I2, K3) from rfl, ld_594 h4 (by omega), h6 hx0, if_pos ((lg_cmp_eq _ _).mpr rfl)]
    exact nx_g hn h0 hcc hww hl h3
  · rw [if_neg hx0]
    exact nx_g hn h0 hcc hww hl h3
def LC_23 (l0 l1 l2 l3 : Nat) (again23 : (Int32 × pmM) → pmR) (s23 : Int32 × pmM) : pmR := (pm_ld 100 l0 (s23.1 + 1) s23.2 fun x214 => pm_ld 100 l0 (s23.1 + 2) s23.2 fun x215 => pm_cI (L_argument l1 x214 x215 l3 s23.2) fun x217 m216 => pm_ld 100 l0 (s23.1 + 1) m216 fun x218 => pm_ld 100 l0 (s23.1 + 2) m216 fun x219 => pm_rc 9 l2 m216 <| pm_cI (X9_argument l2 x218 x219 m216) fun x221 m220 => pm_rc 9 l2 m220 <| pm_cI (X9_thrown l2 m220) fun x223 m222 => if x223 = x217 then (if x217 = 0 then (pm_ldL l3 0 m222 fun x224 => if (lg_cmp x224 x221.toInt64) = 0 then (L_law__j1430 again23 l0 l1 l2 l3 s23.1 m222) else (pm_oI 0 m222)) else (L_law__j1430 again23 l0 l1 l2 l3 s23.1 m222)) else (pm_oI 0 m222))
theorem lc_23 {Rp : pmR → Prop} (hg : gd L f0 xs w0 t (c, w, S, I, K)) (hL : L ≤ 512) (ht : 8 * t + 8 ≤ L) (hn : nxt L f0 xs w0 t again Rp) : Rp (LC_23 0 64 108 594 again (nI (8 * t), (c, w, S, I, K))) := by
  obtain ⟨h, h0, hcc, hww, hx, n, wd, q, r, a, se, W, G, hJ⟩ := hg
  replace h : ly c S := h
  replace h0 : S 0 = (100, L, f0) := h0
  replace hcc : c ≤ 595 + t := hcc
  replace hww : w ≤ w0 + 6 * t := hww
  replace hx : ∀ j, I 0 j = xs j := hx
  replace hJ : JJ I n wd q r a se W G := hJ
  have hc : 0 < c := by have := h.1; omega
  have hI0 : I 0 = xs := funext hx
  have hag := ca_argument (K := K) (w := w) (xs (8 * t + 1)) (xs (8 * t + 2)) h hJ
  rw [hI0] at hag
  obtain ⟨x, b, c1, w1, S1, I1, K1, I2, K3, hl, h1, h2, h5, h6, h3⟩ := lWi hag hhA
  have h4 := hl.2.2.2.1
  have hc1 : 0 < c1 := by have := h4.1; omega
  have h01 : S1 0 = (100, L, f0) := by rw [hl.2.2.2.2.1, h0]
  have hL1 : L_argument 64 (xs (8 * t + 1)) (xs (8 * t + 2)) 594 (c, w, S, I, K) = pm_oI x (c1, w1, S1, I1, K1) := by
    unfold L_argument
    rw [lc_64 h]
    exact h1
  unfold LC_23 L_law__j1430
  simp only
  rw [sl (y := 1) hc h0 hx hL 1 rfl (by omega), sl (y := 2) hc h0 hx hL 2 rfl (by omega), hL1, ly_cI, sl (y := 1) hc1 h01 hl.2.2.2.2.2 hL 1 rfl (by omega), sl (y := 2) hc1 h01 hl.2.2.2.2.2 hL 2 rfl (by omega), lc_108 h4, h2, ly_cI, lc_108 h4, th_M h4, ly_cI, if_pos h5]
  by_cases hx0 : x = 0
  · rw [if_pos hx0, show pm_ldL 594 0 (c1, w1, S1, I2, K3) = pm_ldL 594 (nI 0) (c1, w1, S1, I2, K3) from rfl, ld_594 h4 (by omega), h6 hx0, if_pos ((lg_cmp_eq _ _).mpr rfl)]
    exact nx_g hn h0 hcc hww hl h3
  · rw [if_neg hx0]
    exact nx_g hn h0 hcc hww hl h3
def LC_24 (l0 l1 l2 l3 : Nat) (again23 : (Int32 × pmM) → pmR) (s23 : Int32 × pmM) : pmR := (pm_ld 100 l0 (s23.1 + 1) s23.2 fun x225 => pm_ld 100 l0 (s23.1 + 2) s23.2 fun x226 => pm_cI (L_common l1 x225 x226 l3 s23.2) fun x228 m227 => pm_ld 100 l0 (s23.1 + 1) m227 fun x229 => pm_ld 100 l0 (s23.1 + 2) m227 fun x230 => pm_rc 9 l2 m227 <| pm_cI (X9_common l2 x229 x230 m227) fun x232 m231 => pm_rc 9 l2 m231 <| pm_cI (X9_thrown l2 m231) fun x234 m233 => if x234 = x228 then (if x228 = 0 then (pm_ldL l3 0 m233 fun x235 => if (lg_cmp x235 x232.toInt64) = 0 then (L_law__j1498 again23 l0 l1 l2 l3 s23.1 m233) else (pm_oI 0 m233)) else (L_law__j1498 again23 l0 l1 l2 l3 s23.1 m233)) else (pm_oI 0 m233))
theorem lc_24 {Rp : pmR → Prop} (hg : gd L f0 xs w0 t (c, w, S, I, K)) (hL : L ≤ 512) (ht : 8 * t + 8 ≤ L) (hn : nxt L f0 xs w0 t again Rp) : Rp (LC_24 0 64 108 594 again (nI (8 * t), (c, w, S, I, K))) := by
  obtain ⟨h, h0, hcc, hww, hx, n, wd, q, r, a, se, W, G, hJ⟩ := hg
  replace h : ly c S := h
  replace h0 : S 0 = (100, L, f0) := h0
  replace hcc : c ≤ 595 + t := hcc
  replace hww : w ≤ w0 + 6 * t := hww
  replace hx : ∀ j, I 0 j = xs j := hx
  replace hJ : JJ I n wd q r a se W G := hJ
  have hc : 0 < c := by have := h.1; omega
  have hI0 : I 0 = xs := funext hx
  have hag := ca_common (K := K) (w := w) (xs (8 * t + 1)) (xs (8 * t + 2)) h hJ
  rw [hI0] at hag
  obtain ⟨x, b, c1, w1, S1, I1, K1, I2, K3, hl, h1, h2, h5, h6, h3⟩ := lWi hag hhN
  have h4 := hl.2.2.2.1
  have hc1 : 0 < c1 := by have := h4.1; omega
  have h01 : S1 0 = (100, L, f0) := by rw [hl.2.2.2.2.1, h0]
  have hL1 : L_common 64 (xs (8 * t + 1)) (xs (8 * t + 2)) 594 (c, w, S, I, K) = pm_oI x (c1, w1, S1, I1, K1) := by
    unfold L_common
    rw [lc_64 h]
    exact h1
  unfold LC_24 L_law__j1498
  simp only
  rw [sl (y := 1) hc h0 hx hL 1 rfl (by omega), sl (y := 2) hc h0 hx hL 2 rfl (by omega), hL1, ly_cI, sl (y := 1) hc1 h01 hl.2.2.2.2.2 hL 1 rfl (by omega), sl (y := 2) hc1 h01 hl.2.2.2.2.2 hL 2 rfl (by omega), lc_108 h4, h2, ly_cI, lc_108 h4, th_M h4, ly_cI, if_pos h5]
  by_cases hx0 : x = 0
  · rw [if_pos hx0, show pm_ldL 594 0 (c1, w1, S1, I2, K3) = pm_ldL 594 (nI 0) (c1, w1, S1, I2, K3) from rfl, ld_594 h4 (by omega), h6 hx0, if_pos ((lg_cmp_eq _ _).mpr rfl)]
    exact nx_g hn h0 hcc hww hl h3
  · rw [if_neg hx0]
    exact nx_g hn h0 hcc hww hl h3
def LC_25 (l0 l1 l2 l3 : Nat) (again23 : (Int32 × pmM) → pmR) (s23 : Int32 × pmM) : pmR := (pm_rc 8 l1 s23.2 <| pm_cI (X8_apart l1 s23.2) fun x237 m236 => pm_rc 9 l2 m236 <| pm_cI (X9_apart l2 m236) fun x239 m238 => if x237 = x239 then (L_law__j2232 again23 l0 l1 l2 l3 s23.1 m238) else (pm_oI 0 m238))
theorem lc_25 {Rp : pmR → Prop} (hg : gd L f0 xs w0 t (c, w, S, I, K)) (hL : L ≤ 512) (ht : 8 * t + 8 ≤ L) (hn : nxt L f0 xs w0 t again Rp) : Rp (LC_25 0 64 108 594 again (nI (8 * t), (c, w, S, I, K))) := by
  obtain ⟨h, h0, hcc, hww, hx, n, wd, q, r, a, se, W, G, hJ⟩ := hg
  replace h : ly c S := h
  replace h0 : S 0 = (100, L, f0) := h0
  replace hcc : c ≤ 595 + t := hcc
  replace hww : w ≤ w0 + 6 * t := hww
  replace hx : ∀ j, I 0 j = xs j := hx
  replace hJ : JJ I n wd q r a se W G := hJ
  have hc : 0 < c := by have := h.1; omega
  have hI0 : I 0 = xs := funext hx
  have hag := ca_apart (K := K) (w := w)  h hJ
  rw [hI0] at hag
  obtain ⟨y, c1, w1, S1, I1, K1, I2, K3, hl, h1, h2, h3⟩ := lUi hag
  have h4 := hl.2.2.2.1
  have hc1 : 0 < c1 := by have := h4.1; omega
  have h01 : S1 0 = (100, L, f0) := by rw [hl.2.2.2.2.1, h0]
  unfold LC_25
  simp only
  rw [lc_64 h, h1, ly_cI, lc_108 h4, h2, ly_cI, if_pos rfl]
  exact nx_g hn h0 hcc hww hl h3
def LC_26 (l0 l1 l2 l3 : Nat) (again23 : (Int32 × pmM) → pmR) (s23 : Int32 × pmM) : pmR := (pm_rc 8 l1 s23.2 <| pm_cI (X8_mends l1 s23.2) fun x241 m240 => pm_rc 9 l2 m240 <| pm_cI (X9_mends l2 m240) fun x243 m242 => if x241 = x243 then (L_law__j2232 again23 l0 l1 l2 l3 s23.1 m242) else (pm_oI 0 m242))
theorem lc_26 {Rp : pmR → Prop} (hg : gd L f0 xs w0 t (c, w, S, I, K)) (hL : L ≤ 512) (ht : 8 * t + 8 ≤ L) (hn : nxt L f0 xs w0 t again Rp) : Rp (LC_26 0 64 108 594 again (nI (8 * t), (c, w, S, I, K))) := by
  obtain ⟨h, h0, hcc, hww, hx, n, wd, q, r, a, se, W, G, hJ⟩ := hg
  replace h : ly c S := h
  replace h0 : S 0 = (100, L, f0) := h0
  replace hcc : c ≤ 595 + t := hcc
  replace hww : w ≤ w0 + 6 * t := hww
  replace hx : ∀ j, I 0 j = xs j := hx
  replace hJ : JJ I n wd q r a se W G := hJ
  have hc : 0 < c := by have := h.1; omega
  have hI0 : I 0 = xs := funext hx
  have hag := ca_mends (K := K) (w := w)  h hJ
  rw [hI0] at hag
  obtain ⟨y, c1, w1, S1, I1, K1, I2, K3, hl, h1, h2, h3⟩ := lUi hag
  have h4 := hl.2.2.2.1
  have hc1 : 0 < c1 := by have := h4.1; omega
  have h01 : S1 0 = (100, L, f0) := by rw [hl.2.2.2.2.1, h0]
  unfold LC_26
  simp only
  rw [lc_64 h, h1, ly_cI, lc_108 h4, h2, ly_cI, if_pos rfl]
  exact nx_g hn h0 hcc hww hl h3
def LC_27 (l0 l1 l2 l3 : Nat) (again23 : (Int32 × pmM) → pmR) (s23 : Int32 × pmM) : pmR := (pm_ld 100 l0 (s23.1 + 1) s23.2 fun x244 => pm_ld 100 l0 (s23.1 + 2) s23.2 fun x245 => pm_ld 100 l0 (s23.1 + 3) s23.2 fun x246 => pm_cI (L_duel l1 x244 x245 x246 l3 s23.2) fun x248 m247 => pm_ld 100 l0 (s23.1 + 1) m247 fun x249 => pm_ld 100 l0 (s23.1 + 2) m247 fun x250 => pm_ld 100 l0 (s23.1 + 3) m247 fun x251 => pm_rc 9 l2 m247 <| pm_cI (X9_duel l2 x249 x250 x251 m247) fun x253 m252 => pm_rc 9 l2 m252 <| pm_cI (X9_thrown l2 m252) fun x255 m254 => if x255 = x248 then (if x248 = 0 then (pm_ldL l3 0 m254 fun x256 => if (lg_cmp x256 x253.toInt64) = 0 then (L_law__j1604 again23 l0 l1 l2 l3 s23.1 m254) else (pm_oI 0 m254)) else (L_law__j1604 again23 l0 l1 l2 l3 s23.1 m254)) else (pm_oI 0 m254))
theorem lc_27 {Rp : pmR → Prop} (hg : gd L f0 xs w0 t (c, w, S, I, K)) (hL : L ≤ 512) (ht : 8 * t + 8 ≤ L) (hn : nxt L f0 xs w0 t again Rp) : Rp (LC_27 0 64 108 594 again (nI (8 * t), (c, w, S, I, K))) := by
  obtain ⟨h, h0, hcc, hww, hx, n, wd, q, r, a, se, W, G, hJ⟩ := hg
  replace h : ly c S := h
  replace h0 : S 0 = (100, L, f0) := h0
  replace hcc : c ≤ 595 + t := hcc
  replace hww : w ≤ w0 + 6 * t := hww
  replace hx : ∀ j, I 0 j = xs j := hx
  replace hJ : JJ I n wd q r a se W G := hJ
  have hc : 0 < c := by have := h.1; omega
  have hI0 : I 0 = xs := funext hx
  have hag := ca_duel (K := K) (w := w) (xs (8 * t + 1)) (xs (8 * t + 2)) (xs (8 * t + 3)) h hJ
  rw [hI0] at hag
  obtain ⟨x, b, c1, w1, S1, I1, K1, I2, K3, hl, h1, h2, h5, h6, h3⟩ := lWi hag hhA
  have h4 := hl.2.2.2.1
  have hc1 : 0 < c1 := by have := h4.1; omega
  have h01 : S1 0 = (100, L, f0) := by rw [hl.2.2.2.2.1, h0]
  have hL1 : L_duel 64 (xs (8 * t + 1)) (xs (8 * t + 2)) (xs (8 * t + 3)) 594 (c, w, S, I, K) = pm_oI x (c1, w1, S1, I1, K1) := by
    unfold L_duel
    rw [lc_64 h]
    exact h1
  unfold LC_27 L_law__j1604
  simp only
  rw [sl (y := 1) hc h0 hx hL 1 rfl (by omega), sl (y := 2) hc h0 hx hL 2 rfl (by omega), sl (y := 3) hc h0 hx hL 3 rfl (by omega), hL1, ly_cI, sl (y := 1) hc1 h01 hl.2.2.2.2.2 hL 1 rfl (by omega), sl (y := 2) hc1 h01 hl.2.2.2.2.2 hL 2 rfl (by omega), sl (y := 3) hc1 h01 hl.2.2.2.2.2 hL 3 rfl (by omega), lc_108 h4, h2, ly_cI, lc_108 h4, th_M h4, ly_cI, if_pos h5]
  by_cases hx0 : x = 0
  · rw [if_pos hx0, show pm_ldL 594 0 (c1, w1, S1, I2, K3) = pm_ldL 594 (nI 0) (c1, w1, S1, I2, K3) from rfl, ld_594 h4 (by omega), h6 hx0, if_pos ((lg_cmp_eq _ _).mpr rfl)]
    exact nx_g hn h0 hcc hww hl h3
  · rw [if_neg hx0]
    exact nx_g hn h0 hcc hww hl h3
def LC_28 (l0 l1 l2 l3 : Nat) (again23 : (Int32 × pmM) → pmR) (s23 : Int32 × pmM) : pmR := (pm_ld 100 l0 (s23.1 + 1) s23.2 fun x257 => pm_ld 100 l0 (s23.1 + 2) s23.2 fun x258 => pm_ld 100 l0 (s23.1 + 3) s23.2 fun x259 => pm_ld 100 l0 (s23.1 + 4) s23.2 fun x260 => pm_cI (L_chance l1 x257 x258 x259 x260 l3 s23.2) fun x262 m261 => pm_ld 100 l0 (s23.1 + 1) m261 fun x263 => pm_ld 100 l0 (s23.1 + 2) m261 fun x264 => pm_ld 100 l0 (s23.1 + 3) m261 fun x265 => pm_ld 100 l0 (s23.1 + 4) m261 fun x266 => pm_rc 9 l2 m261 <| pm_cL (X9_chance l2 x263 x264 x265 x266 m261) fun x268 m267 => pm_rc 9 l2 m267 <| pm_cI (X9_thrown l2 m267) fun x270 m269 => if x270 = x262 then (if x262 = 0 then (pm_ldL l3 0 m269 fun x271 => if (lg_cmp x271 x268) = 0 then (L_law__j1695 again23 l0 l1 l2 l3 s23.1 m269) else (pm_oI 0 m269)) else (L_law__j1695 again23 l0 l1 l2 l3 s23.1 m269)) else (pm_oI 0 m269))
theorem lc_28 {Rp : pmR → Prop} (hg : gd L f0 xs w0 t (c, w, S, I, K)) (hL : L ≤ 512) (ht : 8 * t + 8 ≤ L) (hn : nxt L f0 xs w0 t again Rp) : Rp (LC_28 0 64 108 594 again (nI (8 * t), (c, w, S, I, K))) := by
  obtain ⟨h, h0, hcc, hww, hx, n, wd, q, r, a, se, W, G, hJ⟩ := hg
  replace h : ly c S := h
  replace h0 : S 0 = (100, L, f0) := h0
  replace hcc : c ≤ 595 + t := hcc
  replace hww : w ≤ w0 + 6 * t := hww
  replace hx : ∀ j, I 0 j = xs j := hx
  replace hJ : JJ I n wd q r a se W G := hJ
  have hc : 0 < c := by have := h.1; omega
  have hI0 : I 0 = xs := funext hx
  have hag := ca_chance (K := K) (w := w) (xs (8 * t + 1)) (xs (8 * t + 2)) (xs (8 * t + 3)) (xs (8 * t + 4)) h hJ
  rw [hI0] at hag
  obtain ⟨x, b, c1, w1, S1, I1, K1, I2, K3, hl, h1, h2, h5, h6, h3⟩ := lWl hag hhA
  have h4 := hl.2.2.2.1
  have hc1 : 0 < c1 := by have := h4.1; omega
  have h01 : S1 0 = (100, L, f0) := by rw [hl.2.2.2.2.1, h0]
  have hL1 : L_chance 64 (xs (8 * t + 1)) (xs (8 * t + 2)) (xs (8 * t + 3)) (xs (8 * t + 4)) 594 (c, w, S, I, K) = pm_oI x (c1, w1, S1, I1, K1) := by
    unfold L_chance
    rw [lc_64 h]
    exact h1
  unfold LC_28 L_law__j1695
  simp only
  rw [sl (y := 1) hc h0 hx hL 1 rfl (by omega), sl (y := 2) hc h0 hx hL 2 rfl (by omega), sl (y := 3) hc h0 hx hL 3 rfl (by omega), sl (y := 4) hc h0 hx hL 4 rfl (by omega), hL1, ly_cI, sl (y := 1) hc1 h01 hl.2.2.2.2.2 hL 1 rfl (by omega), sl (y := 2) hc1 h01 hl.2.2.2.2.2 hL 2 rfl (by omega), sl (y := 3) hc1 h01 hl.2.2.2.2.2 hL 3 rfl (by omega), sl (y := 4) hc1 h01 hl.2.2.2.2.2 hL 4 rfl (by omega), lc_108 h4, h2, ly_cL, lc_108 h4, th_M h4, ly_cI, if_pos h5]
  by_cases hx0 : x = 0
  · rw [if_pos hx0, show pm_ldL 594 0 (c1, w1, S1, I2, K3) = pm_ldL 594 (nI 0) (c1, w1, S1, I2, K3) from rfl, ld_594 h4 (by omega), h6 hx0, if_pos ((lg_cmp_eq _ _).mpr rfl)]
    exact nx_g hn h0 hcc hww hl h3
  · rw [if_neg hx0]
    exact nx_g hn h0 hcc hww hl h3
def LC_29 (l0 l1 l2 l3 : Nat) (again23 : (Int32 × pmM) → pmR) (s23 : Int32 × pmM) : pmR := (pm_ld 100 l0 (s23.1 + 1) s23.2 fun x272 => pm_ld 100 l0 (s23.1 + 2) s23.2 fun x273 => pm_ld 100 l0 (s23.1 + 3) s23.2 fun x274 => pm_cI (L_share l1 x272 x273 x274 l3 s23.2) fun x276 m275 => pm_ld 100 l0 (s23.1 + 1) m275 fun x277 => pm_ld 100 l0 (s23.1 + 2) m275 fun x278 => pm_ld 100 l0 (s23.1 + 3) m275 fun x279 => pm_rc 9 l2 m275 <| pm_cI (X9_share l2 x277 x278 x279 m275) fun x281 m280 => pm_rc 9 l2 m280 <| pm_cI (X9_thrown l2 m280) fun x283 m282 => if x283 = x276 then (if x276 = 0 then (pm_ldL l3 0 m282 fun x284 => if (lg_cmp x284 x281.toInt64) = 0 then (L_law__j1775 again23 l0 l1 l2 l3 s23.1 m282) else (pm_oI 0 m282)) else (L_law__j1775 again23 l0 l1 l2 l3 s23.1 m282)) else (pm_oI 0 m282))
theorem lc_29 {Rp : pmR → Prop} (hg : gd L f0 xs w0 t (c, w, S, I, K)) (hL : L ≤ 512) (ht : 8 * t + 8 ≤ L) (hn : nxt L f0 xs w0 t again Rp) : Rp (LC_29 0 64 108 594 again (nI (8 * t), (c, w, S, I, K))) := by
  obtain ⟨h, h0, hcc, hww, hx, n, wd, q, r, a, se, W, G, hJ⟩ := hg
  replace h : ly c S := h
  replace h0 : S 0 = (100, L, f0) := h0
  replace hcc : c ≤ 595 + t := hcc
  replace hww : w ≤ w0 + 6 * t := hww
  replace hx : ∀ j, I 0 j = xs j := hx
  replace hJ : JJ I n wd q r a se W G := hJ
  have hc : 0 < c := by have := h.1; omega
  have hI0 : I 0 = xs := funext hx
  have hag := ca_share (K := K) (w := w) (xs (8 * t + 1)) (xs (8 * t + 2)) (xs (8 * t + 3)) h hJ
  rw [hI0] at hag
  obtain ⟨x, b, c1, w1, S1, I1, K1, I2, K3, hl, h1, h2, h5, h6, h3⟩ := lWi hag hhB
  have h4 := hl.2.2.2.1
  have hc1 : 0 < c1 := by have := h4.1; omega
  have h01 : S1 0 = (100, L, f0) := by rw [hl.2.2.2.2.1, h0]
  have hL1 : L_share 64 (xs (8 * t + 1)) (xs (8 * t + 2)) (xs (8 * t + 3)) 594 (c, w, S, I, K) = pm_oI x (c1, w1, S1, I1, K1) := by
    unfold L_share
    rw [lc_64 h]
    exact h1
  unfold LC_29 L_law__j1775
  simp only
  rw [sl (y := 1) hc h0 hx hL 1 rfl (by omega), sl (y := 2) hc h0 hx hL 2 rfl (by omega), sl (y := 3) hc h0 hx hL 3 rfl (by omega), hL1, ly_cI, sl (y := 1) hc1 h01 hl.2.2.2.2.2 hL 1 rfl (by omega), sl (y := 2) hc1 h01 hl.2.2.2.2.2 hL 2 rfl (by omega), sl (y := 3) hc1 h01 hl.2.2.2.2.2 hL 3 rfl (by omega), lc_108 h4, h2, ly_cI, lc_108 h4, th_M h4, ly_cI, if_pos h5]
  by_cases hx0 : x = 0
  · rw [if_pos hx0, show pm_ldL 594 0 (c1, w1, S1, I2, K3) = pm_ldL 594 (nI 0) (c1, w1, S1, I2, K3) from rfl, ld_594 h4 (by omega), h6 hx0, if_pos ((lg_cmp_eq _ _).mpr rfl)]
    exact nx_g hn h0 hcc hww hl h3
  · rw [if_neg hx0]
    exact nx_g hn h0 hcc hww hl h3
def LC_30 (l0 l1 l2 l3 : Nat) (again23 : (Int32 × pmM) → pmR) (s23 : Int32 × pmM) : pmR := (pm_ld 100 l0 (s23.1 + 1) s23.2 fun x285 => pm_cI (L_often l1 x285 l3 s23.2) fun x287 m286 => pm_ld 100 l0 (s23.1 + 1) m286 fun x288 => pm_rc 9 l2 m286 <| pm_cI (X9_often l2 x288 m286) fun x290 m289 => pm_rc 9 l2 m289 <| pm_cI (X9_thrown l2 m289) fun x292 m291 => if x292 = x287 then (if x287 = 0 then (pm_ldL l3 0 m291 fun x293 => if (lg_cmp x293 x290.toInt64) = 0 then (L_law__j1831 again23 l0 l1 l2 l3 s23.1 m291) else (pm_oI 0 m291)) else (L_law__j1831 again23 l0 l1 l2 l3 s23.1 m291)) else (pm_oI 0 m291))
theorem lc_30 {Rp : pmR → Prop} (hg : gd L f0 xs w0 t (c, w, S, I, K)) (hL : L ≤ 512) (ht : 8 * t + 8 ≤ L) (hn : nxt L f0 xs w0 t again Rp) : Rp (LC_30 0 64 108 594 again (nI (8 * t), (c, w, S, I, K))) := by
  obtain ⟨h, h0, hcc, hww, hx, n, wd, q, r, a, se, W, G, hJ⟩ := hg
  replace h : ly c S := h
  replace h0 : S 0 = (100, L, f0) := h0
  replace hcc : c ≤ 595 + t := hcc
  replace hww : w ≤ w0 + 6 * t := hww
  replace hx : ∀ j, I 0 j = xs j := hx
  replace hJ : JJ I n wd q r a se W G := hJ
  have hc : 0 < c := by have := h.1; omega
  have hI0 : I 0 = xs := funext hx
  have hag := ca_often (K := K) (w := w) (xs (8 * t + 1)) h hJ
  rw [hI0] at hag
  obtain ⟨x, b, c1, w1, S1, I1, K1, I2, K3, hl, h1, h2, h5, h6, h3⟩ := lWi hag hhA
  have h4 := hl.2.2.2.1
  have hc1 : 0 < c1 := by have := h4.1; omega
  have h01 : S1 0 = (100, L, f0) := by rw [hl.2.2.2.2.1, h0]
  have hL1 : L_often 64 (xs (8 * t + 1)) 594 (c, w, S, I, K) = pm_oI x (c1, w1, S1, I1, K1) := by
    unfold L_often
    rw [lc_64 h]
    exact h1
  unfold LC_30 L_law__j1831
  simp only
  rw [sl (y := 1) hc h0 hx hL 1 rfl (by omega), hL1, ly_cI, sl (y := 1) hc1 h01 hl.2.2.2.2.2 hL 1 rfl (by omega), lc_108 h4, h2, ly_cI, lc_108 h4, th_M h4, ly_cI, if_pos h5]
  by_cases hx0 : x = 0
  · rw [if_pos hx0, show pm_ldL 594 0 (c1, w1, S1, I2, K3) = pm_ldL 594 (nI 0) (c1, w1, S1, I2, K3) from rfl, ld_594 h4 (by omega), h6 hx0, if_pos ((lg_cmp_eq _ _).mpr rfl)]
    exact nx_g hn h0 hcc hww hl h3
  · rw [if_neg hx0]
    exact nx_g hn h0 hcc hww hl h3
def LC_31 (l0 l1 l2 l3 : Nat) (again23 : (Int32 × pmM) → pmR) (s23 : Int32 × pmM) : pmR := (pm_ld 100 l0 (s23.1 + 1) s23.2 fun x294 => pm_cI (L_deeds l1 x294 l3 s23.2) fun x296 m295 => pm_ld 100 l0 (s23.1 + 1) m295 fun x297 => pm_rc 9 l2 m295 <| pm_cI (X9_deeds l2 x297 m295) fun x299 m298 => pm_rc 9 l2 m298 <| pm_cI (X9_thrown l2 m298) fun x301 m300 => if x301 = x296 then (if x296 = 0 then (pm_ldL l3 0 m300 fun x302 => if (lg_cmp x302 x299.toInt64) = 0 then (L_law__j1887 again23 l0 l1 l2 l3 s23.1 m300) else (pm_oI 0 m300)) else (L_law__j1887 again23 l0 l1 l2 l3 s23.1 m300)) else (pm_oI 0 m300))
theorem lc_31 {Rp : pmR → Prop} (hg : gd L f0 xs w0 t (c, w, S, I, K)) (hL : L ≤ 512) (ht : 8 * t + 8 ≤ L) (hn : nxt L f0 xs w0 t again Rp) : Rp (LC_31 0 64 108 594 again (nI (8 * t), (c, w, S, I, K))) := by
  obtain ⟨h, h0, hcc, hww, hx, n, wd, q, r, a, se, W, G, hJ⟩ := hg
  replace h : ly c S := h
  replace h0 : S 0 = (100, L, f0) := h0
  replace hcc : c ≤ 595 + t := hcc
  replace hww : w ≤ w0 + 6 * t := hww
  replace hx : ∀ j, I 0 j = xs j := hx
  replace hJ : JJ I n wd q r a se W G := hJ
  have hc : 0 < c := by have := h.1; omega
  have hI0 : I 0 = xs := funext hx
  have hag := ca_deeds (K := K) (w := w) (xs (8 * t + 1)) h hJ
  rw [hI0] at hag
  obtain ⟨x, b, c1, w1, S1, I1, K1, I2, K3, hl, h1, h2, h5, h6, h3⟩ := lWi hag hhA
  have h4 := hl.2.2.2.1
  have hc1 : 0 < c1 := by have := h4.1; omega
  have h01 : S1 0 = (100, L, f0) := by rw [hl.2.2.2.2.1, h0]
  have hL1 : L_deeds 64 (xs (8 * t + 1)) 594 (c, w, S, I, K) = pm_oI x (c1, w1, S1, I1, K1) := by
    unfold L_deeds
    rw [lc_64 h]
    exact h1
  unfold LC_31 L_law__j1887
  simp only
  rw [sl (y := 1) hc h0 hx hL 1 rfl (by omega), hL1, ly_cI, sl (y := 1) hc1 h01 hl.2.2.2.2.2 hL 1 rfl (by omega), lc_108 h4, h2, ly_cI, lc_108 h4, th_M h4, ly_cI, if_pos h5]
  by_cases hx0 : x = 0
  · rw [if_pos hx0, show pm_ldL 594 0 (c1, w1, S1, I2, K3) = pm_ldL 594 (nI 0) (c1, w1, S1, I2, K3) from rfl, ld_594 h4 (by omega), h6 hx0, if_pos ((lg_cmp_eq _ _).mpr rfl)]
    exact nx_g hn h0 hcc hww hl h3
  · rw [if_neg hx0]
    exact nx_g hn h0 hcc hww hl h3
def LC_32 (l0 l1 l2 l3 : Nat) (again23 : (Int32 × pmM) → pmR) (s23 : Int32 × pmM) : pmR := (pm_ld 100 l0 (s23.1 + 1) s23.2 fun x303 => pm_cI (L_longest l1 x303 l3 s23.2) fun x305 m304 => pm_ld 100 l0 (s23.1 + 1) m304 fun x306 => pm_rc 9 l2 m304 <| pm_cI (X9_longest l2 x306 m304) fun x308 m307 => pm_rc 9 l2 m307 <| pm_cI (X9_thrown l2 m307) fun x310 m309 => if x310 = x305 then (if x305 = 0 then (pm_ldL l3 0 m309 fun x311 => if (lg_cmp x311 x308.toInt64) = 0 then (L_law__j1943 again23 l0 l1 l2 l3 s23.1 m309) else (pm_oI 0 m309)) else (L_law__j1943 again23 l0 l1 l2 l3 s23.1 m309)) else (pm_oI 0 m309))
theorem lc_32 {Rp : pmR → Prop} (hg : gd L f0 xs w0 t (c, w, S, I, K)) (hL : L ≤ 512) (ht : 8 * t + 8 ≤ L) (hn : nxt L f0 xs w0 t again Rp) : Rp (LC_32 0 64 108 594 again (nI (8 * t), (c, w, S, I, K))) := by
  obtain ⟨h, h0, hcc, hww, hx, n, wd, q, r, a, se, W, G, hJ⟩ := hg
  replace h : ly c S := h
  replace h0 : S 0 = (100, L, f0) := h0
  replace hcc : c ≤ 595 + t := hcc
  replace hww : w ≤ w0 + 6 * t := hww
  replace hx : ∀ j, I 0 j = xs j := hx
  replace hJ : JJ I n wd q r a se W G := hJ
  have hc : 0 < c := by have := h.1; omega
  have hI0 : I 0 = xs := funext hx
  have hag := ca_longest (K := K) (w := w) (xs (8 * t + 1)) h hJ
  rw [hI0] at hag
  obtain ⟨x, b, c1, w1, S1, I1, K1, I2, K3, hl, h1, h2, h5, h6, h3⟩ := lWi hag hhA
  have h4 := hl.2.2.2.1
  have hc1 : 0 < c1 := by have := h4.1; omega
  have h01 : S1 0 = (100, L, f0) := by rw [hl.2.2.2.2.1, h0]
  have hL1 : L_longest 64 (xs (8 * t + 1)) 594 (c, w, S, I, K) = pm_oI x (c1, w1, S1, I1, K1) := by
    unfold L_longest
    rw [lc_64 h]
    exact h1
  unfold LC_32 L_law__j1943
  simp only
  rw [sl (y := 1) hc h0 hx hL 1 rfl (by omega), hL1, ly_cI, sl (y := 1) hc1 h01 hl.2.2.2.2.2 hL 1 rfl (by omega), lc_108 h4, h2, ly_cI, lc_108 h4, th_M h4, ly_cI, if_pos h5]
  by_cases hx0 : x = 0
  · rw [if_pos hx0, show pm_ldL 594 0 (c1, w1, S1, I2, K3) = pm_ldL 594 (nI 0) (c1, w1, S1, I2, K3) from rfl, ld_594 h4 (by omega), h6 hx0, if_pos ((lg_cmp_eq _ _).mpr rfl)]
    exact nx_g hn h0 hcc hww hl h3
  · rw [if_neg hx0]
    exact nx_g hn h0 hcc hww hl h3
def LC_33 (l0 l1 l2 l3 : Nat) (again23 : (Int32 × pmM) → pmR) (s23 : Int32 × pmM) : pmR := (pm_ld 100 l0 (s23.1 + 1) s23.2 fun x312 => pm_ld 100 l0 (s23.1 + 2) s23.2 fun x313 => pm_ld 100 l0 (s23.1 + 3) s23.2 fun x314 => pm_ld 100 l0 (s23.1 + 4) s23.2 fun x315 => pm_cI (L_hand l1 x312 x313 x314 x315 l3 s23.2) fun x317 m316 => pm_ld 100 l0 (s23.1 + 1) m316 fun x318 => pm_ld 100 l0 (s23.1 + 2) m316 fun x319 => pm_ld 100 l0 (s23.1 + 3) m316 fun x320 => pm_ld 100 l0 (s23.1 + 4) m316 fun x321 => pm_rc 9 l2 m316 <| pm_cI (X9_hand l2 x318 x319 x320 x321 m316) fun x323 m322 => pm_rc 9 l2 m322 <| pm_cI (X9_thrown l2 m322) fun x325 m324 => if x325 = x317 then (if x317 = 0 then (pm_ldL l3 0 m324 fun x326 => if (lg_cmp x326 x323.toInt64) = 0 then (L_law__j2035 again23 l0 l1 l2 l3 s23.1 m324) else (pm_oI 0 m324)) else (L_law__j2035 again23 l0 l1 l2 l3 s23.1 m324)) else (pm_oI 0 m324))
theorem lc_33 {Rp : pmR → Prop} (hg : gd L f0 xs w0 t (c, w, S, I, K)) (hL : L ≤ 512) (ht : 8 * t + 8 ≤ L) (hn : nxt L f0 xs w0 t again Rp) : Rp (LC_33 0 64 108 594 again (nI (8 * t), (c, w, S, I, K))) := by
  obtain ⟨h, h0, hcc, hww, hx, n, wd, q, r, a, se, W, G, hJ⟩ := hg
  replace h : ly c S := h
  replace h0 : S 0 = (100, L, f0) := h0
  replace hcc : c ≤ 595 + t := hcc
  replace hww : w ≤ w0 + 6 * t := hww
  replace hx : ∀ j, I 0 j = xs j := hx
  replace hJ : JJ I n wd q r a se W G := hJ
  have hc : 0 < c := by have := h.1; omega
  have hI0 : I 0 = xs := funext hx
  have hag := ca_hand (K := K) (w := w) (xs (8 * t + 1)) (xs (8 * t + 2)) (xs (8 * t + 3)) (xs (8 * t + 4)) h hJ
  rw [hI0] at hag
  obtain ⟨x, b, c1, w1, S1, I1, K1, I2, K3, hl, h1, h2, h5, h6, h3⟩ := lWi hag hhA
  have h4 := hl.2.2.2.1
  have hc1 : 0 < c1 := by have := h4.1; omega
  have h01 : S1 0 = (100, L, f0) := by rw [hl.2.2.2.2.1, h0]
  have hL1 : L_hand 64 (xs (8 * t + 1)) (xs (8 * t + 2)) (xs (8 * t + 3)) (xs (8 * t + 4)) 594 (c, w, S, I, K) = pm_oI x (c1, w1, S1, I1, K1) := by
    unfold L_hand
    rw [lc_64 h]
    exact h1
  unfold LC_33 L_law__j2035
  simp only
  rw [sl (y := 1) hc h0 hx hL 1 rfl (by omega), sl (y := 2) hc h0 hx hL 2 rfl (by omega), sl (y := 3) hc h0 hx hL 3 rfl (by omega), sl (y := 4) hc h0 hx hL 4 rfl (by omega), hL1, ly_cI, sl (y := 1) hc1 h01 hl.2.2.2.2.2 hL 1 rfl (by omega), sl (y := 2) hc1 h01 hl.2.2.2.2.2 hL 2 rfl (by omega), sl (y := 3) hc1 h01 hl.2.2.2.2.2 hL 3 rfl (by omega), sl (y := 4) hc1 h01 hl.2.2.2.2.2 hL 4 rfl (by omega), lc_108 h4, h2, ly_cI, lc_108 h4, th_M h4, ly_cI, if_pos h5]
  by_cases hx0 : x = 0
  · rw [if_pos hx0, show pm_ldL 594 0 (c1, w1, S1, I2, K3) = pm_ldL 594 (nI 0) (c1, w1, S1, I2, K3) from rfl, ld_594 h4 (by omega), h6 hx0, if_pos ((lg_cmp_eq _ _).mpr rfl)]
    exact nx_g hn h0 hcc hww hl h3
  · rw [if_neg hx0]
    exact nx_g hn h0 hcc hww hl h3
def LC_34 (l0 l1 l2 l3 : Nat) (again23 : (Int32 × pmM) → pmR) (s23 : Int32 × pmM) : pmR := (pm_ld 100 l0 (s23.1 + 1) s23.2 fun x327 => pm_ld 100 l0 (s23.1 + 2) s23.2 fun x328 => pm_ld 100 l0 (s23.1 + 3) s23.2 fun x329 => pm_ld 100 l0 (s23.1 + 4) s23.2 fun x330 => pm_ld 100 l0 (s23.1 + 5) s23.2 fun x331 => pm_ld 100 l0 (s23.1 + 6) s23.2 fun x332 => pm_cI (L_span l1 x327 x328 x329 x330 x331 x332 l3 s23.2) fun x334 m333 => pm_ld 100 l0 (s23.1 + 1) m333 fun x335 => pm_ld 100 l0 (s23.1 + 2) m333 fun x336 => pm_ld 100 l0 (s23.1 + 3) m333 fun x337 => pm_ld 100 l0 (s23.1 + 4) m333 fun x338 => pm_ld 100 l0 (s23.1 + 5) m333 fun x339 => pm_ld 100 l0 (s23.1 + 6) m333 fun x340 => pm_rc 9 l2 m333 <| pm_cI (X9_span l2 x335 x336 x337 x338 x339 x340 m333) fun x342 m341 => pm_rc 9 l2 m341 <| pm_cI (X9_thrown l2 m341) fun x344 m343 => if x344 = x334 then (if x334 = 0 then (pm_ldL l3 0 m343 fun x345 => if (lg_cmp x345 x342.toInt64) = 0 then (L_law__j2153 again23 l0 l1 l2 l3 s23.1 m343) else (pm_oI 0 m343)) else (L_law__j2153 again23 l0 l1 l2 l3 s23.1 m343)) else (pm_oI 0 m343))
theorem lc_34 {Rp : pmR → Prop} (hg : gd L f0 xs w0 t (c, w, S, I, K)) (hL : L ≤ 512) (ht : 8 * t + 8 ≤ L) (hn : nxt L f0 xs w0 t again Rp) : Rp (LC_34 0 64 108 594 again (nI (8 * t), (c, w, S, I, K))) := by
  obtain ⟨h, h0, hcc, hww, hx, n, wd, q, r, a, se, W, G, hJ⟩ := hg
  replace h : ly c S := h
  replace h0 : S 0 = (100, L, f0) := h0
  replace hcc : c ≤ 595 + t := hcc
  replace hww : w ≤ w0 + 6 * t := hww
  replace hx : ∀ j, I 0 j = xs j := hx
  replace hJ : JJ I n wd q r a se W G := hJ
  have hc : 0 < c := by have := h.1; omega
  have hI0 : I 0 = xs := funext hx
  have hag := ca_span (K := K) (w := w) (xs (8 * t + 1)) (xs (8 * t + 2)) (xs (8 * t + 3)) (xs (8 * t + 4)) (xs (8 * t + 5)) (xs (8 * t + 6)) h hJ
  rw [hI0] at hag
  obtain ⟨x, b, c1, w1, S1, I1, K1, I2, K3, hl, h1, h2, h5, h6, h3⟩ := lWi hag hhA
  have h4 := hl.2.2.2.1
  have hc1 : 0 < c1 := by have := h4.1; omega
  have h01 : S1 0 = (100, L, f0) := by rw [hl.2.2.2.2.1, h0]
  have hL1 : L_span 64 (xs (8 * t + 1)) (xs (8 * t + 2)) (xs (8 * t + 3)) (xs (8 * t + 4)) (xs (8 * t + 5)) (xs (8 * t + 6)) 594 (c, w, S, I, K) = pm_oI x (c1, w1, S1, I1, K1) := by
    unfold L_span
    rw [lc_64 h]
    exact h1
  unfold LC_34 L_law__j2153
  simp only
  rw [sl (y := 1) hc h0 hx hL 1 rfl (by omega), sl (y := 2) hc h0 hx hL 2 rfl (by omega), sl (y := 3) hc h0 hx hL 3 rfl (by omega), sl (y := 4) hc h0 hx hL 4 rfl (by omega), sl (y := 5) hc h0 hx hL 5 rfl (by omega), sl (y := 6) hc h0 hx hL 6 rfl (by omega), hL1, ly_cI, sl (y := 1) hc1 h01 hl.2.2.2.2.2 hL 1 rfl (by omega), sl (y := 2) hc1 h01 hl.2.2.2.2.2 hL 2 rfl (by omega), sl (y := 3) hc1 h01 hl.2.2.2.2.2 hL 3 rfl (by omega), sl (y := 4) hc1 h01 hl.2.2.2.2.2 hL 4 rfl (by omega), sl (y := 5) hc1 h01 hl.2.2.2.2.2 hL 5 rfl (by omega), sl (y := 6) hc1 h01 hl.2.2.2.2.2 hL 6 rfl (by omega), lc_108 h4, h2, ly_cI, lc_108 h4, th_M h4, ly_cI, if_pos h5]
  by_cases hx0 : x = 0
  · rw [if_pos hx0, show pm_ldL 594 0 (c1, w1, S1, I2, K3) = pm_ldL 594 (nI 0) (c1, w1, S1, I2, K3) from rfl, ld_594 h4 (by omega), h6 hx0, if_pos ((lg_cmp_eq _ _).mpr rfl)]
    exact nx_g hn h0 hcc hww hl h3
  · rw [if_neg hx0]
    exact nx_g hn h0 hcc hww hl h3
def LC_35 (l0 l1 l2 l3 : Nat) (again23 : (Int32 × pmM) → pmR) (s23 : Int32 × pmM) : pmR := (pm_rc 8 l1 s23.2 <| pm_cI (X8_image l1 s23.2) fun x347 m346 => pm_rc 9 l2 m346 <| pm_cI (X9_image l2 m346) fun x349 m348 => if x347 = x349 then (L_law__j2232 again23 l0 l1 l2 l3 s23.1 m348) else (pm_oI 0 m348))
theorem lc_35 {Rp : pmR → Prop} (hg : gd L f0 xs w0 t (c, w, S, I, K)) (hL : L ≤ 512) (ht : 8 * t + 8 ≤ L) (hn : nxt L f0 xs w0 t again Rp) : Rp (LC_35 0 64 108 594 again (nI (8 * t), (c, w, S, I, K))) := by
  obtain ⟨h, h0, hcc, hww, hx, n, wd, q, r, a, se, W, G, hJ⟩ := hg
  replace h : ly c S := h
  replace h0 : S 0 = (100, L, f0) := h0
  replace hcc : c ≤ 595 + t := hcc
  replace hww : w ≤ w0 + 6 * t := hww
  replace hx : ∀ j, I 0 j = xs j := hx
  replace hJ : JJ I n wd q r a se W G := hJ
  have hc : 0 < c := by have := h.1; omega
  have hI0 : I 0 = xs := funext hx
  have hag := ca_image (K := K) (w := w)  h hJ
  rw [hI0] at hag
  obtain ⟨y, c1, w1, S1, I1, K1, I2, K3, hl, h1, h2, h3⟩ := lUi hag
  have h4 := hl.2.2.2.1
  have hc1 : 0 < c1 := by have := h4.1; omega
  have h01 : S1 0 = (100, L, f0) := by rw [hl.2.2.2.2.1, h0]
  unfold LC_35
  simp only
  rw [lc_64 h, h1, ly_cI, lc_108 h4, h2, ly_cI, if_pos rfl]
  exact nx_g hn h0 hcc hww hl h3
def LC_36 (l0 l1 l2 l3 : Nat) (again23 : (Int32 × pmM) → pmR) (s23 : Int32 × pmM) : pmR := (pm_rc 8 l1 s23.2 <| pm_cI (X8_restore l1 s23.2) fun x351 m350 => pm_rc 9 l2 m350 <| pm_cI (X9_restore l2 m350) fun x353 m352 => if x351 = x353 then (L_law__j2232 again23 l0 l1 l2 l3 s23.1 m352) else (pm_oI 0 m352))
theorem lc_36 {Rp : pmR → Prop} (hg : gd L f0 xs w0 t (c, w, S, I, K)) (hL : L ≤ 512) (ht : 8 * t + 8 ≤ L) (hn : nxt L f0 xs w0 t again Rp) : Rp (LC_36 0 64 108 594 again (nI (8 * t), (c, w, S, I, K))) := by
  obtain ⟨h, h0, hcc, hww, hx, n, wd, q, r, a, se, W, G, hJ⟩ := hg
  replace h : ly c S := h
  replace h0 : S 0 = (100, L, f0) := h0
  replace hcc : c ≤ 595 + t := hcc
  replace hww : w ≤ w0 + 6 * t := hww
  replace hx : ∀ j, I 0 j = xs j := hx
  replace hJ : JJ I n wd q r a se W G := hJ
  have hc : 0 < c := by have := h.1; omega
  have hI0 : I 0 = xs := funext hx
  have hag := ca_restore (K := K) (w := w)  h hJ
  rw [hI0] at hag
  obtain ⟨y, c1, w1, S1, I1, K1, I2, K3, hl, h1, h2, h3⟩ := lUi hag
  have h4 := hl.2.2.2.1
  have hc1 : 0 < c1 := by have := h4.1; omega
  have h01 : S1 0 = (100, L, f0) := by rw [hl.2.2.2.2.1, h0]
  unfold LC_36
  simp only
  rw [lc_64 h, h1, ly_cI, lc_108 h4, h2, ly_cI, if_pos rfl]
  exact nx_g hn h0 hcc hww hl h3
def LC_37 (l0 l1 l2 l3 : Nat) (again23 : (Int32 × pmM) → pmR) (s23 : Int32 × pmM) : pmR := (pm_ld 100 l0 (s23.1 + 1) s23.2 fun x354 => pm_rc 8 l1 s23.2 <| pm_cI (X8_status l1 x354 s23.2) fun x356 m355 => pm_ld 100 l0 (s23.1 + 1) m355 fun x357 => pm_rc 9 l2 m355 <| pm_cI (X9_status l2 x357 m355) fun x359 m358 => if x356 = x359 then (L_law__j2232 again23 l0 l1 l2 l3 s23.1 m358) else (pm_oI 0 m358))
theorem lc_37 {Rp : pmR → Prop} (hg : gd L f0 xs w0 t (c, w, S, I, K)) (hL : L ≤ 512) (ht : 8 * t + 8 ≤ L) (hn : nxt L f0 xs w0 t again Rp) : Rp (LC_37 0 64 108 594 again (nI (8 * t), (c, w, S, I, K))) := by
  obtain ⟨h, h0, hcc, hww, hx, n, wd, q, r, a, se, W, G, hJ⟩ := hg
  replace h : ly c S := h
  replace h0 : S 0 = (100, L, f0) := h0
  replace hcc : c ≤ 595 + t := hcc
  replace hww : w ≤ w0 + 6 * t := hww
  replace hx : ∀ j, I 0 j = xs j := hx
  replace hJ : JJ I n wd q r a se W G := hJ
  have hc : 0 < c := by have := h.1; omega
  have hI0 : I 0 = xs := funext hx
  have hag := ca_status (K := K) (w := w) (xs (8 * t + 1)) h hJ
  rw [hI0] at hag
  obtain ⟨y, c1, w1, S1, I1, K1, I2, K3, hl, h1, h2, h3⟩ := lUi hag
  have h4 := hl.2.2.2.1
  have hc1 : 0 < c1 := by have := h4.1; omega
  have h01 : S1 0 = (100, L, f0) := by rw [hl.2.2.2.2.1, h0]
  unfold LC_37
  simp only
  rw [sl (y := 1) hc h0 hx hL 1 rfl (by omega), lc_64 h, h1, ly_cI, sl (y := 1) hc1 h01 hl.2.2.2.2.2 hL 1 rfl (by omega), lc_108 h4, h2, ly_cI, if_pos rfl]
  exact nx_g hn h0 hcc hww hl h3
def LC_38 (l0 l1 l2 l3 : Nat) (again23 : (Int32 × pmM) → pmR) (s23 : Int32 × pmM) : pmR := (pm_ld 100 l0 (s23.1 + 1) s23.2 fun x360 => pm_rc 8 l1 s23.2 <| pm_cI (X8_count l1 x360 s23.2) fun x362 m361 => pm_ld 100 l0 (s23.1 + 1) m361 fun x363 => pm_rc 9 l2 m361 <| pm_cI (X9_count l2 x363 m361) fun x365 m364 => if x362 = x365 then (L_law__j2232 again23 l0 l1 l2 l3 s23.1 m364) else (pm_oI 0 m364))
theorem lc_38 {Rp : pmR → Prop} (hg : gd L f0 xs w0 t (c, w, S, I, K)) (hL : L ≤ 512) (ht : 8 * t + 8 ≤ L) (hn : nxt L f0 xs w0 t again Rp) : Rp (LC_38 0 64 108 594 again (nI (8 * t), (c, w, S, I, K))) := by
  obtain ⟨h, h0, hcc, hww, hx, n, wd, q, r, a, se, W, G, hJ⟩ := hg
  replace h : ly c S := h
  replace h0 : S 0 = (100, L, f0) := h0
  replace hcc : c ≤ 595 + t := hcc
  replace hww : w ≤ w0 + 6 * t := hww
  replace hx : ∀ j, I 0 j = xs j := hx
  replace hJ : JJ I n wd q r a se W G := hJ
  have hc : 0 < c := by have := h.1; omega
  have hI0 : I 0 = xs := funext hx
  have hag := ca_count (K := K) (w := w) (xs (8 * t + 1)) h hJ
  rw [hI0] at hag
  obtain ⟨y, c1, w1, S1, I1, K1, I2, K3, hl, h1, h2, h3⟩ := lUi hag
  have h4 := hl.2.2.2.1
  have hc1 : 0 < c1 := by have := h4.1; omega
  have h01 : S1 0 = (100, L, f0) := by rw [hl.2.2.2.2.1, h0]
  unfold LC_38
  simp only
  rw [sl (y := 1) hc h0 hx hL 1 rfl (by omega), lc_64 h, h1, ly_cI, sl (y := 1) hc1 h01 hl.2.2.2.2.2 hL 1 rfl (by omega), lc_108 h4, h2, ly_cI, if_pos rfl]
  exact nx_g hn h0 hcc hww hl h3
theorem law_loop {m : pmM} (hg : gd L f0 xs w0 0 m) (hL : L ≤ 512) : ∃ m', pm_lp pm_N (L_law__L23 0 64 108 594) (0, m) = pm_oI 1 m' ∧ m'.1 ≤ 595 + 64 ∧ m'.2.1 ≤ w0 + 6 * 64 := by
  refine ly_loop (fun t (m : pmM) => ((nI (8 * t), m) : Int32 × pmM)) (L / 8) (fun t m => gd L f0 xs w0 t m) (fun R => ∃ m', R = pm_oI 1 m' ∧ m'.1 ≤ 595 + 64 ∧ m'.2.1 ≤ w0 + 6 * 64) ?_ ?_ pm_N 0 m hg (by omega) (by rw [pm_NE]; omega)
  · intro again t m ht hg hn
    obtain ⟨c, w, S, I, K⟩ := m
    have ht8 : 8 * t + 8 ≤ L := by omega
    have hc : 0 < c := by have : 595 ≤ c := hg.1.1; omega
    have h0 : S 0 = (100, L, f0) := hg.2.1
    have hx : ∀ j, I 0 j = xs j := hg.2.2.2.2.1
    unfold L_law__L23
    simp only
    rw [sln hc h0, if_neg (show ¬ (nI L - 8) < nI (8 * t) from fun e => by
      rw [Int32.lt_iff_toInt_lt, nI_toInt (by omega)] at e
      have e2 : (nI L - 8).toInt = (L : Int) - 8 := pk_sub_toInt (a := L) (b := 8) (by omega) (by omega)
      omega), sl0 hc h0 hx hL (by omega), ly_bI]
    generalize xs (8 * t) &&& 63 = x11
    by_cases e0 : x11 = (0 : Int32)
    · rw [if_pos e0]; exact lc_0 (Rp := fun R => ∃ m', R = pm_oI 1 m' ∧ m'.1 ≤ 595 + 64 ∧ m'.2.1 ≤ w0 + 6 * 64) hg hL ht8 hn
    rw [if_neg e0]
    by_cases e1 : x11 = (1 : Int32)
    · rw [if_pos e1]; exact lc_1 (Rp := fun R => ∃ m', R = pm_oI 1 m' ∧ m'.1 ≤ 595 + 64 ∧ m'.2.1 ≤ w0 + 6 * 64) hg hL ht8 hn
    rw [if_neg e1]
    by_cases e2 : x11 = (2 : Int32)
    · rw [if_pos e2]; exact lc_2 (Rp := fun R => ∃ m', R = pm_oI 1 m' ∧ m'.1 ≤ 595 + 64 ∧ m'.2.1 ≤ w0 + 6 * 64) hg hL ht8 hn
    rw [if_neg e2]
    by_cases e3 : x11 = (3 : Int32)
    · rw [if_pos e3]; exact lc_3 (Rp := fun R => ∃ m', R = pm_oI 1 m' ∧ m'.1 ≤ 595 + 64 ∧ m'.2.1 ≤ w0 + 6 * 64) hg hL ht8 hn
    rw [if_neg e3]
    by_cases e4 : x11 = (4 : Int32)
    · rw [if_pos e4]; exact lc_4 (Rp := fun R => ∃ m', R = pm_oI 1 m' ∧ m'.1 ≤ 595 + 64 ∧ m'.2.1 ≤ w0 + 6 * 64) hg hL ht8 hn
    rw [if_neg e4]
    by_cases e5 : x11 = (5 : Int32)
    · rw [if_pos e5]; exact lc_5 (Rp := fun R => ∃ m', R = pm_oI 1 m' ∧ m'.1 ≤ 595 + 64 ∧ m'.2.1 ≤ w0 + 6 * 64) hg hL ht8 hn
    rw [if_neg e5]
    by_cases e6 : x11 = (6 : Int32)
    · rw [if_pos e6]; exact lc_6 (Rp := fun R => ∃ m', R = pm_oI 1 m' ∧ m'.1 ≤ 595 + 64 ∧ m'.2.1 ≤ w0 + 6 * 64) hg hL ht8 hn
    rw [if_neg e6]
    by_cases e7 : x11 = (7 : Int32)
    · rw [if_pos e7]; exact lc_7 (Rp := fun R => ∃ m', R = pm_oI 1 m' ∧ m'.1 ≤ 595 + 64 ∧ m'.2.1 ≤ w0 + 6 * 64) hg hL ht8 hn
    rw [if_neg e7]
    by_cases e8 : x11 = (8 : Int32)
    · rw [if_pos e8]; exact lc_8 (Rp := fun R => ∃ m', R = pm_oI 1 m' ∧ m'.1 ≤ 595 + 64 ∧ m'.2.1 ≤ w0 + 6 * 64) hg hL ht8 hn
    rw [if_neg e8]
    by_cases e9 : x11 = (9 : Int32)
    · rw [if_pos e9]; exact lc_9 (Rp := fun R => ∃ m', R = pm_oI 1 m' ∧ m'.1 ≤ 595 + 64 ∧ m'.2.1 ≤ w0 + 6 * 64) hg hL ht8 hn
    rw [if_neg e9]
    by_cases e10 : x11 = (10 : Int32)
    · rw [if_pos e10]; exact lc_10 (Rp := fun R => ∃ m', R = pm_oI 1 m' ∧ m'.1 ≤ 595 + 64 ∧ m'.2.1 ≤ w0 + 6 * 64) hg hL ht8 hn
    rw [if_neg e10]
    by_cases e11 : x11 = (11 : Int32)
    · rw [if_pos e11]; exact lc_11 (Rp := fun R => ∃ m', R = pm_oI 1 m' ∧ m'.1 ≤ 595 + 64 ∧ m'.2.1 ≤ w0 + 6 * 64) hg hL ht8 hn
    rw [if_neg e11]
    by_cases e12 : x11 = (12 : Int32)
    · rw [if_pos e12]; exact lc_12 (Rp := fun R => ∃ m', R = pm_oI 1 m' ∧ m'.1 ≤ 595 + 64 ∧ m'.2.1 ≤ w0 + 6 * 64) hg hL ht8 hn
    rw [if_neg e12]
    by_cases e13 : x11 = (13 : Int32)
    · rw [if_pos e13]; exact lc_13 (Rp := fun R => ∃ m', R = pm_oI 1 m' ∧ m'.1 ≤ 595 + 64 ∧ m'.2.1 ≤ w0 + 6 * 64) hg hL ht8 hn
    rw [if_neg e13]
    by_cases e14 : x11 = (14 : Int32)
    · rw [if_pos e14]; exact lc_14 (Rp := fun R => ∃ m', R = pm_oI 1 m' ∧ m'.1 ≤ 595 + 64 ∧ m'.2.1 ≤ w0 + 6 * 64) hg hL ht8 hn
    rw [if_neg e14]
    by_cases e15 : x11 = (15 : Int32)
    · rw [if_pos e15]; exact lc_15 (Rp := fun R => ∃ m', R = pm_oI 1 m' ∧ m'.1 ≤ 595 + 64 ∧ m'.2.1 ≤ w0 + 6 * 64) hg hL ht8 hn
    rw [if_neg e15]
    by_cases e16 : x11 = (16 : Int32)
    · rw [if_pos e16]; exact lc_16 (Rp := fun R => ∃ m', R = pm_oI 1 m' ∧ m'.1 ≤ 595 + 64 ∧ m'.2.1 ≤ w0 + 6 * 64) hg hL ht8 hn
    rw [if_neg e16]
    by_cases e17 : x11 = (17 : Int32)
    · rw [if_pos e17]; exact lc_17 (Rp := fun R => ∃ m', R = pm_oI 1 m' ∧ m'.1 ≤ 595 + 64 ∧ m'.2.1 ≤ w0 + 6 * 64) hg hL ht8 hn
    rw [if_neg e17]
    by_cases e18 : x11 = (18 : Int32)
    · rw [if_pos e18]; exact lc_18 (Rp := fun R => ∃ m', R = pm_oI 1 m' ∧ m'.1 ≤ 595 + 64 ∧ m'.2.1 ≤ w0 + 6 * 64) hg hL ht8 hn
    rw [if_neg e18]
    by_cases e19 : x11 = (19 : Int32)
    · rw [if_pos e19]; exact lc_19 (Rp := fun R => ∃ m', R = pm_oI 1 m' ∧ m'.1 ≤ 595 + 64 ∧ m'.2.1 ≤ w0 + 6 * 64) hg hL ht8 hn
    rw [if_neg e19]
    by_cases e20 : x11 = (20 : Int32)
    · rw [if_pos e20]; exact lc_20 (Rp := fun R => ∃ m', R = pm_oI 1 m' ∧ m'.1 ≤ 595 + 64 ∧ m'.2.1 ≤ w0 + 6 * 64) hg hL ht8 hn
    rw [if_neg e20]
    by_cases e21 : x11 = (21 : Int32)
    · rw [if_pos e21]; exact lc_21 (Rp := fun R => ∃ m', R = pm_oI 1 m' ∧ m'.1 ≤ 595 + 64 ∧ m'.2.1 ≤ w0 + 6 * 64) hg hL ht8 hn
    rw [if_neg e21]
    by_cases e22 : x11 = (22 : Int32)
    · rw [if_pos e22]; exact lc_22 (Rp := fun R => ∃ m', R = pm_oI 1 m' ∧ m'.1 ≤ 595 + 64 ∧ m'.2.1 ≤ w0 + 6 * 64) hg hL ht8 hn
    rw [if_neg e22]
    by_cases e23 : x11 = (23 : Int32)
    · rw [if_pos e23]; exact lc_23 (Rp := fun R => ∃ m', R = pm_oI 1 m' ∧ m'.1 ≤ 595 + 64 ∧ m'.2.1 ≤ w0 + 6 * 64) hg hL ht8 hn
    rw [if_neg e23]
    by_cases e24 : x11 = (24 : Int32)
    · rw [if_pos e24]; exact lc_24 (Rp := fun R => ∃ m', R = pm_oI 1 m' ∧ m'.1 ≤ 595 + 64 ∧ m'.2.1 ≤ w0 + 6 * 64) hg hL ht8 hn
    rw [if_neg e24]
    by_cases e25 : x11 = (25 : Int32)
    · rw [if_pos e25]; exact lc_25 (Rp := fun R => ∃ m', R = pm_oI 1 m' ∧ m'.1 ≤ 595 + 64 ∧ m'.2.1 ≤ w0 + 6 * 64) hg hL ht8 hn
    rw [if_neg e25]
    by_cases e26 : x11 = (26 : Int32)
    · rw [if_pos e26]; exact lc_26 (Rp := fun R => ∃ m', R = pm_oI 1 m' ∧ m'.1 ≤ 595 + 64 ∧ m'.2.1 ≤ w0 + 6 * 64) hg hL ht8 hn
    rw [if_neg e26]
    by_cases e27 : x11 = (27 : Int32)
    · rw [if_pos e27]; exact lc_27 (Rp := fun R => ∃ m', R = pm_oI 1 m' ∧ m'.1 ≤ 595 + 64 ∧ m'.2.1 ≤ w0 + 6 * 64) hg hL ht8 hn
    rw [if_neg e27]
    by_cases e28 : x11 = (28 : Int32)
    · rw [if_pos e28]; exact lc_28 (Rp := fun R => ∃ m', R = pm_oI 1 m' ∧ m'.1 ≤ 595 + 64 ∧ m'.2.1 ≤ w0 + 6 * 64) hg hL ht8 hn
    rw [if_neg e28]
    by_cases e29 : x11 = (29 : Int32)
    · rw [if_pos e29]; exact lc_29 (Rp := fun R => ∃ m', R = pm_oI 1 m' ∧ m'.1 ≤ 595 + 64 ∧ m'.2.1 ≤ w0 + 6 * 64) hg hL ht8 hn
    rw [if_neg e29]
    by_cases e30 : x11 = (30 : Int32)
    · rw [if_pos e30]; exact lc_30 (Rp := fun R => ∃ m', R = pm_oI 1 m' ∧ m'.1 ≤ 595 + 64 ∧ m'.2.1 ≤ w0 + 6 * 64) hg hL ht8 hn
    rw [if_neg e30]
    by_cases e31 : x11 = (31 : Int32)
    · rw [if_pos e31]; exact lc_31 (Rp := fun R => ∃ m', R = pm_oI 1 m' ∧ m'.1 ≤ 595 + 64 ∧ m'.2.1 ≤ w0 + 6 * 64) hg hL ht8 hn
    rw [if_neg e31]
    by_cases e32 : x11 = (32 : Int32)
    · rw [if_pos e32]; exact lc_32 (Rp := fun R => ∃ m', R = pm_oI 1 m' ∧ m'.1 ≤ 595 + 64 ∧ m'.2.1 ≤ w0 + 6 * 64) hg hL ht8 hn
    rw [if_neg e32]
    by_cases e33 : x11 = (33 : Int32)
    · rw [if_pos e33]; exact lc_33 (Rp := fun R => ∃ m', R = pm_oI 1 m' ∧ m'.1 ≤ 595 + 64 ∧ m'.2.1 ≤ w0 + 6 * 64) hg hL ht8 hn
    rw [if_neg e33]
    by_cases e34 : x11 = (34 : Int32)
    · rw [if_pos e34]; exact lc_34 (Rp := fun R => ∃ m', R = pm_oI 1 m' ∧ m'.1 ≤ 595 + 64 ∧ m'.2.1 ≤ w0 + 6 * 64) hg hL ht8 hn
    rw [if_neg e34]
    by_cases e35 : x11 = (35 : Int32)
    · rw [if_pos e35]; exact lc_35 (Rp := fun R => ∃ m', R = pm_oI 1 m' ∧ m'.1 ≤ 595 + 64 ∧ m'.2.1 ≤ w0 + 6 * 64) hg hL ht8 hn
    rw [if_neg e35]
    by_cases e36 : x11 = (36 : Int32)
    · rw [if_pos e36]; exact lc_36 (Rp := fun R => ∃ m', R = pm_oI 1 m' ∧ m'.1 ≤ 595 + 64 ∧ m'.2.1 ≤ w0 + 6 * 64) hg hL ht8 hn
    rw [if_neg e36]
    by_cases e37 : x11 = (37 : Int32)
    · rw [if_pos e37]; exact lc_37 (Rp := fun R => ∃ m', R = pm_oI 1 m' ∧ m'.1 ≤ 595 + 64 ∧ m'.2.1 ≤ w0 + 6 * 64) hg hL ht8 hn
    rw [if_neg e37]
    by_cases e38 : x11 = (38 : Int32)
    · rw [if_pos e38]; exact lc_38 (Rp := fun R => ∃ m', R = pm_oI 1 m' ∧ m'.1 ≤ 595 + 64 ∧ m'.2.1 ≤ w0 + 6 * 64) hg hL ht8 hn
    rw [if_neg e38]
    obtain ⟨g1, g2, g3, g4, g5⟩ := id hg
    exact nx_g (Rp := fun R => ∃ m', R = pm_oI 1 m' ∧ m'.1 ≤ 595 + 64 ∧ m'.2.1 ≤ w0 + 6 * 64) (c := c) (w := w) (S := S) (I1 := I) hn h0 g3 g4 ⟨by omega, by omega, by omega, g1, rfl, hx⟩ g5
  · intro again m hg
    obtain ⟨c, w, S, I, K⟩ := m
    have hc : 0 < c := by have : 595 ≤ c := hg.1.1; omega
    have h0 : S 0 = (100, L, f0) := hg.2.1
    obtain ⟨g1, g2, g3, g4, g5⟩ := id hg
    replace g3 : c ≤ 595 + L / 8 := g3
    replace g4 : w ≤ w0 + 6 * (L / 8) := g4
    unfold L_law__L23
    simp only
    rw [sln hc h0, if_pos (show (nI L - 8) < nI (8 * (L / 8)) from by
      rw [Int32.lt_iff_toInt_lt, nI_toInt (by omega)]
      have e2 : (nI L - 8).toInt = (L : Int) - 8 := pk_sub_toInt (a := L) (b := 8) (by omega) (by omega)
      omega)]
    exact ⟨(c, w, S, I, K), rfl, by show c ≤ _; omega, by show w ≤ _; omega⟩
end LLP
