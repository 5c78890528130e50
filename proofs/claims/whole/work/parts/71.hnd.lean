/-! hands by seeds -/
section HND
variable {c w : Nat} {S : Nat → pmS} {I I1 I2 J : Nat → Nat → Int32} {K K1 : Nat → Nat → Int64} {n : Nat} {wd : Nat → Nat} {q : Nat → Nat → Nat} {r : Nat → Int32} {a : Nat} {se : Nat → Nat} {W G d : Nat} {lw : (Nat → Int32) → Int32}
theorem tI_c (y : Int32) : y.toInt = if 2 * y.toBitVec.toNat < 2 ^ 32 then (y.toBitVec.toNat : Int) else (y.toBitVec.toNat : Int) - 2 ^ 32 := BitVec.toInt_eq_toNat_cond _
def dvn (x : Int32) : Nat := x.toBitVec.toNat / 65536 % 32768
theorem dv_M (x : Int32) : ((x >>> ((16 : Int32) &&& 31)) &&& 32767) = nI (dvn x) := by
  rw [pk_and (x >>> ((16 : Int32) &&& 31)) 15 (by decide)]
  congr 1
  have h1 := pk_shr x ((16 : Int32) &&& 31) 16 (by decide)
  rw [Int.shiftRight_eq_div_pow] at h1
  have e1 := tI_c x
  have e2 := tI_c (x >>> ((16 : Int32) &&& 31))
  have b1 : x.toBitVec.toNat < 2 ^ 32 := x.toBitVec.isLt
  have b2 : (x >>> ((16 : Int32) &&& 31)).toBitVec.toNat < 2 ^ 32 := (x >>> ((16 : Int32) &&& 31)).toBitVec.isLt
  unfold dvn
  generalize (x >>> ((16 : Int32) &&& 31)).toBitVec.toNat = Y at *
  generalize (x >>> ((16 : Int32) &&& 31)).toInt = YI at *
  generalize x.toBitVec.toNat = X at *
  generalize x.toInt = XI at *
  simp only [Nat.reducePow] at *
  split at e1 <;> split at e2 <;> omega
theorem dv_C (x : Int32) : ((x.toUInt32 >>> ((16 : Int32).toUInt32 &&& Int32.toUInt32 31)).toInt32 &&& 32767) = nI (dvn x) := by
  rw [pk_and _ 15 (by decide), pk_ushr x 16 16 (by decide)]
  rfl
def nx (s : Int32) : Int32 := s * 1103515245 + 12345
theorem dw_Cc {m : Nat} (h : ly c S) (hd : dk d) (h0 : 0 < m) (hm : m < 100) : X0_drawnBy d (nI m) (c, w, S, I, K) = pm_oI (nI (dvn (nx (I d 8)) % m)) (c, w, S, ly_u I d 8 (nx (I d 8)), K) := by
  unfold X0_drawnBy X0_drawnBy_j36
  have e8 : ∀ y, ly_u I d 8 y d 8 = y := fun y => by rw [ly_uE, if_pos ⟨rfl, rfl⟩]
  rw [lk_g h hd, lk_p h hd, if_neg (nI_nle h0 (by omega)), lk_g h hd, e8, if_neg (nI_ne0 h0 (by omega))]
  show pm_oI ((((nx (I d 8)).toUInt32 >>> ((16 : Int32).toUInt32 &&& Int32.toUInt32 31)).toInt32 &&& 32767) - (((nx (I d 8)).toUInt32 >>> ((16 : Int32).toUInt32 &&& Int32.toUInt32 31)).toInt32 &&& 32767) / nI m * nI m) _ = _
  rw [dv_C, pk_rem (by unfold dvn; omega) h0 (by omega)]
  rfl
theorem dw_M {m : Nat} (h : ly c S) (h0 : 0 < m) (hm : m < 100) : X9_draw 108 (nI m) (c, w, S, I, K) = pm_oI (nI (dvn (nx (I 108 54)) % m)) (c, w, S, ly_u I 108 54 (nx (I 108 54)), K) := by
  unfold X9_draw
  have e8 : ∀ y, ly_u I 108 54 y 108 54 = y := fun y => by rw [ly_uE, if_pos ⟨rfl, rfl⟩]
  rw [lg_108 h, lp_108 h, lg_108 h, e8, if_neg (nI_ne0 h0 (by omega))]
  show pm_oI (((nx (I 108 54) >>> ((16 : Int32) &&& 31)) &&& 32767) - ((nx (I 108 54) >>> ((16 : Int32) &&& 31)) &&& 32767) / nI m * nI m) _ = _
  rw [dv_M, pk_rem (by unfold dvn; omega) h0 (by omega)]
  rfl
theorem mr_max {a b : Nat} (ha : a < 2 ^ 31) (hb : b < 2 ^ 31) (m : pmM) : X9_more (nI a) (nI b) m = pm_oI (nI (max a b)) m := by
  rw [rm_more]
  by_cases h9 : a ≤ b
  · rw [if_pos (nI_le h9 hb), Nat.max_eq_right h9]
  · rw [if_neg (nI_ge (by omega) ha), Nat.max_eq_left (by omega)]
variable {D : Int32 → Nat} {X : Int32 → Int32} {Q : Nat}
/-- one time of a hand -/
def hd1 (D : Int32 → Nat) (X : Int32 → Int32) (n : Nat) (wd : Nat → Nat) (q : Nat → Nat → Nat) (lw : (Nat → Int32) → Int32) (Q : Nat) (x : Int32) (r : Nat → Int32) : Nat → Int32 :=
  let r1 := (rsk n wd lw r (D (X x) % n) (min (D (X (X x)) % wd (D (X x) % n)) (D (X (X (X x))) % wd (D (X x) % n))) (max (D (X (X x)) % wd (D (X x) % n)) (D (X (X (X x))) % wd (D (X x) % n)))).2
  if D (X (X (X (X x)))) % 16 < Q then (if rd_s r1 11 < n then rdk n wd q 3 r1 else (rbg n r1).2) else r1
def hdk (D : Int32 → Nat) (X : Int32 → Int32) (n : Nat) (wd : Nat → Nat) (q : Nat → Nat → Nat) (lw : (Nat → Int32) → Int32) (Q : Nat) : Nat → Int32 → (Nat → Int32) → (Nat → Int32)
  | 0, _, r => r
  | k + 1, x, r => hdk D X n wd q lw Q k (X (X (X (X x)))) (hd1 D X n wd q lw Q x r)
/-- the row behind a hand -/
def hdr (D : Int32 → Nat) (X : Int32 → Int32) (n : Nat) (wd : Nat → Nat) (q : Nat → Nat → Nat) (lw : (Nat → Int32) → Int32) (Q k : Nat) (s : Int32) (r : Nat → Int32) : Nat → Int32 := if n = 0 then r else hdk D X n wd q lw Q k s r
theorem hd1_W {x : Int32} (hW : pg_W n wd q) (hn : 0 < n) (hr : dk_W n wd r) : dk_W n wd (hd1 D X n wd q lw Q x r) := by
  have h1 := rsk_W (lw := lw) (i := min (D (X (X x)) % wd (D (X x) % n)) (D (X (X (X x))) % wd (D (X x) % n))) (j := max (D (X (X x)) % wd (D (X x) % n)) (D (X (X (X x))) % wd (D (X x) % n))) hW hr (Nat.mod_lt (D (X x)) hn)
  unfold hd1
  simp only
  split
  · split
    · exact rdk_W hW h1
    · exact rbg_W h1 hW.1
  · exact h1
theorem hdk_W (hW : pg_W n wd q) (hn : 0 < n) (k : Nat) : ∀ (x : Int32) (r : Nat → Int32), dk_W n wd r → dk_W n wd (hdk D X n wd q lw Q k x r) := by
  induction k with
  | zero => intro x r h; exact h
  | succ k ih => intro x r h; exact ih _ _ (hd1_W hW hn h)
theorem hdr_W {k : Nat} {s : Int32} (hW : pg_W n wd q) (hr : dk_W n wd r) : dk_W n wd (hdr D X n wd q lw Q k s r) := by
  unfold hdr
  split
  · exact hr
  · exact hdk_W hW (by omega) k _ _ hr
theorem dk_C_8 {y : Int32} (hC : dk_C I d r) : dk_C (ly_u I d 8 y) d r := by
  obtain ⟨h1, h2, h3, h4, h5, h6⟩ := hC
  refine ⟨fun l hl => ?_, fun k hk => ?_, ?_, ?_, ?_, ?_⟩
  · rw [ly_uE, if_neg (by omega)]; exact h1 l hl
  · rw [ly_uE, if_neg (by omega)]; exact h2 k hk
  all_goals rw [ly_uE, if_neg (by omega)]; assumption
theorem dk_M_8 {y : Int32} (ha : rwa a) (hC : dk_M I a r) : dk_M (ly_u I 108 54 y) a r := fun k hk => by
  have := rwa_lt ha
  rw [ly_uE, if_neg (by omega)]; exact hC k hk
end HND
