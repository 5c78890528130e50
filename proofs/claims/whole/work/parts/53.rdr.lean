/-! two readers side by side -/
section RDR
variable {c w : Nat} {S : Nat → pmS} {I I1 I2 J I0 J0 : Nat → Nat → Int32} {K K2 : Nat → Nat → Int64} {T : Nat → Nat} {L p g n : Nat} {s v x : Int32}
theorem ly_wh2 {σ τ α : Type} {bC : (σ → pmR) → σ → pmR} {bM : (τ → pmR) → τ → pmR} (μ : α → Nat) (sC : α → σ) (sM : α → τ) (Rp : α → pmR → pmR → Prop) (hs : ∀ aC aM a, (∀ t, ∃ b, aM t = bM b t) → (∀ a', μ a' < μ a → Rp a' (aC (sC a')) (aM (sM a'))) → Rp a (bC aC (sC a)) (bM aM (sM a))) : ∀ N M a, μ a < N → μ a + 1 < M → Rp a (pm_lp N bC (sC a)) (pm_lp M bM (sM a)) := by
  intro N
  induction N with
  | zero => intro M a h; omega
  | succ N ih =>
    intro M a h h2
    match M, h2 with
    | M + 2, h2 => exact hs (pm_lp N bC) (pm_lp (M + 1) bM) a (fun t => ⟨pm_lp M bM, rfl⟩) (fun a' ha' => ih (M + 1) a' (by omega) (by omega))
theorem ly_cc {r : pmR} {f g : Int32 → pmM → pmR} : pm_cI (pm_cI r f) g = pm_cI r (fun v m => pm_cI (f v m) g) := by
  rcases r with _ | ⟨(_ | u) | k, m⟩
  · rfl
  · rfl
  · cases u <;> rfl
  · rfl
theorem ly_cvc {r : pmR} {f : pmM → pmR} {g : Int32 → pmM → pmR} : pm_cI (pm_cV r f) g = pm_cV r (fun m => pm_cI (f m) g) := by
  rcases r with _ | ⟨(_ | u) | k, m⟩
  · rfl
  · rfl
  · cases u <;> rfl
  · rfl
theorem ly_cvv {r : pmR} {f g : pmM → pmR} : pm_cV (pm_cV r f) g = pm_cV r (fun m => pm_cV (f m) g) := by
  rcases r with _ | ⟨(_ | u) | k, m⟩
  · rfl
  · rfl
  · cases u <;> rfl
  · rfl
theorem ly_civ {r : pmR} {f : Int32 → pmM → pmR} {g : pmM → pmR} : pm_cV (pm_cI r f) g = pm_cI r (fun v m => pm_cV (f v m) g) := by
  rcases r with _ | ⟨(_ | u) | k, m⟩
  · rfl
  · rfl
  · cases u <;> rfl
  · rfl
theorem i10 {A B : pmR} : (if (1 : Int32) = 0 then A else B) = B := if_neg (by decide)
theorem i00 {A B : pmR} : (if (0 : Int32) = 0 then A else B) = A := if_pos rfl
theorem n00 {A B : pmR} : (if nI 0 = 0 then A else B) = A := if_pos rfl
theorem nk0 {A B : pmR} {k : Nat} (h : 1 ≤ k ∧ k ≤ 3) : (if nI k = 0 then A else B) = B := if_neg (nI_ne0 (by omega) (by omega))
theorem ib1 {A B : pmR} : (if ly_b true = 0 then A else B) = B := if_neg (by decide)
theorem ib0 {A B : pmR} : (if ly_b false = 0 then A else B) = A := if_pos rfl
/-- nothing else differs -/
def only (P : Nat → Nat → Prop) (I I1 : Nat → Nat → Int32) : Prop := ∀ i j, ¬ P i j → I1 i j = I i j
variable {P Q : Nat → Nat → Prop}
theorem only_r : only P I I := fun _ _ _ => rfl
theorem only_t (h : only P I I1) (h2 : only P I1 I2) : only P I I2 := fun i j hn => (h2 i j hn).trans (h i j hn)
theorem only_u {a k : Nat} {y : Int32} (h : only P I I1) (ha : P a k) : only P I (ly_u I1 a k y) := by
  intro i j hn
  rw [ly_uE, if_neg (by rintro ⟨rfl, rfl⟩; exact hn ha)]
  exact h i j hn
theorem only_m (h : only P I I1) (hm : ∀ i j, P i j → Q i j) : only Q I I1 := fun i j hn => h i j (fun e => hn (hm i j e))
theorem only_tf {k q : Nat} (h : only P I I1) (h6 : P 65 6) (h7 : P 65 7) : only P I (tf I1 k q) := only_u (only_u h h6) h7
theorem tB_o (h : tB I T L) (ho : only P I I1) (h2 : ¬ P 65 2) (h6 : ∀ k, k < 600 → ¬ P 66 k) : tB I1 T L := by
  refine ⟨?_, h.2.1, fun k hk => ?_⟩
  · rw [ho 65 2 h2]; exact h.1
  · rw [ho 66 k (h6 k hk)]; exact h.2.2 k hk
theorem mB_o (h : mB I T L) (ho : only P I I1) (h2 : ¬ P 108 2) (h6 : ∀ k, k < 600 → ¬ P 109 k) : mB I1 T L := by
  refine ⟨?_, h.2.1, fun k hk => ?_⟩
  · rw [ho 108 2 h2]; exact h.1
  · rw [ho 109 k (h6 k hk)]; exact h.2.2 k hk
theorem jk_o (h : jk I) (ho : only P I I1) (hP : ∀ i j, i < 64 → ¬ P i j) : jk I1 := by
  obtain ⟨h1, h2, h3⟩ := h
  refine ⟨fun j hj => ?_, fun j hj => ?_, fun k j hk hj => ?_⟩
  · rw [ho 1 j (hP 1 j (by omega))]; exact h1 j hj
  · rw [ho 2 j (hP 2 j (by omega))]; exact h2 j hj
  · rw [ho (33 + k) j (hP _ j (by omega))]; exact h3 k j hk hj
/-- both read well, or both find one fault at one place -/
def rO (c w : Nat) (S : Nat → pmS) (K K2 : Nat → Nat → Int64) (P Q : Nat → Nat → Prop) (I J : Nat → Nat → Int32) (x : Int32) (G : (Nat → Nat → Int32) → (Nat → Nat → Int32) → Nat → Prop) (RC RM : pmR) : Prop :=
  (∃ I1 J1 p s v, RC = pm_oI 1 (c, w, S, tx I1 p s v, K) ∧ RM = pm_oV (c, w, S, mx J1 p 0 x, K2) ∧ only P I I1 ∧ only Q J J1 ∧ G I1 J1 p) ∨
  (∃ I1 J1 p p2 s v k q, RC = pm_oI 0 (c, w, S, tx (tf I1 k q) p s v, K) ∧ RM = pm_oV (c, w, S, mx J1 p2 k (nI q), K2) ∧ (1 ≤ k ∧ k ≤ 3 ∧ q ≤ 600 ∧ p2 ≤ 600) ∧ only P I I1 ∧ only Q J J1)
theorem rO_m {P2 Q2 : Nat → Nat → Prop} {G G2 : (Nat → Nat → Int32) → (Nat → Nat → Int32) → Nat → Prop} {RC RM : pmR} (h : rO c w S K K2 P Q I J x G RC RM) (hP : ∀ i j, P i j → P2 i j) (hQ : ∀ i j, Q i j → Q2 i j) (hI : only P2 I0 I) (hJ : only Q2 J0 J) (hG : ∀ I1 J1 p, only P I I1 → only Q J J1 → G I1 J1 p → G2 I1 J1 p) : rO c w S K K2 P2 Q2 I0 J0 x G2 RC RM := by
  rcases h with ⟨I1, J1, p, s, v, h1, h2, h3, h4, h5⟩ | ⟨I1, J1, p, p2, s, v, k, q, h1, h2, h3, h4, h5⟩
  · exact Or.inl ⟨I1, J1, p, s, v, h1, h2, only_t hI (only_m h3 hP), only_t hJ (only_m h4 hQ), hG I1 J1 p h3 h4 h5⟩
  · exact Or.inr ⟨I1, J1, p, p2, s, v, k, q, h1, h2, h3, only_t hI (only_m h4 hP), only_t hJ (only_m h5 hQ)⟩
theorem tb_ne {k : Nat} (h : ¬ p < L) (hk : k < 2 ^ 31) : ¬ tb T L p = nI k := by
  rw [tb_ge h]
  intro e
  have := (ng_peq (a := 1) (by omega) hk).mp e
  omega
theorem tb_lL {k : Nat} (h : tb T L p = nI k) (hk : k < 2 ^ 31) : p < L := by
  rcases Nat.lt_or_ge p L with h1 | h1
  · exact h1
  · exact absurd h (tb_ne (by omega) hk)
theorem tb_end (hT : ∀ k, k < 600 → T k < 256) (hL : L ≤ 600) (hp : p ≤ L) : tb T L p = -1 ↔ p = L := by
  constructor
  · intro h
    rcases Nat.lt_or_ge p L with h1 | h1
    · rw [tb_lt h1] at h
      have := (ng_eqp (a := 1) (by omega) (by have := hT p (by omega); omega)).mp h
      omega
    · omega
  · intro h
    rw [tb_ge (by omega)]
    rfl
theorem tI_cases (f : Nat → Bool) (T : Nat → Nat) (L p : Nat) : tI f T L p = true ∨ tI f T L p = false := by cases tI f T L p <;> simp
/-- a number of the one and of the other -/
theorem rO_num {lo hi : Int32} {B p2 : Nat} (h : ly c S) (hT : tB I T L) (hM : mB J T L) (hp : p ≤ L) (hp2 : p2 ≤ L) (hpp : tS T L p2 = tS T L p) (hb : ∀ z : Nat, z ≤ 100000 → nI z ≤ hi → z ≤ B) {RC : Int32 → pmM → pmR} {RM : Int32 → pmM → pmR} {G : (Nat → Nat → Int32) → (Nat → Nat → Int32) → Nat → Prop}
    (hok : ∀ z, lo ≤ nI z → z ≤ B → tS T L p < L → tE iDg T L (tS T L p) ≤ L → tS T L p < tE iDg T L (tS T L p) → rO c w S K K2 P Q I0 J0 x G (RC 1 (c, w, S, tx I (tE iDg T L (tS T L p)) (nI (tS T L p)) (nI z), K)) (RM (nI z) (c, w, S, mx J (tE iDg T L (tS T L p)) 0 x, K2)))
    (hno : ∀ k q pp s v, 1 ≤ k ∧ k ≤ 3 ∧ q ≤ 600 ∧ pp ≤ 600 → rO c w S K K2 P Q I0 J0 x G (RC 0 (c, w, S, tx (tf I k q) pp s v, K)) (RM 0 (c, w, S, mx J pp k (nI q), K2))) :
    rO c w S K K2 P Q I0 J0 x G (pm_cI (X7_takeNumber 65 lo hi (c, w, S, tx I p s v, K)) RC) (pm_cI (X9_number 108 lo hi (c, w, S, mx J p2 0 x, K2)) RM) := by
  have hq : tS T L p ≤ L := tE_lL hp
  have hL := hT.2.1
  rcases tI_cases iDg T L (tS T L p) with hd | hd
  · by_cases hr : lo ≤ nI (tN T L (tS T L p)) ∧ nI (tN T L (tS T L p)) ≤ hi
    · rw [tx_num1 h hT hp hd hr, mx_num1 h hM hp2 (by rw [hpp]; exact hd) (by rw [hpp]; exact hr), ly_cI, ly_cI, hpp]
      exact hok _ hr.1 (hb _ tN_le hr.2) (of_decide_eq_true hd).1 (tE_lL hq) (tE_gt hd)
    · rw [tx_num2 h hT hp hd hr, mx_num2 h hM hp2 (by rw [hpp]; exact hd) (by rw [hpp]; exact hr), ly_cI, ly_cI, hpp]
      exact hno _ _ _ _ _ (by have := tE_lL (f := iDg) (T := T) hq; omega)
  · rw [tx_num0 h hT hp hd, mx_num0 h hM hp2 (by rw [hpp]; exact hd), ly_cI, ly_cI, hpp]
    exact hno _ _ _ _ _ (by have := tE_lL (f := iDg) (T := T) hq; omega)
theorem rO_sign {k p2 : Nat} (h : ly c S) (hT : tB I T L) (hM : mB J T L) (hp : p ≤ L) (hp2 : p2 ≤ L) (hpp : tS T L p2 = tS T L p) (hk : k < 256) {RC : Int32 → pmM → pmR} {RM : pmM → pmR} {G : (Nat → Nat → Int32) → (Nat → Nat → Int32) → Nat → Prop}
    (hok : tb T L (tS T L p) = nI k → tS T L p < L → p ≤ tS T L p → rO c w S K K2 P Q I0 J0 x G (RC 1 (c, w, S, tx I (tS T L p + 1) s v, K)) (RM (c, w, S, mx J (tS T L p + 1) 0 x, K2)))
    (hno : ∀ q pp, 1 ≤ 1 ∧ 1 ≤ 3 ∧ q ≤ 600 ∧ pp ≤ 600 → rO c w S K K2 P Q I0 J0 x G (RC 0 (c, w, S, tx (tf I 1 q) pp s v, K)) (RM (c, w, S, mx J pp 1 (nI q), K2))) :
    rO c w S K K2 P Q I0 J0 x G (pm_cI (X7_takeSign 65 (nI k) (c, w, S, tx I p s v, K)) RC) (pm_cV (X9_sign 108 (nI k) (c, w, S, mx J p2 0 x, K2)) RM) := by
  have hq : tS T L p ≤ L := tE_lL hp
  have hL := hT.2.1
  by_cases hb : tb T L (tS T L p) = nI k
  · rw [tx_sign_ok h hT hp hb, mx_sign_ok h hM hp2 (by rw [hpp]; exact hb), ly_cI, ly_cV, hpp]
    exact hok hb (tb_lL hb (by omega)) (tE_ge hp)
  · rw [tx_sign_no h hT hp hb, mx_sign_no h hM hp2 (by rw [hpp]; exact hb), ly_cI, ly_cV, hpp]
    exact hno _ _ (by omega)
/-- both have the fault -/
theorem rO_no {G : (Nat → Nat → Int32) → (Nat → Nat → Int32) → Nat → Prop} {I1 J1 : Nat → Nat → Int32} {pp p2 k q : Nat} {s v : Int32} (hk : 1 ≤ k ∧ k ≤ 3 ∧ q ≤ 600 ∧ p2 ≤ 600) (hI : only P I I1) (hJ : only Q J J1) : rO c w S K K2 P Q I J x G (pm_oI 0 (c, w, S, tx (tf I1 k q) pp s v, K)) (pm_oV (c, w, S, mx J1 p2 k (nI q), K2)) := Or.inr ⟨I1, J1, pp, p2, s, v, k, q, rfl, rfl, hk, hI, hJ⟩
theorem rO_ok {G : (Nat → Nat → Int32) → (Nat → Nat → Int32) → Nat → Prop} {I1 J1 : Nat → Nat → Int32} {pp : Nat} {s v : Int32} (hI : only P I I1) (hJ : only Q J J1) (hG : G I1 J1 pp) : rO c w S K K2 P Q I J x G (pm_oI 1 (c, w, S, tx I1 pp s v, K)) (pm_oV (c, w, S, mx J1 pp 0 x, K2)) := Or.inl ⟨I1, J1, pp, s, v, rfl, rfl, hI, hJ, hG⟩
/-- on behind a reader -/
theorem rO_b {P2 Q2 : Nat → Nat → Prop} {G G2 : (Nat → Nat → Int32) → (Nat → Nat → Int32) → Nat → Prop} {RC RM : pmR} {FC : Int32 → pmM → pmR} {FM : pmM → pmR} (h : rO c w S K K2 P Q I J x G RC RM)
    (hok : ∀ I1 J1 p s v, only P I I1 → only Q J J1 → G I1 J1 p → rO c w S K K2 P2 Q2 I0 J0 x G2 (FC 1 (c, w, S, tx I1 p s v, K)) (FM (c, w, S, mx J1 p 0 x, K2)))
    (hno : ∀ I1 J1 p p2 s v k q, only P I I1 → only Q J J1 → 1 ≤ k ∧ k ≤ 3 ∧ q ≤ 600 ∧ p2 ≤ 600 → rO c w S K K2 P2 Q2 I0 J0 x G2 (FC 0 (c, w, S, tx (tf I1 k q) p s v, K)) (FM (c, w, S, mx J1 p2 k (nI q), K2))) : rO c w S K K2 P2 Q2 I0 J0 x G2 (pm_cI RC FC) (pm_cV RM FM) := by
  rcases h with ⟨I1, J1, p, s, v, h1, h2, h3, h4, h5⟩ | ⟨I1, J1, p, p2, s, v, k, q, h1, h2, h3, h4, h5⟩
  · rw [h1, h2, ly_cI, ly_cV]
    exact hok I1 J1 p s v h3 h4 h5
  · rw [h1, h2, ly_cI, ly_cV]
    exact hno I1 J1 p p2 s v k q h4 h5 h3
end RDR
