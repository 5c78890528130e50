/-! span -/
section SPN
variable {c w : Nat} {S : Nat → pmS} {I I1 I2 J : Nat → Nat → Int32} {K K1 : Nat → Nat → Int64} {n : Nat} {wd : Nat → Nat} {q : Nat → Nat → Nat} {r : Nat → Int32} {a : Nat} {se : Nat → Nat} {W G d : Nat} {lw : (Nat → Int32) → Int32} {Q : Nat} {D : Int32 → Nat} {X : Int32 → Int32} {T : Nat} {L E : Nat → Nat}
def smn (T : Nat) (L : Nat → Nat) : Nat → Nat
  | 0 => T
  | i + 1 => min (smn T L i) (L i)
def smx (L : Nat → Nat) : Nat → Nat
  | 0 => 0
  | i + 1 => max (smx L i) (L i)
def scn (E : Nat → Nat) : Nat → Nat
  | 0 => 0
  | i + 1 => scn E i + (if E i = 0 then 1 else 0)
theorem smn_s {i : Nat} : smn T L (i + 1) = min (smn T L i) (L i) := rfl
theorem smx_s {i : Nat} : smx L (i + 1) = max (smx L i) (L i) := rfl
theorem scn_1 {i : Nat} (h : E i = 0) : scn E (i + 1) = scn E i + 1 := by
  show scn E i + (if E i = 0 then 1 else 0) = _
  rw [if_pos h]
theorem scn_0 {i : Nat} (h : ¬ E i = 0) : scn E (i + 1) = scn E i := by
  show scn E i + (if E i = 0 then 1 else 0) = _
  rw [if_neg h]; rfl
theorem smn_b : ∀ {i : Nat}, smn T L i ≤ T
  | 0 => Nat.le_refl _
  | i + 1 => Nat.le_trans (Nat.min_le_left _ _) (smn_b (i := i))
theorem smx_b (h : ∀ i, L i ≤ T) : ∀ {i : Nat}, smx L i ≤ T
  | 0 => Nat.zero_le _
  | i + 1 => Nat.max_le.mpr ⟨smx_b h, h i⟩
def spr (T : Nat) (L E : Nat → Nat) (m v : Nat) : Int32 := if v = 0 then nI (smn T L m) else if v = 1 then nI (smx L m) else nI (scn E m)
theorem la_b (s : Nat → Nat) : rd_la n wd s ≤ rd_sum wd n := rd_sum_le (fun l _ => Nat.sub_le _ _)
theorem lsq_min {i j : Nat} (hi : i < 100) (hj : j < 100) : (if nI j ≤ nI i then nI j else nI i) = nI (min i j) := by
  by_cases e : j ≤ i
  · rw [if_pos (nI_le e (by omega)), Nat.min_eq_right e]
  · rw [if_neg (nI_ge (by omega) (by omega)), Nat.min_eq_left (by omega)]
theorem sn_C {s : Int32} {m k v l : Nat} {H : Nat → Nat → Int32} (hw : wC D X) (h : ly c S) (hJ : JJ I n wd q r a se W G) (hm : m ≤ 20) (hk : k < 100) (hQ : Q ≤ 16) (hv : v < 3) (hl : l < n) (hH : ∀ i, H i = hdr D X n wd q (lwp I) Q k (s + nI i) r) : ∃ B, pm_lp pm_N (X8_span_L68 64 s (nI m) (nI k) (nI Q) (nI v) (nI l)) (nI (rd_sum wd n), 0, 0, 0, (c, w, S, I, K)) = pm_oI (spr (rd_sum wd n) (fun i => rd_la n wd (rd_s (H i))) (fun i => rd_lf wd (rd_s (H i)) l) m v) (c, w, S, B, K) ∧ same I B := by
  obtain ⟨hPC, hPM, hDC, hDM, hr, hT, hS, hHh, hc, hkk, hL⟩ := id hJ
  have hW := hPC.1
  have hn6 := hW.1
  have hsm := sum_48 hW (Nat.le_refl n)
  have hWi : ∀ i, dk_W n wd (H i) := fun i => by rw [hH]; exact hdr_W hPC.1 hr
  have hLb : ∀ i, (fun i => rd_la n wd (rd_s (H i))) i ≤ rd_sum wd n := fun i => la_b _
  generalize hLL : (fun i => rd_la n wd (rd_s (H i))) = L at hLb ⊢
  generalize hEE : (fun i => rd_lf wd (rd_s (H i)) l) = E
  refine ly_loop (fun i (A : Nat → Nat → Int32) => ((nI (smn (rd_sum wd n) L i), nI (smx L i), nI (scn E i), nI i, (c, w, S, A, K)) : Int32 × Int32 × Int32 × Int32 × pmM)) m (fun i A => same I A) (fun R => ∃ B, R = pm_oI (spr (rd_sum wd n) L E m v) (c, w, S, B, K) ∧ same I B) ?_ ?_ pm_N 0 I same_r (by omega) (by rw [pm_NE]; omega)
  · intro again i A hi hA hn
    have hb1 : smn (rd_sum wd n) L i ≤ rd_sum wd n := smn_b
    have hb2 : smx L i ≤ rd_sum wd n := smx_b hLb
    have hb3 := hLb i
    have eL : nI (rd_la n wd (rd_s (H i))) = nI (L i) := by rw [← hLL]
    have eE : rd_lf wd (rd_s (H i)) l = E i := by rw [← hEE]
    obtain ⟨A1, g1, g2, g3⟩ := to_C (w := w) (K := K) h (dk_C_same hDC hA)
    have hEA : eC A n wd q (lwp I) := ⟨pg_C_same hPC hA, jl_same hL hA, fun kn => lwp_s hL hA⟩
    obtain ⟨B, k1, k2, k3⟩ := hp_C (w := w) (K := K) (k := k) (s := s + nI i) (Q := Q) hw h (eC_o dk_96 hEA g3) dk_96 g2 hr hk hQ
    rw [← hH i] at k2
    have hsB : same I B := same_t hA (PE_s (only_t (PD_e g3) k3))
    have hPB := pg_C_same hPC hsB
    have hn1 := hn B hsB
    rw [smn_s, smx_s] at hn1
    unfold X8_span_L68
    simp only
    rw [if_neg (nI_ge hi (by omega)), lr_64_9 h, lr_64_8 h, lc_96 h, g1, ly_cV, lr_64_9 h, lc_96 h, k1, ly_cV, lr_64_9 h, lc_96 h, rd_leftInAll h hPB dk_96 k2 (hWi i), ly_cI, ly_bI, lr_64_9 h, lc_96 h, rd_leftInAll h hPB dk_96 k2 (hWi i), ly_cI, ly_bI, lr_64_9 h, lc_96 h, rd_leftIn h hPB dk_96 k2 (hWi i) hl, ly_cI, eL, eE, (mn_C (i := smn (rd_sum wd n) L i) (j := L i) (by omega) (by omega)).1, (mn_C (i := smx L i) (j := L i) (by omega) (by omega)).2]
    unfold X8_span_j146
    by_cases e : E i = 0
    · rw [scn_1 e] at hn1
      rw [e, n00, ly_bI, ly_bI, nI_1, nI_1]
      exact hn1
    · rw [scn_0 e] at hn1
      have h8 := rd_lf8 hW (s := rd_s (H i)) l
      rw [eE] at h8
      rw [if_neg (nI_ne0 (by omega) (by omega)), ly_bI, ly_bI, Int32.add_zero, nI_1]
      exact hn1
  · intro again A hA
    unfold X8_span_L68 X8_span_j178
    simp only
    rw [if_pos (nI_le (Nat.le_refl _) (by omega))]
    refine ⟨A, ?_, hA⟩
    unfold spr
    rcases (show v = 0 ∨ v = 1 ∨ v = 2 by omega) with rfl | rfl | rfl
    · rw [n00, if_pos rfl]
    · rw [if_neg (show ¬ nI 1 = 0 by decide), if_pos (show nI 1 = 1 from rfl), if_neg (by decide), if_pos rfl]
    · rw [if_neg (show ¬ nI 2 = 0 by decide), if_neg (show ¬ nI 2 = 1 by decide), if_neg (by decide), if_neg (by decide)]
theorem sn_M {s : Int32} {m k v l : Nat} {H : Nat → Nat → Int32} (hw : wM D X) (h : ly c S) (hE : eM J n wd q lw) (hC : dk_M J 535 r) (hr : dk_W n wd r) (hm1 : 1 ≤ m) (hm : m ≤ 20) (hk : k < 100) (hQ : Q ≤ 16) (hv : v < 3) (hl : l < n) (hH : ∀ i, H i = hdr D X n wd q lw Q k (s + nI i) r) : ∃ B, pm_lp pm_N (X9_span_L71 108 s (nI m) (nI k) (nI Q) (nI v) (nI l)) (-1, 0, 0, 0, (c, w, S, J, K)) = pm_oI (spr (rd_sum wd n) (fun i => rd_la n wd (rd_s (H i))) (fun i => rd_lf wd (rd_s (H i)) l) m v) (c, w, S, B, K) ∧ only (PF 536) J B := by
  have hW := hE.1.1
  have hn6 := hW.1
  have hsm := sum_48 hW (Nat.le_refl n)
  have hWi : ∀ i, dk_W n wd (H i) := fun i => by rw [hH]; exact hdr_W hW hr
  have hLb : ∀ i, (fun i => rd_la n wd (rd_s (H i))) i ≤ rd_sum wd n := fun i => la_b _
  generalize hLL : (fun i => rd_la n wd (rd_s (H i))) = L at hLb ⊢
  generalize hEE : (fun i => rd_lf wd (rd_s (H i)) l) = E
  refine ly_loop (fun i (A : Nat → Nat → Int32) => (((if i = 0 then -1 else nI (smn (rd_sum wd n) L i)), nI (smx L i), nI (scn E i), nI i, (c, w, S, A, K)) : Int32 × Int32 × Int32 × Int32 × pmM)) m (fun i A => only (PF 536) J A) (fun R => ∃ B, R = pm_oI (spr (rd_sum wd n) L E m v) (c, w, S, B, K) ∧ only (PF 536) J B) ?_ ?_ pm_N 0 J only_r (by omega) (by rw [pm_NE]; omega)
  · intro again i A hi hA hn
    have hb1 : smn (rd_sum wd n) L i ≤ rd_sum wd n := smn_b
    have hb2 : smx L i ≤ rd_sum wd n := smx_b hLb
    have hb3 := hLb i
    have eL : nI (rd_la n wd (rd_s (H i))) = nI (L i) := by rw [← hLL]
    have eE : rd_lf wd (rd_s (H i)) l = E i := by rw [← hEE]
    have hCA : dk_M A 535 r := fun k hk => by rw [hA 535 k (by unfold PF PR; omega)]; exact hC k hk
    obtain ⟨B, p1, p2, p3⟩ := hp_M (w := w) (K := K) (k := k) (s := s + nI i) (Q := Q) hw h (eM_e rwa_536 hE hA) hCA hr hk hQ
    rw [← hH i] at p2
    have hAB : only (PF 536) J B := only_t hA p3
    have hP2 := (eM_e rwa_536 hE hAB).1
    have hn1 := hn B hAB
    rw [if_neg (by omega)] at hn1
    have fin : ∃ B', X9_span_j116 again 108 s (nI m) (nI k) (nI Q) (nI v) (nI l) (nI (smx L i)) (nI (scn E i)) (nI i) (nI (L i)) (nI (smn (rd_sum wd n) L (i + 1))) (c, w, S, B, K) = pm_oI (spr (rd_sum wd n) L E m v) (c, w, S, B', K) ∧ only (PF 536) J B' := by
      unfold X9_span_j116 X9_span_j147
      rw [mr_max (by omega) (by omega), ly_cI, lr_108_30 h, lc_108 h, rm_leftIn h hP2 rwa_536 p2 (hWi i) (by omega), ly_cI, eE]
      rw [smx_s] at hn1
      by_cases e : E i = 0
      · rw [scn_1 e] at hn1
        rw [e, n00, ly_bI, ly_bI, nI_1, nI_1]
        exact hn1
      · rw [scn_0 e] at hn1
        have h8 := rd_lf8 hW (s := rd_s (H i)) l
        rw [eE] at h8
        rw [if_neg (nI_ne0 (by omega) (by omega)), ly_bI, ly_bI, Int32.add_zero, nI_1]
        exact hn1
    unfold X9_span_L71
    simp only
    rw [if_neg (nI_ge hi (by omega)), lc_108 h, p1, ly_cV, lr_108_30 h, lc_108 h, rm_leftAll h hP2 rwa_536 p2 (hWi i), ly_cI, eL]
    by_cases h0 : i = 0
    · have e1 : smn (rd_sum wd n) L (i + 1) = L i := by
        rw [smn_s]
        have : smn (rd_sum wd n) L i = rd_sum wd n := by rw [h0]; rfl
        rw [this]; exact Nat.min_eq_right hb3
      rw [e1] at fin
      rw [show (if i = 0 then (-1 : Int32) else nI (smn (rd_sum wd n) L i)) = -1 from if_pos h0, m11]
      exact fin
    · rw [show (if i = 0 then (-1 : Int32) else nI (smn (rd_sum wd n) L i)) = nI (smn (rd_sum wd n) L i) from if_neg h0, if_neg (m1n (by omega)), rm_less, ly_cI, lsq_min (by omega) (by omega)]
      exact fin
  · intro again A hA
    unfold X9_span_L71 X9_span_j179
    simp only
    rw [if_pos (nI_le (Nat.le_refl _) (by omega)), show (if m = 0 then (-1 : Int32) else nI (smn (rd_sum wd n) L m)) = nI (smn (rd_sum wd n) L m) from if_neg (by omega)]
    refine ⟨A, ?_, hA⟩
    unfold spr
    rcases (show v = 0 ∨ v = 1 ∨ v = 2 by omega) with rfl | rfl | rfl
    · rw [n00, if_pos rfl]
    · rw [if_neg (show ¬ nI 1 = 0 by decide), if_pos (show nI 1 = 1 from rfl), if_neg (by decide), if_pos rfl]
    · rw [if_neg (show ¬ nI 2 = 0 by decide), if_neg (show ¬ nI 2 = 1 by decide), if_neg (by decide), if_neg (by decide)]
theorem ca_span0 (hwC : wC D X) (hwM : wM D X) (s x y z v u : Int32) (h : ly c S) (hJ : JJ I n wd q r a se W G) : ag isI (I 0) c w S (fun k => k) (X8_span 64 s x y z v u (c, w, S, I, K)) (X9_span 108 s x y z v u) := by
  obtain ⟨hPC, hPM, hDC, hDM, hr, hT, hS, hHh, hc, hkk, hL⟩ := id hJ
  have hn6 := hPC.1.1
  by_cases ok : ((1 ≤ y ∧ y ≤ 96) ∧ (0 ≤ z ∧ z ≤ 16)) ∧ (1 ≤ x ∧ x ≤ 20) ∧ (0 ≤ v ∧ v ≤ 2) ∧ ¬ (u < 0 ∨ nI n ≤ u)
  case neg =>
    refine ag_no (K := K) (k := 1) (b := .int 0) h hJ (by omega) ⟨_, rfl⟩ ?_ (fun c1 w1 S1 I1 K2 h1 hI => ?_)
    · have e : X8_span_j46 64 s x y z v u 64 (c, w, S, I, K) = rX c w S I K 1 := by
        unfold X8_span_j46 X8_span_j47
        rw [lc_64 h, mu_cV h]
      unfold X8_span
      rw [lc_64 h]
      by_cases hh : (1 ≤ y ∧ y ≤ 96) ∧ (0 ≤ z ∧ z ≤ 16)
      · rw [mh_ok h hh.1 hh.2, ly_cV]
        by_cases h1 : x < 1
        · rw [if_pos h1, e]
        · rw [if_neg h1]
          by_cases h2 : (20 : Int32) < x
          · rw [if_pos h2, e]
          · rw [if_neg h2]
            by_cases h3 : v < 0
            · rw [if_pos h3, e]
            · rw [if_neg h3]
              by_cases h4 : (2 : Int32) < v
              · rw [if_pos h4, e]
              · rw [if_neg h4]
                by_cases h5 : u < 0 ∨ nI n ≤ u
                · rw [lr_64_1 h, lc_67 h, hl_no h hPC.2.1 h5, ly_cI, i00, e]
                · exact absurd ⟨hh, ⟨Int32.not_lt.mp h1, Int32.not_lt.mp h2⟩, ⟨Int32.not_lt.mp h3, Int32.not_lt.mp h4⟩, h5⟩ ok
      · rw [mh_no h hh, rx_cV]
    · have e : X9_span_j44 108 s x y z v u 108 (c1, w1, S1, ly_u I1 108 0 0, K2) = pm_oI 0 (c1, w1, S1, bI I1 1 1, K2) := by
        unfold X9_span_j44 X9_span_j49
        rw [lc_108 h1, bad_11 h1, ly_cI, i10]
      unfold X9_span
      rw [lp_108 h1, rm_in, ly_cI]
      by_cases e1 : 1 ≤ x ∧ x ≤ 20
      · rw [decide_eq_true e1, ib1, ih_M, ly_cI]
        by_cases e2 : (1 ≤ y ∧ y ≤ 96) ∧ (0 ≤ z ∧ z ≤ 16)
        · rw [decide_eq_true e2, ib1, rm_in, ly_cI]
          by_cases e3 : 0 ≤ v ∧ v ≤ 2
          · rw [decide_eq_true e3, ib1]
            by_cases e4 : u < 0 ∨ nI n ≤ u
            · rw [lc_108 h1, il_no h1 (by rw [u0 (by omega), hI 108 13 (by omega) (by omega)]; exact hPM.2.1) hn6 e4, ly_cI, i00, e]
            · exact absurd ⟨e2, e1, e3, e4⟩ ok
          · rw [decide_eq_false e3, ib0, e]
        · rw [decide_eq_false e2, ib0, e]
      · rw [decide_eq_false e1, ib0, e]
  obtain ⟨hh, hx, hv, hu⟩ := ok
  have y0 : ¬ y < 0 := fun e => absurd (Int32.lt_trans e (show (0 : Int32) < 1 by decide)) (Int32.not_lt.mpr hh.1.1)
  have x0 : ¬ x < 0 := fun e => absurd (Int32.lt_trans e (show (0 : Int32) < 1 by decide)) (Int32.not_lt.mpr hx.1)
  obtain ⟨k, hk, rfl⟩ := nI_of2 (n := 96) rfl y0 hh.1.2
  obtain ⟨Q, hQ, rfl⟩ := nI_of2 (n := 16) rfl (nI_lt0 hh.2.1) hh.2.2
  obtain ⟨v, hv3, rfl⟩ := nI_of2 (n := 2) rfl (nI_lt0 hv.1) hv.2
  obtain ⟨m, hm, rfl⟩ := nI_of2 (n := 20) rfl x0 hx.2
  have hm1 : 1 ≤ m := (nI_leI (a := 1) (by omega) (by omega)).mp hx.1
  have hy0 : ¬ u < 0 := fun e => hu (Or.inl e)
  obtain ⟨l, hl31, rfl⟩ := nI_of hy0
  have hl : l < n := by
    rcases Nat.lt_or_ge l n with e | e
    · exact e
    · exact absurd (Or.inr (nI_le e (by omega))) hu
  obtain ⟨H, hH⟩ : ∃ H : Nat → Nat → Int32, ∀ i, H i = hdr D X n wd q (lwp I) Q k (s + nI i) r := ⟨_, fun _ => rfl⟩
  obtain ⟨B, b1, b2⟩ := sn_C (w := w) (K := K) (v := v) (m := m) hwC h hJ hm (by omega) hQ (by omega) hl hH
  refine ag_ro (v := .int (spr (rd_sum wd n) (fun i => rd_la n wd (rd_s (H i))) (fun i => rd_lf wd (rd_s (H i)) l) m v)) (I1 := B) (K1 := K) h hJ ⟨_, rfl⟩ ?_ b2 (fun hJ1 K2 => ?_)
  · unfold X8_span X8_span_j47
    rw [lc_64 h, mh_ok h hh.1 hh.2, ly_cV, if_neg (Int32.not_lt.mpr hx.1), if_neg (Int32.not_lt.mpr hx.2), if_neg (Int32.not_lt.mpr hv.1), if_neg (Int32.not_lt.mpr hv.2), lr_64_1 h, lc_67 h, rd_hasLine h hPC (by omega), ly_cI, decide_eq_true hl, ib1, lc_64 h, mu_cV1, lr_64_1 h, lg_67 h, hPC.2.2.2.2, b1]
  · obtain ⟨hPM2, hDM2⟩ := jm hJ1
    have hE2 : eM (ly_u B 108 0 0) n wd q (lwp I) := by
      obtain ⟨u1, u2, u3⟩ := eMz (eMJ hJ1)
      exact ⟨u1, u2, fun kn => by rw [u3 kn, lwp_s hL b2]⟩
    obtain ⟨I2, p1, p2⟩ := sn_M (w := w) (K := K2) (v := v) (m := m) hwM h hE2 hDM2 hr hm1 hm (by omega) hQ (by omega) hl hH
    refine ⟨I2, K2, ?_, by rw [p2 108 0 (by unfold PF PR; omega)]; exact z0', same_t s0 (PF_s p2), rfl⟩
    unfold X9_span X9_span_j49
    rw [lp_108 h, rm_in, ly_cI, decide_eq_true hx, ib1, ih_M, ly_cI, decide_eq_true hh, ib1, rm_in, ly_cI, decide_eq_true hv, ib1, lc_108 h, il_ok h hPM2.2.1 hn6 hl, ly_cI, i10, lc_108 h, bad_z h, ly_cI, i00, p1]
theorem ca_span (s x y z v u : Int32) (h : ly c S) (hJ : JJ I n wd q r a se W G) : ag isI (I 0) c w S (fun k => k) (X8_span 64 s x y z v u (c, w, S, I, K)) (X9_span 108 s x y z v u) := ca_span0 wC_ok wM_ok s x y z v u h hJ
end SPN
