section GEN26
variable {l : Launch} {Γ : pmG} {d : Nat}
-- StruckPageModel.hasBy(IIII)I
def X9_hasBy_j27 (t0 : Int32) (m : pmM) : pmR := pm_oI t0 m
def X9_hasBy (a0 : Int32) (a1 : Int32) (a2 : Int32) (a3 : Int32) (m : pmM) : pmR := if a0 = a1 then (if a0 = 0 then (X9_hasBy_j27 (-a3) m) else (X9_hasBy_j27 a3 m)) else (if a0 = 0 then (X9_hasBy_j27 a2 m) else (X9_hasBy_j27 0 m))
set_option maxRecDepth 100000 in
set_option maxHeartbeats 4000000 in
theorem gX9_hasBy_j27 (hfl : l.flags = flags0) (t0 : Int32) (m : pmM) : pm_G l Γ zX9_hasBy (d + 0) 27 [pmU, pmU, pmU, pmU] [.int t0] m (X9_hasBy_j27 t0 m) := by
  unfold X9_hasBy_j27
  exact pm_iret rfl dX9_hasBy_27
set_option maxRecDepth 100000 in
set_option maxHeartbeats 4000000 in
theorem kcX9_hasBy (hfl : l.flags = flags0) (a0 : Int32) (a1 : Int32) (a2 : Int32) (a3 : Int32) (m : pmM) : pm_C l Γ zX9_hasBy (d + 0) [.int a0, .int a1, .int a2, .int a3] m (X9_hasBy a0 a1 a2 a3 m) := by
  refine pm_enter (ls := [.int a0, .int a1, .int a2, .int a3]) hfl (by decide +kernel) rfl (Nat.le_of_ble_eq_true rfl) rfl (Nat.le_of_ble_eq_true rfl) ?_
  unfold X9_hasBy
  refine pm_iload_n dX9_hasBy_0 rfl rfl ?_
  refine pm_iload_n dX9_hasBy_1 rfl rfl ?_
  refine pm_icmp_ne (tgt := 18) dX9_hasBy_2 rfl ?_ ?_
  · refine pm_iload_n dX9_hasBy_18 rfl rfl ?_
    refine pm_if_ne (tgt := 26) dX9_hasBy_19 rfl ?_ ?_
    · refine pm_iconst (v := 0) dX9_hasBy_26 ki_0 ?_
      refine pm_drop (ls2 := [pmU, pmU, pmU, pmU]) (Nat.le_refl _) (pm_le_spec (pm_le_u (pm_le_u (pm_le_u (pm_le_u (pm_le_n)))))) ?_
      exact gX9_hasBy_j27 hfl 0 m
    · refine pm_iload_n dX9_hasBy_22 rfl rfl ?_
      refine pm_goto (tgt := 27) dX9_hasBy_23 rfl ?_
      refine pm_drop (ls2 := [pmU, pmU, pmU, pmU]) (Nat.le_refl _) (pm_le_spec (pm_le_u (pm_le_u (pm_le_u (pm_le_u (pm_le_n)))))) ?_
      exact gX9_hasBy_j27 hfl a2 m
  · refine pm_iload_n dX9_hasBy_5 rfl rfl ?_
    refine pm_if_ne (tgt := 14) dX9_hasBy_6 rfl ?_ ?_
    · refine pm_iload_n dX9_hasBy_14 rfl rfl ?_
      refine pm_goto (tgt := 27) dX9_hasBy_15 rfl ?_
      refine pm_drop (ls2 := [pmU, pmU, pmU, pmU]) (Nat.le_refl _) (pm_le_spec (pm_le_u (pm_le_u (pm_le_u (pm_le_u (pm_le_n)))))) ?_
      exact gX9_hasBy_j27 hfl a3 m
    · refine pm_iload_n dX9_hasBy_9 rfl rfl ?_
      refine pm_ineg dX9_hasBy_10 ?_
      refine pm_goto (tgt := 27) dX9_hasBy_11 rfl ?_
      refine pm_drop (ls2 := [pmU, pmU, pmU, pmU]) (Nat.le_refl _) (pm_le_spec (pm_le_u (pm_le_u (pm_le_u (pm_le_u (pm_le_n)))))) ?_
      exact gX9_hasBy_j27 hfl (-a3) m
-- StruckPageModel.isBest(IIII)Z
def X9_isBest_j24 (t0 : Int32) (m : pmM) : pmR := pm_oI (vp_nar .boolean t0) m
def X9_isBest (a0 : Int32) (a1 : Int32) (a2 : Int32) (a3 : Int32) (m : pmM) : pmR := pm_cI (X9_hasBy a0 a1 a2 a3 m) fun x2 m1 => pm_cI (X9_hasBy ((1 : Int32) - a0) a1 a2 a3 m1) fun x4 m3 => if x2 < x4 then (X9_isBest_j24 0 m3) else (X9_isBest_j24 1 m3)
set_option maxRecDepth 100000 in
set_option maxHeartbeats 4000000 in
theorem gX9_isBest_j24 (hfl : l.flags = flags0) (t0 : Int32) (m : pmM) : pm_G l Γ zX9_isBest (d + 1) 24 [pmU, pmU, pmU, pmU] [.int t0] m (X9_isBest_j24 t0 m) := by
  unfold X9_isBest_j24
  exact pm_nret (ty := .boolean) (w := vp_nar .boolean t0) rfl (by decide) rfl dX9_isBest_24
set_option maxRecDepth 100000 in
set_option maxHeartbeats 4000000 in
theorem kcX9_isBest (hfl : l.flags = flags0) (a0 : Int32) (a1 : Int32) (a2 : Int32) (a3 : Int32) (m : pmM) : pm_C l Γ zX9_isBest (d + 1) [.int a0, .int a1, .int a2, .int a3] m (X9_isBest a0 a1 a2 a3 m) := by
  refine pm_enter (ls := [.int a0, .int a1, .int a2, .int a3]) hfl (by decide +kernel) rfl (Nat.le_of_ble_eq_true rfl) rfl (Nat.le_of_ble_eq_true rfl) ?_
  unfold X9_isBest
  refine pm_iload_n dX9_isBest_0 rfl rfl ?_
  refine pm_iload_n dX9_isBest_1 rfl rfl ?_
  refine pm_iload_n dX9_isBest_2 rfl rfl ?_
  refine pm_iload_n dX9_isBest_3 rfl rfl ?_
  refine pm_kI (d := d + 0) rfl (pm_S (y := zX9_isBest) (z := zX9_hasBy) (As := [.int a0, .int a1, .int a2, .int a3]) zkX9_hasBy tw_1897 tw_1898 dX9_isBest_4 rfl rfl (Nat.le_of_ble_eq_true rfl)) (kcX9_hasBy (d := d + 0) hfl a0 a1 a2 a3 m) (fun x2 m1 => ?_)
  refine pm_iconst (v := 1) dX9_isBest_7 ki_1 ?_
  refine pm_iload_n dX9_isBest_8 rfl rfl ?_
  refine pm_isub dX9_isBest_9 ?_
  refine pm_iload_n dX9_isBest_10 rfl rfl ?_
  refine pm_iload_n dX9_isBest_11 rfl rfl ?_
  refine pm_iload_n dX9_isBest_12 rfl rfl ?_
  refine pm_kI (d := d + 0) rfl (pm_S (y := zX9_isBest) (z := zX9_hasBy) (As := [.int ((1 : Int32) - a0), .int a1, .int a2, .int a3]) zkX9_hasBy tw_1897 tw_1898 dX9_isBest_13 rfl rfl (Nat.le_of_ble_eq_true rfl)) (kcX9_hasBy (d := d + 0) hfl ((1 : Int32) - a0) a1 a2 a3 m1) (fun x4 m3 => ?_)
  refine pm_icmp_lt (tgt := 23) dX9_isBest_16 rfl ?_ ?_
  · refine pm_iconst (v := 0) dX9_isBest_23 ki_0 ?_
    refine pm_drop (ls2 := [pmU, pmU, pmU, pmU]) (Nat.le_refl _) (pm_le_spec (pm_le_u (pm_le_u (pm_le_u (pm_le_u (pm_le_n)))))) ?_
    exact gX9_isBest_j24 hfl 0 m3
  · refine pm_iconst (v := 1) dX9_isBest_19 ki_1 ?_
    refine pm_goto (tgt := 24) dX9_isBest_20 rfl ?_
    refine pm_drop (ls2 := [pmU, pmU, pmU, pmU]) (Nat.le_refl _) (pm_le_spec (pm_le_u (pm_le_u (pm_le_u (pm_le_u (pm_le_n)))))) ?_
    exact gX9_isBest_j24 hfl 1 m3
-- StruckPageModel.duel(III)I
def X9_duel_j191 (t0 : Int32) (m : pmM) : pmR := pm_oI t0 m
def X9_duel_j158 (again62 : (Int32 × Int32 × Int32 × Int32 × pmM) → pmR) (again71 : (Int32 × Int32 × Int32 × Int32 × pmM) → pmR) (l1 : Int32) (l2 : Int32) (l3 : Int32) (l4 : Int32) (l5 : Int32) (l6 : Int32) (l7 : Int32) (l8 : Int32) (m : pmM) : pmR := pm_bI (l8 + 1) fun x9 => again71 (l4, l5, l6, x9, m)
def X9_duel_j153 (again62 : (Int32 × Int32 × Int32 × Int32 × pmM) → pmR) (again71 : (Int32 × Int32 × Int32 × Int32 × pmM) → pmR) (l1 : Int32) (l2 : Int32) (l3 : Int32) (l4 : Int32) (l6 : Int32) (l7 : Int32) (l8 : Int32) (t0 : Int32) (m : pmM) : pmR := pm_bI (l4 + 1) fun x12 => X9_duel_j158 again62 again71 l1 l2 l3 x12 t0 l6 l7 l8 m
def X9_duel_j133 (again62 : (Int32 × Int32 × Int32 × Int32 × pmM) → pmR) (again71 : (Int32 × Int32 × Int32 × Int32 × pmM) → pmR) (l1 : Int32) (l2 : Int32) (l3 : Int32) (l4 : Int32) (l5 : Int32) (l7 : Int32) (l8 : Int32) (t0 : Int32) (m : pmM) : pmR := if l4 = 0 then (X9_duel_j153 again62 again71 l1 l2 l3 l4 t0 l7 l8 (((10 : Int32) * l7) + l8) m) else (X9_duel_j153 again62 again71 l1 l2 l3 l4 t0 l7 l8 l5 m)
def X9_duel_L71 (again62 : (Int32 × Int32 × Int32 × Int32 × pmM) → pmR) (l1 : Int32) (l2 : Int32) (l3 : Int32) (l7 : Int32) (again71 : (Int32 × Int32 × Int32 × Int32 × pmM) → pmR) (s71 : Int32 × Int32 × Int32 × Int32 × pmM) : pmR := if (2 : Int32) ≤ s71.2.2.2.1 then (pm_bI (l7 + 1) fun x6 => again62 (s71.1, s71.2.1, s71.2.2.1, x6, s71.2.2.2.2)) else (pm_cI (X9_isBest l7 s71.2.2.2.1 l1 l2 s71.2.2.2.2) fun x8 m7 => if x8 = 0 then (X9_duel_j158 again62 again71 l1 l2 l3 s71.1 s71.2.1 s71.2.2.1 l7 s71.2.2.2.1 m7) else (pm_cI (X9_isBest s71.2.2.2.1 l7 l1 l2 m7) fun x11 m10 => if x11 = 0 then (X9_duel_j158 again62 again71 l1 l2 l3 s71.1 s71.2.1 s71.2.2.1 l7 s71.2.2.2.1 m10) else (if s71.1 = 0 then (pm_cI (X9_hasBy l7 s71.2.2.2.1 l1 l2 m10) fun x14 m13 => pm_cI (X9_hasBy s71.2.2.2.1 l7 l1 l2 m13) fun x16 m15 => X9_duel_j133 again62 again71 l1 l2 l3 s71.1 s71.2.1 l7 s71.2.2.2.1 (x14 + x16) m15) else (X9_duel_j133 again62 again71 l1 l2 l3 s71.1 s71.2.1 l7 s71.2.2.2.1 s71.2.2.1 m10))))
def X9_duel_L62 (l1 : Int32) (l2 : Int32) (l3 : Int32) (again62 : (Int32 × Int32 × Int32 × Int32 × pmM) → pmR) (s62 : Int32 × Int32 × Int32 × Int32 × pmM) : pmR := if (2 : Int32) ≤ s62.2.2.2.1 then (if l3 = 0 then (X9_duel_j191 s62.1 s62.2.2.2.2) else (if l3 = 1 then (X9_duel_j191 s62.2.1 s62.2.2.2.2) else (X9_duel_j191 s62.2.2.1 s62.2.2.2.2))) else (pm_lp pm_N (X9_duel_L71 again62 l1 l2 l3 s62.2.2.2.1) (s62.1, s62.2.1, s62.2.2.1, 0, s62.2.2.2.2))
def X9_duel_j40 (l1 : Int32) (l2 : Int32) (l3 : Int32) (t0 : Int32) (t1 : Nat) (m : pmM) : pmR := pm_rc 9 t1 m <| pm_cI (X9_bad t1 t0 1 1 m) fun x5 m4 => if x5 = 0 then (pm_lp pm_N (X9_duel_L62 l1 l2 l3) (0, (-1), 0, 0, m4)) else (pm_oI 0 m4)
def X9_duel_j35 (l1 : Int32) (l2 : Int32) (l3 : Int32) (t0 : Nat) (m : pmM) : pmR := X9_duel_j40 l1 l2 l3 1 t0 m
def X9_duel (a0 : Nat) (a1 : Int32) (a2 : Int32) (a3 : Int32) (m : pmM) : pmR := pm_pI 9 a0 0 0 m fun m1 => pm_cI (X9_in a1 0 99 m1) fun x3 m2 => if x3 = 0 then (X9_duel_j35 a1 a2 a3 a0 m2) else (pm_cI (X9_in a2 0 99 m2) fun x18 m17 => if x18 = 0 then (X9_duel_j35 a1 a2 a3 a0 m17) else (pm_cI (X9_in a3 0 2 m17) fun x20 m19 => if x20 = 0 then (X9_duel_j35 a1 a2 a3 a0 m19) else (X9_duel_j40 a1 a2 a3 0 a0 m19)))
set_option maxRecDepth 100000 in
set_option maxHeartbeats 4000000 in
theorem gX9_duel_j191 (hfl : l.flags = flags0) (t0 : Int32) (m : pmM) : pm_G l Γ zX9_duel (d + 2) 191 [pmU, pmU, pmU, pmU, pmU, pmU, pmU, pmU, pmU] [.int t0] m (X9_duel_j191 t0 m) := by
  unfold X9_duel_j191
  exact pm_iret rfl dX9_duel_191
set_option maxRecDepth 100000 in
set_option maxHeartbeats 4000000 in
theorem gX9_duel_j158 (hfl : l.flags = flags0) (again62 : (Int32 × Int32 × Int32 × Int32 × pmM) → pmR) (again71 : (Int32 × Int32 × Int32 × Int32 × pmM) → pmR) (l1 : Int32) (l2 : Int32) (l3 : Int32) (l4 : Int32) (l5 : Int32) (l6 : Int32) (l7 : Int32) (l8 : Int32) (m : pmM) (hag62 : ∀ s : Int32 × Int32 × Int32 × Int32 × pmM, pm_G l Γ zX9_duel (d + 2) 62 [pmU, .int l1, .int l2, .int l3, .int s.1, .int s.2.1, .int s.2.2.1, .int s.2.2.2.1, pmU] [] s.2.2.2.2 (again62 s)) (hag71 : ∀ s : Int32 × Int32 × Int32 × Int32 × pmM, pm_G l Γ zX9_duel (d + 2) 71 [pmU, .int l1, .int l2, .int l3, .int s.1, .int s.2.1, .int s.2.2.1, .int l7, .int s.2.2.2.1] [] s.2.2.2.2 (again71 s)) : pm_G l Γ zX9_duel (d + 2) 158 [pmU, .int l1, .int l2, .int l3, .int l4, .int l5, .int l6, .int l7, .int l8] [] m (X9_duel_j158 again62 again71 l1 l2 l3 l4 l5 l6 l7 l8 m) := by
  unfold X9_duel_j158
  refine pm_iincn (y := zX9_duel) dX9_duel_158 rfl ki_1 rfl (Nat.le_of_ble_eq_true rfl) (fun x9 => ?_)
  refine pm_eqls (ls2 := [pmU, .int l1, .int l2, .int l3, .int l4, .int l5, .int l6, .int l7, .int x9]) rfl ?_
  refine pm_goto (tgt := 71) dX9_duel_161 rfl ?_
  exact hag71 (l4, l5, l6, x9, m)
set_option maxRecDepth 100000 in
set_option maxHeartbeats 4000000 in
theorem gX9_duel_j153 (hfl : l.flags = flags0) (again62 : (Int32 × Int32 × Int32 × Int32 × pmM) → pmR) (again71 : (Int32 × Int32 × Int32 × Int32 × pmM) → pmR) (l1 : Int32) (l2 : Int32) (l3 : Int32) (l4 : Int32) (l6 : Int32) (l7 : Int32) (l8 : Int32) (t0 : Int32) (m : pmM) (hag62 : ∀ s : Int32 × Int32 × Int32 × Int32 × pmM, pm_G l Γ zX9_duel (d + 2) 62 [pmU, .int l1, .int l2, .int l3, .int s.1, .int s.2.1, .int s.2.2.1, .int s.2.2.2.1, pmU] [] s.2.2.2.2 (again62 s)) (hag71 : ∀ s : Int32 × Int32 × Int32 × Int32 × pmM, pm_G l Γ zX9_duel (d + 2) 71 [pmU, .int l1, .int l2, .int l3, .int s.1, .int s.2.1, .int s.2.2.1, .int l7, .int s.2.2.2.1] [] s.2.2.2.2 (again71 s)) : pm_G l Γ zX9_duel (d + 2) 153 [pmU, .int l1, .int l2, .int l3, .int l4, pmU, .int l6, .int l7, .int l8] [.int t0] m (X9_duel_j153 again62 again71 l1 l2 l3 l4 l6 l7 l8 t0 m) := by
  unfold X9_duel_j153
  refine pm_istore (ls2 := [pmU, .int l1, .int l2, .int l3, .int l4, .int t0, .int l6, .int l7, .int l8]) dX9_duel_153 rfl (Nat.le_of_ble_eq_true rfl) rfl ?_
  refine pm_iincn (y := zX9_duel) dX9_duel_155 rfl ki_1 rfl (Nat.le_of_ble_eq_true rfl) (fun x12 => ?_)
  refine pm_eqls (ls2 := [pmU, .int l1, .int l2, .int l3, .int x12, .int t0, .int l6, .int l7, .int l8]) rfl ?_
  exact gX9_duel_j158 hfl again62 again71 l1 l2 l3 x12 t0 l6 l7 l8 m hag62 hag71
set_option maxRecDepth 100000 in
set_option maxHeartbeats 4000000 in
theorem gX9_duel_j133 (hfl : l.flags = flags0) (again62 : (Int32 × Int32 × Int32 × Int32 × pmM) → pmR) (again71 : (Int32 × Int32 × Int32 × Int32 × pmM) → pmR) (l1 : Int32) (l2 : Int32) (l3 : Int32) (l4 : Int32) (l5 : Int32) (l7 : Int32) (l8 : Int32) (t0 : Int32) (m : pmM) (hag62 : ∀ s : Int32 × Int32 × Int32 × Int32 × pmM, pm_G l Γ zX9_duel (d + 2) 62 [pmU, .int l1, .int l2, .int l3, .int s.1, .int s.2.1, .int s.2.2.1, .int s.2.2.2.1, pmU] [] s.2.2.2.2 (again62 s)) (hag71 : ∀ s : Int32 × Int32 × Int32 × Int32 × pmM, pm_G l Γ zX9_duel (d + 2) 71 [pmU, .int l1, .int l2, .int l3, .int s.1, .int s.2.1, .int s.2.2.1, .int l7, .int s.2.2.2.1] [] s.2.2.2.2 (again71 s)) : pm_G l Γ zX9_duel (d + 2) 133 [pmU, .int l1, .int l2, .int l3, .int l4, .int l5, pmU, .int l7, .int l8] [.int t0] m (X9_duel_j133 again62 again71 l1 l2 l3 l4 l5 l7 l8 t0 m) := by
  unfold X9_duel_j133
  refine pm_istore (ls2 := [pmU, .int l1, .int l2, .int l3, .int l4, .int l5, .int t0, .int l7, .int l8]) dX9_duel_133 rfl (Nat.le_of_ble_eq_true rfl) rfl ?_
  refine pm_iload dX9_duel_135 rfl ?_
  refine pm_if_ne (tgt := 151) dX9_duel_137 rfl ?_ ?_
  · refine pm_iload dX9_duel_151 rfl ?_
    refine pm_drop (ls2 := [pmU, .int l1, .int l2, .int l3, .int l4, pmU, .int t0, .int l7, .int l8]) (Nat.le_refl _) (pm_le_spec (pm_le_u (pm_le_v (pm_le_v (pm_le_v (pm_le_v (pm_le_u (pm_le_v (pm_le_v (pm_le_v (pm_le_n))))))))))) ?_
    exact gX9_duel_j153 hfl again62 again71 l1 l2 l3 l4 t0 l7 l8 l5 m hag62 hag71
  · refine pm_bipush (v := 10) dX9_duel_140 kb_10 ?_
    refine pm_iload dX9_duel_142 rfl ?_
    refine pm_imul dX9_duel_144 ?_
    refine pm_iload dX9_duel_145 rfl ?_
    refine pm_iadd dX9_duel_147 ?_
    refine pm_goto (tgt := 153) dX9_duel_148 rfl ?_
    refine pm_drop (ls2 := [pmU, .int l1, .int l2, .int l3, .int l4, pmU, .int t0, .int l7, .int l8]) (Nat.le_refl _) (pm_le_spec (pm_le_u (pm_le_v (pm_le_v (pm_le_v (pm_le_v (pm_le_u (pm_le_v (pm_le_v (pm_le_v (pm_le_n))))))))))) ?_
    exact gX9_duel_j153 hfl again62 again71 l1 l2 l3 l4 t0 l7 l8 (((10 : Int32) * l7) + l8) m hag62 hag71
set_option maxRecDepth 100000 in
set_option maxHeartbeats 4000000 in
theorem gX9_duel_L71 (hfl : l.flags = flags0) (again62 : (Int32 × Int32 × Int32 × Int32 × pmM) → pmR) (l1 : Int32) (l2 : Int32) (l3 : Int32) (l7 : Int32) (hag62 : ∀ s : Int32 × Int32 × Int32 × Int32 × pmM, pm_G l Γ zX9_duel (d + 2) 62 [pmU, .int l1, .int l2, .int l3, .int s.1, .int s.2.1, .int s.2.2.1, .int s.2.2.2.1, pmU] [] s.2.2.2.2 (again62 s)) : ∀ (n : Nat) (s : Int32 × Int32 × Int32 × Int32 × pmM), pm_G l Γ zX9_duel (d + 2) 71 [pmU, .int l1, .int l2, .int l3, .int s.1, .int s.2.1, .int s.2.2.1, .int l7, .int s.2.2.2.1] [] s.2.2.2.2 (pm_lp n (X9_duel_L71 again62 l1 l2 l3 l7) s) :=
  pm_loop (lsf := fun s : Int32 × Int32 × Int32 × Int32 × pmM => [pmU, .int l1, .int l2, .int l3, .int s.1, .int s.2.1, .int s.2.2.1, .int l7, .int s.2.2.2.1]) (mf := fun s : Int32 × Int32 × Int32 × Int32 × pmM => s.2.2.2.2) (fun again71 hag71 s71 => by
    unfold X9_duel_L71
    refine pm_iload dX9_duel_71 rfl ?_
    refine pm_iconst (v := 2) dX9_duel_73 ki_2 ?_
    refine pm_icmp_ge (tgt := 164) dX9_duel_74 rfl ?_ ?_
    · refine pm_iincn (y := zX9_duel) dX9_duel_164 rfl ki_1 rfl (Nat.le_of_ble_eq_true rfl) (fun x6 => ?_)
      refine pm_eqls (ls2 := [pmU, .int l1, .int l2, .int l3, .int s71.1, .int s71.2.1, .int s71.2.2.1, .int x6, .int s71.2.2.2.1]) rfl ?_
      refine pm_goto (tgt := 62) dX9_duel_167 rfl ?_
      refine pm_drop (ls2 := [pmU, .int l1, .int l2, .int l3, .int s71.1, .int s71.2.1, .int s71.2.2.1, .int x6, pmU]) (Nat.le_refl _) (pm_le_spec (pm_le_u (pm_le_v (pm_le_v (pm_le_v (pm_le_v (pm_le_v (pm_le_v (pm_le_v (pm_le_u (pm_le_n))))))))))) ?_
      exact hag62 (s71.1, s71.2.1, s71.2.2.1, x6, s71.2.2.2.2)
    · refine pm_iload dX9_duel_77 rfl ?_
      refine pm_iload dX9_duel_79 rfl ?_
      refine pm_iload_n dX9_duel_81 rfl rfl ?_
      refine pm_iload_n dX9_duel_82 rfl rfl ?_
      refine pm_kI (d := d + 1) rfl (pm_S (y := zX9_duel) (z := zX9_isBest) (As := [.int l7, .int s71.2.2.2.1, .int l1, .int l2]) zkX9_isBest tw_1894 tw_1895 dX9_duel_83 rfl rfl (Nat.le_of_ble_eq_true rfl)) (kcX9_isBest (d := d + 0) hfl l7 s71.2.2.2.1 l1 l2 s71.2.2.2.2) (fun x8 m7 => ?_)
      refine pm_if_eq (tgt := 158) dX9_duel_86 rfl ?_ ?_
      · exact gX9_duel_j158 hfl again62 again71 l1 l2 l3 s71.1 s71.2.1 s71.2.2.1 l7 s71.2.2.2.1 m7 hag62 hag71
      · refine pm_iload dX9_duel_89 rfl ?_
        refine pm_iload dX9_duel_91 rfl ?_
        refine pm_iload_n dX9_duel_93 rfl rfl ?_
        refine pm_iload_n dX9_duel_94 rfl rfl ?_
        refine pm_kI (d := d + 1) rfl (pm_S (y := zX9_duel) (z := zX9_isBest) (As := [.int s71.2.2.2.1, .int l7, .int l1, .int l2]) zkX9_isBest tw_1894 tw_1895 dX9_duel_95 rfl rfl (Nat.le_of_ble_eq_true rfl)) (kcX9_isBest (d := d + 0) hfl s71.2.2.2.1 l7 l1 l2 m7) (fun x11 m10 => ?_)
        refine pm_if_ne (tgt := 104) dX9_duel_98 rfl ?_ ?_
        · refine pm_iload dX9_duel_104 rfl ?_
          refine pm_if_ne (tgt := 131) dX9_duel_106 rfl ?_ ?_
          · refine pm_iload dX9_duel_131 rfl ?_
            refine pm_drop (ls2 := [pmU, .int l1, .int l2, .int l3, .int s71.1, .int s71.2.1, pmU, .int l7, .int s71.2.2.2.1]) (Nat.le_refl _) (pm_le_spec (pm_le_u (pm_le_v (pm_le_v (pm_le_v (pm_le_v (pm_le_v (pm_le_u (pm_le_v (pm_le_v (pm_le_n))))))))))) ?_
            exact gX9_duel_j133 hfl again62 again71 l1 l2 l3 s71.1 s71.2.1 l7 s71.2.2.2.1 s71.2.2.1 m10 hag62 hag71
          · refine pm_iload dX9_duel_109 rfl ?_
            refine pm_iload dX9_duel_111 rfl ?_
            refine pm_iload_n dX9_duel_113 rfl rfl ?_
            refine pm_iload_n dX9_duel_114 rfl rfl ?_
            refine pm_kI (d := d + 1) rfl (pm_S (y := zX9_duel) (z := zX9_hasBy) (As := [.int l7, .int s71.2.2.2.1, .int l1, .int l2]) zkX9_hasBy tw_1897 tw_1898 dX9_duel_115 rfl rfl (Nat.le_of_ble_eq_true rfl)) (kcX9_hasBy (d := d + 1) hfl l7 s71.2.2.2.1 l1 l2 m10) (fun x14 m13 => ?_)
            refine pm_iload dX9_duel_118 rfl ?_
            refine pm_iload dX9_duel_120 rfl ?_
            refine pm_iload_n dX9_duel_122 rfl rfl ?_
            refine pm_iload_n dX9_duel_123 rfl rfl ?_
            refine pm_kI (d := d + 1) rfl (pm_S (y := zX9_duel) (z := zX9_hasBy) (As := [.int s71.2.2.2.1, .int l7, .int l1, .int l2]) zkX9_hasBy tw_1897 tw_1898 dX9_duel_124 rfl rfl (Nat.le_of_ble_eq_true rfl)) (kcX9_hasBy (d := d + 1) hfl s71.2.2.2.1 l7 l1 l2 m13) (fun x16 m15 => ?_)
            refine pm_iadd dX9_duel_127 ?_
            refine pm_goto (tgt := 133) dX9_duel_128 rfl ?_
            refine pm_drop (ls2 := [pmU, .int l1, .int l2, .int l3, .int s71.1, .int s71.2.1, pmU, .int l7, .int s71.2.2.2.1]) (Nat.le_refl _) (pm_le_spec (pm_le_u (pm_le_v (pm_le_v (pm_le_v (pm_le_v (pm_le_v (pm_le_u (pm_le_v (pm_le_v (pm_le_n))))))))))) ?_
            exact gX9_duel_j133 hfl again62 again71 l1 l2 l3 s71.1 s71.2.1 l7 s71.2.2.2.1 (x14 + x16) m15 hag62 hag71
        · refine pm_goto (tgt := 158) dX9_duel_101 rfl ?_
          exact gX9_duel_j158 hfl again62 again71 l1 l2 l3 s71.1 s71.2.1 s71.2.2.1 l7 s71.2.2.2.1 m10 hag62 hag71)
set_option maxRecDepth 100000 in
set_option maxHeartbeats 4000000 in
theorem gX9_duel_L62 (hfl : l.flags = flags0) (l1 : Int32) (l2 : Int32) (l3 : Int32) : ∀ (n : Nat) (s : Int32 × Int32 × Int32 × Int32 × pmM), pm_G l Γ zX9_duel (d + 2) 62 [pmU, .int l1, .int l2, .int l3, .int s.1, .int s.2.1, .int s.2.2.1, .int s.2.2.2.1, pmU] [] s.2.2.2.2 (pm_lp n (X9_duel_L62 l1 l2 l3) s) :=
  pm_loop (lsf := fun s : Int32 × Int32 × Int32 × Int32 × pmM => [pmU, .int l1, .int l2, .int l3, .int s.1, .int s.2.1, .int s.2.2.1, .int s.2.2.2.1, pmU]) (mf := fun s : Int32 × Int32 × Int32 × Int32 × pmM => s.2.2.2.2) (fun again62 hag62 s62 => by
    unfold X9_duel_L62
    refine pm_iload dX9_duel_62 rfl ?_
    refine pm_iconst (v := 2) dX9_duel_64 ki_2 ?_
    refine pm_icmp_ge (tgt := 170) dX9_duel_65 rfl ?_ ?_
    · refine pm_iload_n dX9_duel_170 rfl rfl ?_
      refine pm_if_ne (tgt := 179) dX9_duel_171 rfl ?_ ?_
      · refine pm_iload_n dX9_duel_179 rfl rfl ?_
        refine pm_iconst (v := 1) dX9_duel_180 ki_1 ?_
        refine pm_icmp_ne (tgt := 189) dX9_duel_181 rfl ?_ ?_
        · refine pm_iload dX9_duel_189 rfl ?_
          refine pm_drop (ls2 := [pmU, pmU, pmU, pmU, pmU, pmU, pmU, pmU, pmU]) (Nat.le_refl _) (pm_le_spec (pm_le_u (pm_le_u (pm_le_u (pm_le_u (pm_le_u (pm_le_u (pm_le_u (pm_le_u (pm_le_u (pm_le_n))))))))))) ?_
          exact gX9_duel_j191 hfl s62.2.2.1 s62.2.2.2.2
        · refine pm_iload dX9_duel_184 rfl ?_
          refine pm_goto (tgt := 191) dX9_duel_186 rfl ?_
          refine pm_drop (ls2 := [pmU, pmU, pmU, pmU, pmU, pmU, pmU, pmU, pmU]) (Nat.le_refl _) (pm_le_spec (pm_le_u (pm_le_u (pm_le_u (pm_le_u (pm_le_u (pm_le_u (pm_le_u (pm_le_u (pm_le_u (pm_le_n))))))))))) ?_
          exact gX9_duel_j191 hfl s62.2.1 s62.2.2.2.2
      · refine pm_iload dX9_duel_174 rfl ?_
        refine pm_goto (tgt := 191) dX9_duel_176 rfl ?_
        refine pm_drop (ls2 := [pmU, pmU, pmU, pmU, pmU, pmU, pmU, pmU, pmU]) (Nat.le_refl _) (pm_le_spec (pm_le_u (pm_le_u (pm_le_u (pm_le_u (pm_le_u (pm_le_u (pm_le_u (pm_le_u (pm_le_u (pm_le_n))))))))))) ?_
        exact gX9_duel_j191 hfl s62.1 s62.2.2.2.2
    · refine pm_iconst (v := 0) dX9_duel_68 ki_0 ?_
      refine pm_istore (ls2 := [pmU, .int l1, .int l2, .int l3, .int s62.1, .int s62.2.1, .int s62.2.2.1, .int s62.2.2.2.1, .int 0]) dX9_duel_69 rfl (Nat.le_of_ble_eq_true rfl) rfl ?_
      exact gX9_duel_L71 hfl again62 l1 l2 l3 s62.2.2.2.1 hag62 pm_N (s62.1, s62.2.1, s62.2.2.1, 0, s62.2.2.2.2))
set_option maxRecDepth 100000 in
set_option maxHeartbeats 4000000 in
theorem gX9_duel_j40 (hfl : l.flags = flags0) (l1 : Int32) (l2 : Int32) (l3 : Int32) (t0 : Int32) (t1 : Nat) (m : pmM) : pm_G l Γ zX9_duel (d + 2) 40 [pmU, .int l1, .int l2, .int l3, pmU, pmU, pmU, pmU, pmU] [.int t0, .ref t1] m (X9_duel_j40 l1 l2 l3 t0 t1 m) := by
  unfold X9_duel_j40
  refine pm_iconst (v := 1) dX9_duel_40 ki_1 ?_
  refine pm_iconst (v := 1) dX9_duel_41 ki_1 ?_
  refine pm_rcv (fun hb9 hc9 => ?_)
  refine pm_kI (d := d + 1) rfl (pm_V (y := zX9_duel) (z := zX9_bad) (As := [.int t0, .int 1, .int 1]) zkX9_bad pm_q9 (by decide) tw_1548 tw_1550 tw_99 dX9_duel_42 rfl rfl (Nat.le_of_ble_eq_true rfl) hb9 hc9) (kcX9_bad (d := d + 1) hfl t1 t0 1 1 m) (fun x5 m4 => ?_)
  refine pm_if_eq (tgt := 50) dX9_duel_45 rfl ?_ ?_
  · refine pm_iconst (v := 0) dX9_duel_50 ki_0 ?_
    refine pm_istore (ls2 := [pmU, .int l1, .int l2, .int l3, .int 0, pmU, pmU, pmU, pmU]) dX9_duel_51 rfl (Nat.le_of_ble_eq_true rfl) rfl ?_
    refine pm_iconst (v := (-1)) dX9_duel_53 ki_n1 ?_
    refine pm_istore (ls2 := [pmU, .int l1, .int l2, .int l3, .int 0, .int (-1), pmU, pmU, pmU]) dX9_duel_54 rfl (Nat.le_of_ble_eq_true rfl) rfl ?_
    refine pm_iconst (v := 0) dX9_duel_56 ki_0 ?_
    refine pm_istore (ls2 := [pmU, .int l1, .int l2, .int l3, .int 0, .int (-1), .int 0, pmU, pmU]) dX9_duel_57 rfl (Nat.le_of_ble_eq_true rfl) rfl ?_
    refine pm_iconst (v := 0) dX9_duel_59 ki_0 ?_
    refine pm_istore (ls2 := [pmU, .int l1, .int l2, .int l3, .int 0, .int (-1), .int 0, .int 0, pmU]) dX9_duel_60 rfl (Nat.le_of_ble_eq_true rfl) rfl ?_
    exact gX9_duel_L62 hfl l1 l2 l3 pm_N (0, (-1), 0, 0, m4)
  · refine pm_iconst (v := 0) dX9_duel_48 ki_0 ?_
    exact pm_iret rfl dX9_duel_49
set_option maxRecDepth 100000 in
set_option maxHeartbeats 4000000 in
theorem gX9_duel_j35 (hfl : l.flags = flags0) (l1 : Int32) (l2 : Int32) (l3 : Int32) (t0 : Nat) (m : pmM) : pm_G l Γ zX9_duel (d + 2) 35 [pmU, .int l1, .int l2, .int l3, pmU, pmU, pmU, pmU, pmU] [.ref t0] m (X9_duel_j35 l1 l2 l3 t0 m) := by
  unfold X9_duel_j35
  refine pm_iconst (v := 1) dX9_duel_35 ki_1 ?_
  refine pm_goto (tgt := 40) dX9_duel_36 rfl ?_
  exact gX9_duel_j40 hfl l1 l2 l3 1 t0 m
set_option maxRecDepth 100000 in
set_option maxHeartbeats 4000000 in
theorem kcX9_duel (hfl : l.flags = flags0) (a0 : Nat) (a1 : Int32) (a2 : Int32) (a3 : Int32) (m : pmM) : pm_C l Γ zX9_duel (d + 2) [.ref a0, .int a1, .int a2, .int a3] m (X9_duel a0 a1 a2 a3 m) := by
  refine pm_enter (ls := [.ref a0, .int a1, .int a2, .int a3, pmU, pmU, pmU, pmU, pmU]) hfl (by decide +kernel) rfl (Nat.le_of_ble_eq_true rfl) rfl (Nat.le_of_ble_eq_true rfl) ?_
  unfold X9_duel
  refine pm_aload_n dX9_duel_0 rfl rfl ?_
  refine pm_iconst (v := 0) dX9_duel_1 ki_0 ?_
  refine fp_9_0 (y := zX9_duel) (Or.inl tw_1366) dX9_duel_2 (fun m1 => ?_)
  refine pm_aload_n dX9_duel_5 rfl rfl ?_
  refine pm_iload_n dX9_duel_6 rfl rfl ?_
  refine pm_iconst (v := 0) dX9_duel_7 ki_0 ?_
  refine pm_bipush (v := 99) dX9_duel_8 kb_99 ?_
  refine pm_kI (d := d + 1) rfl (pm_S (y := zX9_duel) (z := zX9_in) (As := [.int a1, .int 0, .int 99]) zkX9_in tw_1545 tw_1546 dX9_duel_10 rfl rfl (Nat.le_of_ble_eq_true rfl)) (kcX9_in (d := d + 1) hfl a1 0 99 m1) (fun x3 m2 => ?_)
  refine pm_if_eq (tgt := 35) dX9_duel_13 rfl ?_ ?_
  · refine pm_drop (ls2 := [pmU, .int a1, .int a2, .int a3, pmU, pmU, pmU, pmU, pmU]) (Nat.le_refl _) (pm_le_spec (pm_le_u (pm_le_v (pm_le_v (pm_le_v (pm_le_u (pm_le_u (pm_le_u (pm_le_u (pm_le_u (pm_le_n))))))))))) ?_
    exact gX9_duel_j35 hfl a1 a2 a3 a0 m2
  · refine pm_iload_n dX9_duel_16 rfl rfl ?_
    refine pm_iconst (v := 0) dX9_duel_17 ki_0 ?_
    refine pm_bipush (v := 99) dX9_duel_18 kb_99 ?_
    refine pm_kI (d := d + 1) rfl (pm_S (y := zX9_duel) (z := zX9_in) (As := [.int a2, .int 0, .int 99]) zkX9_in tw_1545 tw_1546 dX9_duel_20 rfl rfl (Nat.le_of_ble_eq_true rfl)) (kcX9_in (d := d + 1) hfl a2 0 99 m2) (fun x18 m17 => ?_)
    refine pm_if_eq (tgt := 35) dX9_duel_23 rfl ?_ ?_
    · refine pm_drop (ls2 := [pmU, .int a1, .int a2, .int a3, pmU, pmU, pmU, pmU, pmU]) (Nat.le_refl _) (pm_le_spec (pm_le_u (pm_le_v (pm_le_v (pm_le_v (pm_le_u (pm_le_u (pm_le_u (pm_le_u (pm_le_u (pm_le_n))))))))))) ?_
      exact gX9_duel_j35 hfl a1 a2 a3 a0 m17
    · refine pm_iload_n dX9_duel_26 rfl rfl ?_
      refine pm_iconst (v := 0) dX9_duel_27 ki_0 ?_
      refine pm_iconst (v := 2) dX9_duel_28 ki_2 ?_
      refine pm_kI (d := d + 1) rfl (pm_S (y := zX9_duel) (z := zX9_in) (As := [.int a3, .int 0, .int 2]) zkX9_in tw_1545 tw_1546 dX9_duel_29 rfl rfl (Nat.le_of_ble_eq_true rfl)) (kcX9_in (d := d + 1) hfl a3 0 2 m17) (fun x20 m19 => ?_)
      refine pm_if_ne (tgt := 39) dX9_duel_32 rfl ?_ ?_
      · refine pm_iconst (v := 0) dX9_duel_39 ki_0 ?_
        refine pm_drop (ls2 := [pmU, .int a1, .int a2, .int a3, pmU, pmU, pmU, pmU, pmU]) (Nat.le_refl _) (pm_le_spec (pm_le_u (pm_le_v (pm_le_v (pm_le_v (pm_le_u (pm_le_u (pm_le_u (pm_le_u (pm_le_u (pm_le_n))))))))))) ?_
        exact gX9_duel_j40 hfl a1 a2 a3 0 a0 m19
      · refine pm_drop (ls2 := [pmU, .int a1, .int a2, .int a3, pmU, pmU, pmU, pmU, pmU]) (Nat.le_refl _) (pm_le_spec (pm_le_u (pm_le_v (pm_le_v (pm_le_v (pm_le_u (pm_le_u (pm_le_u (pm_le_u (pm_le_u (pm_le_n))))))))))) ?_
        exact gX9_duel_j35 hfl a1 a2 a3 a0 m19
-- StruckPageModel.chance(IIII)J
def X9_chance_j255 (t0 : Int64) (m : pmM) : pmR := pm_oL t0 m
def X9_chance_L212 (l4 : Int32) (l5 : Int64) (l7 : Int64) (again212 : (Int64 × Int64 × pmM) → pmR) (s212 : Int64 × Int64 × pmM) : pmR := if (lg_cmp s212.2.1 0) = 0 then (if l4 = 0 then (if s212.1 = 0 then none else X9_chance_j255 (l5 / s212.1) s212.2.2) else (if s212.1 = 0 then none else X9_chance_j255 (l7 / s212.1) s212.2.2)) else (if s212.2.1 = 0 then none else pm_bL (s212.1 - s212.1 / s212.2.1 * s212.2.1) fun x7 => again212 (s212.2.1, x7, s212.2.2))
def X9_chance_L179 (l0 : Nat) (l4 : Int32) (l7 : Int64) (again179 : (Int64 × Int32 × pmM) → pmR) (s179 : Int64 × Int32 × pmM) : pmR := if (14 : Int32) ≤ s179.2.1 then (pm_lp pm_N (X9_chance_L212 l4 s179.1 l7) (l7, s179.1, s179.2.2)) else (pm_gR 9 l0 52 s179.2.2 fun r8 => pm_ldL r8 s179.2.1 s179.2.2 fun x9 => pm_bL (s179.1 + x9) fun x10 => pm_bI (s179.2.1 + 1) fun x11 => again179 (x10, x11, s179.2.2))
def X9_chance_j152 (again97 : (Int32 × pmM) → pmR) (again107 : (Int32 × pmM) → pmR) (l0 : Nat) (l1 : Int32) (l2 : Int32) (l3 : Int32) (l4 : Int32) (l5 : Int32) (l6 : Int32) (t0 : Int64) (t1 : Int64) (t2 : Int32) (t3 : Nat) (m : pmM) : pmR := pm_stL t3 t2 (t1 + t0) m fun m16 => pm_bI (l6 + (-1)) fun x17 => again107 (x17, m16)
def X9_chance_L107 (again97 : (Int32 × pmM) → pmR) (l0 : Nat) (l1 : Int32) (l2 : Int32) (l3 : Int32) (l4 : Int32) (l5 : Int32) (again107 : (Int32 × pmM) → pmR) (s107 : Int32 × pmM) : pmR := if s107.1 < 0 then (pm_bI (l5 + 1) fun x12 => again97 (x12, s107.2)) else (pm_gR 9 l0 52 s107.2 fun r13 => pm_gR 9 l0 52 s107.2 fun r14 => pm_ldL r14 s107.1 s107.2 fun x15 => if s107.1 ≤ 0 then (X9_chance_j152 again97 again107 l0 l1 l2 l3 l4 l5 s107.1 0 (x15 * l3.toInt64) s107.1 r13 s107.2) else (pm_gR 9 l0 52 s107.2 fun r18 => pm_ldL r18 (s107.1 - 1) s107.2 fun x19 => X9_chance_j152 again97 again107 l0 l1 l2 l3 l4 l5 s107.1 (x19 * (((16 : Int32) - l3).toInt64)) (x15 * l3.toInt64) s107.1 r13 s107.2))
def X9_chance_L97 (l0 : Nat) (l1 : Int32) (l2 : Int32) (l3 : Int32) (l4 : Int32) (again97 : (Int32 × pmM) → pmR) (s97 : Int32 × pmM) : pmR := if l1 ≤ s97.1 then (pm_bL ((1 : Int64) <<< (((4 : Int32) * l1).toInt64 &&& 63)) fun x6 => pm_lp pm_N (X9_chance_L179 l0 l4 x6) (0, l2, s97.2)) else (pm_lp pm_N (X9_chance_L107 again97 l0 l1 l2 l3 l4 s97.1) (13, s97.2))
def X9_chance_j87 (again64 : (Int32 × pmM) → pmR) (l0 : Nat) (l1 : Int32) (l2 : Int32) (l3 : Int32) (l4 : Int32) (l5 : Int32) (t0 : Int64) (t1 : Int32) (t2 : Nat) (m : pmM) : pmR := pm_stL t2 t1 t0 m fun m21 => pm_bI (l5 + 1) fun x22 => again64 (x22, m21)
def X9_chance_L64 (l0 : Nat) (l1 : Int32) (l2 : Int32) (l3 : Int32) (l4 : Int32) (again64 : (Int32 × pmM) → pmR) (s64 : Int32 × pmM) : pmR := if (14 : Int32) ≤ s64.1 then (pm_lp pm_N (X9_chance_L97 l0 l1 l2 l3 l4) (0, s64.2)) else (pm_gR 9 l0 52 s64.2 fun r20 => if s64.1 = 0 then (X9_chance_j87 again64 l0 l1 l2 l3 l4 s64.1 1 s64.1 r20 s64.2) else (X9_chance_j87 again64 l0 l1 l2 l3 l4 s64.1 0 s64.1 r20 s64.2))
def X9_chance_j51 (l0 : Nat) (l1 : Int32) (l2 : Int32) (l3 : Int32) (l4 : Int32) (t0 : Int32) (t1 : Nat) (m : pmM) : pmR := pm_rc 9 t1 m <| pm_cI (X9_bad t1 t0 1 1 m) fun x5 m4 => if x5 = 0 then (pm_lp pm_N (X9_chance_L64 l0 l1 l2 l3 l4) (0, m4)) else (pm_oL 0 m4)
def X9_chance_j46 (l0 : Nat) (l1 : Int32) (l2 : Int32) (l3 : Int32) (l4 : Int32) (t0 : Nat) (m : pmM) : pmR := X9_chance_j51 l0 l1 l2 l3 l4 1 t0 m
def X9_chance (a0 : Nat) (a1 : Int32) (a2 : Int32) (a3 : Int32) (a4 : Int32) (m : pmM) : pmR := pm_pI 9 a0 0 0 m fun m1 => pm_cI (X9_in a1 0 12 m1) fun x3 m2 => if x3 = 0 then (X9_chance_j46 a0 a1 a2 a3 a4 a0 m2) else (pm_cI (X9_in a2 0 13 m2) fun x24 m23 => if x24 = 0 then (X9_chance_j46 a0 a1 a2 a3 a4 a0 m23) else (pm_cI (X9_in a3 0 16 m23) fun x26 m25 => if x26 = 0 then (X9_chance_j46 a0 a1 a2 a3 a4 a0 m25) else (pm_cI (X9_in a4 0 1 m25) fun x28 m27 => if x28 = 0 then (X9_chance_j46 a0 a1 a2 a3 a4 a0 m27) else (X9_chance_j51 a0 a1 a2 a3 a4 0 a0 m27))))
set_option maxRecDepth 100000 in
set_option maxHeartbeats 4000000 in
theorem gX9_chance_j255 (hfl : l.flags = flags0) (t0 : Int64) (m : pmM) : pm_G l Γ zX9_chance (d + 1) 255 [pmU, pmU, pmU, pmU, pmU, pmU, pmU, pmU, pmU, pmU, pmU, pmU, pmU, pmU, pmU] [.long t0] m (X9_chance_j255 t0 m) := by
  unfold X9_chance_j255
  exact pm_lret rfl dX9_chance_255
set_option maxRecDepth 100000 in
set_option maxHeartbeats 4000000 in
theorem gX9_chance_L212 (hfl : l.flags = flags0) (l4 : Int32) (l5 : Int64) (l7 : Int64) : ∀ (n : Nat) (s : Int64 × Int64 × pmM), pm_G l Γ zX9_chance (d + 1) 212 [pmU, pmU, pmU, pmU, .int l4, .long l5, pmU, .long l7, pmU, .long s.1, pmU, .long s.2.1, pmU, pmU, pmU] [] s.2.2 (pm_lp n (X9_chance_L212 l4 l5 l7) s) :=
  pm_loop (lsf := fun s : Int64 × Int64 × pmM => [pmU, pmU, pmU, pmU, .int l4, .long l5, pmU, .long l7, pmU, .long s.1, pmU, .long s.2.1, pmU, pmU, pmU]) (mf := fun s : Int64 × Int64 × pmM => s.2.2) (fun again212 hag212 s212 => by
    unfold X9_chance_L212
    refine pm_lload dX9_chance_212 rfl ?_
    refine pm_lconst (v := 0) dX9_chance_214 kl_0 ?_
    refine pm_lcmp dX9_chance_215 ?_
    refine pm_if_eq (tgt := 237) dX9_chance_216 rfl ?_ ?_
    · refine pm_iload dX9_chance_237 rfl ?_
      refine pm_if_ne (tgt := 250) dX9_chance_239 rfl ?_ ?_
      · refine pm_lload dX9_chance_250 rfl ?_
        refine pm_lload dX9_chance_252 rfl ?_
        refine pm_ldiv dX9_chance_254 ?_
        refine pm_drop (ls2 := [pmU, pmU, pmU, pmU, pmU, pmU, pmU, pmU, pmU, pmU, pmU, pmU, pmU, pmU, pmU]) (Nat.le_refl _) (pm_le_spec (pm_le_u (pm_le_u (pm_le_u (pm_le_u (pm_le_u (pm_le_u (pm_le_u (pm_le_u (pm_le_u (pm_le_u (pm_le_u (pm_le_u (pm_le_u (pm_le_u (pm_le_u (pm_le_n))))))))))))))))) ?_
        exact gX9_chance_j255 hfl (l7 / s212.1) s212.2.2
      · refine pm_lload dX9_chance_242 rfl ?_
        refine pm_lload dX9_chance_244 rfl ?_
        refine pm_ldiv dX9_chance_246 ?_
        refine pm_goto (tgt := 255) dX9_chance_247 rfl ?_
        refine pm_drop (ls2 := [pmU, pmU, pmU, pmU, pmU, pmU, pmU, pmU, pmU, pmU, pmU, pmU, pmU, pmU, pmU]) (Nat.le_refl _) (pm_le_spec (pm_le_u (pm_le_u (pm_le_u (pm_le_u (pm_le_u (pm_le_u (pm_le_u (pm_le_u (pm_le_u (pm_le_u (pm_le_u (pm_le_u (pm_le_u (pm_le_u (pm_le_u (pm_le_n))))))))))))))))) ?_
        exact gX9_chance_j255 hfl (l5 / s212.1) s212.2.2
    · refine pm_lload dX9_chance_219 rfl ?_
      refine pm_lload dX9_chance_221 rfl ?_
      refine pm_lrem dX9_chance_223 ?_
      refine pm_bLn (fun x7 => ?_)
      refine pm_lstore (ls2 := [pmU, pmU, pmU, pmU, .int l4, .long l5, pmU, .long l7, pmU, .long s212.1, pmU, .long s212.2.1, pmU, .long x7, pmU]) dX9_chance_224 rfl (Nat.le_of_ble_eq_true rfl) rfl ?_
      refine pm_lload dX9_chance_226 rfl ?_
      refine pm_lstore (ls2 := [pmU, pmU, pmU, pmU, .int l4, .long l5, pmU, .long l7, pmU, .long s212.2.1, pmU, .long s212.2.1, pmU, .long x7, pmU]) dX9_chance_228 rfl (Nat.le_of_ble_eq_true rfl) rfl ?_
      refine pm_lload dX9_chance_230 rfl ?_
      refine pm_lstore (ls2 := [pmU, pmU, pmU, pmU, .int l4, .long l5, pmU, .long l7, pmU, .long s212.2.1, pmU, .long x7, pmU, .long x7, pmU]) dX9_chance_232 rfl (Nat.le_of_ble_eq_true rfl) rfl ?_
      refine pm_goto (tgt := 212) dX9_chance_234 rfl ?_
      refine pm_drop (ls2 := [pmU, pmU, pmU, pmU, .int l4, .long l5, pmU, .long l7, pmU, .long s212.2.1, pmU, .long x7, pmU, pmU, pmU]) (Nat.le_refl _) (pm_le_spec (pm_le_u (pm_le_u (pm_le_u (pm_le_u (pm_le_v (pm_le_v (pm_le_u (pm_le_v (pm_le_u (pm_le_v (pm_le_u (pm_le_v (pm_le_u (pm_le_u (pm_le_u (pm_le_n))))))))))))))))) ?_
      exact hag212 (s212.2.1, x7, s212.2.2))
set_option maxRecDepth 100000 in
set_option maxHeartbeats 4000000 in
theorem gX9_chance_L179 (hfl : l.flags = flags0) (l0 : Nat) (l4 : Int32) (l7 : Int64) : ∀ (n : Nat) (s : Int64 × Int32 × pmM), pm_G l Γ zX9_chance (d + 1) 179 [.ref l0, pmU, pmU, pmU, .int l4, .long s.1, pmU, .long l7, pmU, .int s.2.1, pmU, pmU, pmU, pmU, pmU] [] s.2.2 (pm_lp n (X9_chance_L179 l0 l4 l7) s) :=
  pm_loop (lsf := fun s : Int64 × Int32 × pmM => [.ref l0, pmU, pmU, pmU, .int l4, .long s.1, pmU, .long l7, pmU, .int s.2.1, pmU, pmU, pmU, pmU, pmU]) (mf := fun s : Int64 × Int32 × pmM => s.2.2) (fun again179 hag179 s179 => by
    unfold X9_chance_L179
    refine pm_iload dX9_chance_179 rfl ?_
    refine pm_bipush (v := 14) dX9_chance_181 kb_14 ?_
    refine pm_icmp_ge (tgt := 204) dX9_chance_183 rfl ?_ ?_
    · refine pm_lload dX9_chance_204 rfl ?_
      refine pm_lstore (ls2 := [.ref l0, pmU, pmU, pmU, .int l4, .long s179.1, pmU, .long l7, pmU, .long l7, pmU, pmU, pmU, pmU, pmU]) dX9_chance_206 rfl (Nat.le_of_ble_eq_true rfl) rfl ?_
      refine pm_lload dX9_chance_208 rfl ?_
      refine pm_lstore (ls2 := [.ref l0, pmU, pmU, pmU, .int l4, .long s179.1, pmU, .long l7, pmU, .long l7, pmU, .long s179.1, pmU, pmU, pmU]) dX9_chance_210 rfl (Nat.le_of_ble_eq_true rfl) rfl ?_
      refine pm_drop (ls2 := [pmU, pmU, pmU, pmU, .int l4, .long s179.1, pmU, .long l7, pmU, .long l7, pmU, .long s179.1, pmU, pmU, pmU]) (Nat.le_refl _) (pm_le_spec (pm_le_u (pm_le_u (pm_le_u (pm_le_u (pm_le_v (pm_le_v (pm_le_u (pm_le_v (pm_le_u (pm_le_v (pm_le_u (pm_le_v (pm_le_u (pm_le_u (pm_le_u (pm_le_n))))))))))))))))) ?_
      exact gX9_chance_L212 hfl l4 s179.1 l7 pm_N (l7, s179.1, s179.2.2)
    · refine pm_lload dX9_chance_186 rfl ?_
      refine pm_aload_n dX9_chance_188 rfl rfl ?_
      refine fg_9_52 (y := zX9_chance) (Or.inl tw_1418) dX9_chance_189 (fun r8 => ?_)
      refine pm_iload dX9_chance_192 rfl ?_
      refine pm_lald (y := zX9_chance) dX9_chance_194 (fun x9 => ?_)
      refine pm_ladd dX9_chance_195 ?_
      refine pm_bLn (fun x10 => ?_)
      refine pm_lstore (ls2 := [.ref l0, pmU, pmU, pmU, .int l4, .long x10, pmU, .long l7, pmU, .int s179.2.1, pmU, pmU, pmU, pmU, pmU]) dX9_chance_196 rfl (Nat.le_of_ble_eq_true rfl) rfl ?_
      refine pm_iincn (y := zX9_chance) dX9_chance_198 rfl ki_1 rfl (Nat.le_of_ble_eq_true rfl) (fun x11 => ?_)
      refine pm_eqls (ls2 := [.ref l0, pmU, pmU, pmU, .int l4, .long x10, pmU, .long l7, pmU, .int x11, pmU, pmU, pmU, pmU, pmU]) rfl ?_
      refine pm_goto (tgt := 179) dX9_chance_201 rfl ?_
      exact hag179 (x10, x11, s179.2.2))
set_option maxRecDepth 100000 in
set_option maxHeartbeats 4000000 in
theorem gX9_chance_j152 (hfl : l.flags = flags0) (again97 : (Int32 × pmM) → pmR) (again107 : (Int32 × pmM) → pmR) (l0 : Nat) (l1 : Int32) (l2 : Int32) (l3 : Int32) (l4 : Int32) (l5 : Int32) (l6 : Int32) (t0 : Int64) (t1 : Int64) (t2 : Int32) (t3 : Nat) (m : pmM) (hag97 : ∀ s : Int32 × pmM, pm_G l Γ zX9_chance (d + 1) 97 [.ref l0, .int l1, .int l2, .int l3, .int l4, .int s.1, pmU, pmU, pmU, pmU, pmU, pmU, pmU, pmU, pmU] [] s.2 (again97 s)) (hag107 : ∀ s : Int32 × pmM, pm_G l Γ zX9_chance (d + 1) 107 [.ref l0, .int l1, .int l2, .int l3, .int l4, .int l5, .int s.1, pmU, pmU, pmU, pmU, pmU, pmU, pmU, pmU] [] s.2 (again107 s)) : pm_G l Γ zX9_chance (d + 1) 152 [.ref l0, .int l1, .int l2, .int l3, .int l4, .int l5, .int l6, pmU, pmU, pmU, pmU, pmU, pmU, pmU, pmU] [.long t0, .long t1, .int t2, .ref t3] m (X9_chance_j152 again97 again107 l0 l1 l2 l3 l4 l5 l6 t0 t1 t2 t3 m) := by
  unfold X9_chance_j152
  refine pm_ladd dX9_chance_152 ?_
  refine pm_last (y := zX9_chance) dX9_chance_153 (fun m16 => ?_)
  refine pm_iincn (y := zX9_chance) dX9_chance_154 rfl ki_n1 rfl (Nat.le_of_ble_eq_true rfl) (fun x17 => ?_)
  refine pm_eqls (ls2 := [.ref l0, .int l1, .int l2, .int l3, .int l4, .int l5, .int x17, pmU, pmU, pmU, pmU, pmU, pmU, pmU, pmU]) rfl ?_
  refine pm_goto (tgt := 107) dX9_chance_157 rfl ?_
  exact hag107 (x17, m16)
set_option maxRecDepth 100000 in
set_option maxHeartbeats 4000000 in
theorem gX9_chance_L107 (hfl : l.flags = flags0) (again97 : (Int32 × pmM) → pmR) (l0 : Nat) (l1 : Int32) (l2 : Int32) (l3 : Int32) (l4 : Int32) (l5 : Int32) (hag97 : ∀ s : Int32 × pmM, pm_G l Γ zX9_chance (d + 1) 97 [.ref l0, .int l1, .int l2, .int l3, .int l4, .int s.1, pmU, pmU, pmU, pmU, pmU, pmU, pmU, pmU, pmU] [] s.2 (again97 s)) : ∀ (n : Nat) (s : Int32 × pmM), pm_G l Γ zX9_chance (d + 1) 107 [.ref l0, .int l1, .int l2, .int l3, .int l4, .int l5, .int s.1, pmU, pmU, pmU, pmU, pmU, pmU, pmU, pmU] [] s.2 (pm_lp n (X9_chance_L107 again97 l0 l1 l2 l3 l4 l5) s) :=
  pm_loop (lsf := fun s : Int32 × pmM => [.ref l0, .int l1, .int l2, .int l3, .int l4, .int l5, .int s.1, pmU, pmU, pmU, pmU, pmU, pmU, pmU, pmU]) (mf := fun s : Int32 × pmM => s.2) (fun again107 hag107 s107 => by
    unfold X9_chance_L107
    refine pm_iload dX9_chance_107 rfl ?_
    refine pm_if_lt (tgt := 160) dX9_chance_109 rfl ?_ ?_
    · refine pm_iincn (y := zX9_chance) dX9_chance_160 rfl ki_1 rfl (Nat.le_of_ble_eq_true rfl) (fun x12 => ?_)
      refine pm_eqls (ls2 := [.ref l0, .int l1, .int l2, .int l3, .int l4, .int x12, .int s107.1, pmU, pmU, pmU, pmU, pmU, pmU, pmU, pmU]) rfl ?_
      refine pm_goto (tgt := 97) dX9_chance_163 rfl ?_
      refine pm_drop (ls2 := [.ref l0, .int l1, .int l2, .int l3, .int l4, .int x12, pmU, pmU, pmU, pmU, pmU, pmU, pmU, pmU, pmU]) (Nat.le_refl _) (pm_le_spec (pm_le_v (pm_le_v (pm_le_v (pm_le_v (pm_le_v (pm_le_v (pm_le_u (pm_le_u (pm_le_u (pm_le_u (pm_le_u (pm_le_u (pm_le_u (pm_le_u (pm_le_u (pm_le_n))))))))))))))))) ?_
      exact hag97 (x12, s107.2)
    · refine pm_aload_n dX9_chance_112 rfl rfl ?_
      refine fg_9_52 (y := zX9_chance) (Or.inl tw_1418) dX9_chance_113 (fun r13 => ?_)
      refine pm_iload dX9_chance_116 rfl ?_
      refine pm_aload_n dX9_chance_118 rfl rfl ?_
      refine fg_9_52 (y := zX9_chance) (Or.inl tw_1418) dX9_chance_119 (fun r14 => ?_)
      refine pm_iload dX9_chance_122 rfl ?_
      refine pm_lald (y := zX9_chance) dX9_chance_124 (fun x15 => ?_)
      refine pm_iload_n dX9_chance_125 rfl rfl ?_
      refine pm_i2l dX9_chance_126 ?_
      refine pm_lmul dX9_chance_127 ?_
      refine pm_iload dX9_chance_128 rfl ?_
      refine pm_if_le (tgt := 151) dX9_chance_130 rfl ?_ ?_
      · refine pm_lconst (v := 0) dX9_chance_151 kl_0 ?_
        exact gX9_chance_j152 hfl again97 again107 l0 l1 l2 l3 l4 l5 s107.1 0 (x15 * l3.toInt64) s107.1 r13 s107.2 hag97 hag107
      · refine pm_aload_n dX9_chance_133 rfl rfl ?_
        refine fg_9_52 (y := zX9_chance) (Or.inl tw_1418) dX9_chance_134 (fun r18 => ?_)
        refine pm_iload dX9_chance_137 rfl ?_
        refine pm_iconst (v := 1) dX9_chance_139 ki_1 ?_
        refine pm_isub dX9_chance_140 ?_
        refine pm_lald (y := zX9_chance) dX9_chance_141 (fun x19 => ?_)
        refine pm_bipush (v := 16) dX9_chance_142 kb_16 ?_
        refine pm_iload_n dX9_chance_144 rfl rfl ?_
        refine pm_isub dX9_chance_145 ?_
        refine pm_i2l dX9_chance_146 ?_
        refine pm_lmul dX9_chance_147 ?_
        refine pm_goto (tgt := 152) dX9_chance_148 rfl ?_
        exact gX9_chance_j152 hfl again97 again107 l0 l1 l2 l3 l4 l5 s107.1 (x19 * (((16 : Int32) - l3).toInt64)) (x15 * l3.toInt64) s107.1 r13 s107.2 hag97 hag107)
set_option maxRecDepth 100000 in
set_option maxHeartbeats 4000000 in
theorem gX9_chance_L97 (hfl : l.flags = flags0) (l0 : Nat) (l1 : Int32) (l2 : Int32) (l3 : Int32) (l4 : Int32) : ∀ (n : Nat) (s : Int32 × pmM), pm_G l Γ zX9_chance (d + 1) 97 [.ref l0, .int l1, .int l2, .int l3, .int l4, .int s.1, pmU, pmU, pmU, pmU, pmU, pmU, pmU, pmU, pmU] [] s.2 (pm_lp n (X9_chance_L97 l0 l1 l2 l3 l4) s) :=
  pm_loop (lsf := fun s : Int32 × pmM => [.ref l0, .int l1, .int l2, .int l3, .int l4, .int s.1, pmU, pmU, pmU, pmU, pmU, pmU, pmU, pmU, pmU]) (mf := fun s : Int32 × pmM => s.2) (fun again97 hag97 s97 => by
    unfold X9_chance_L97
    refine pm_iload dX9_chance_97 rfl ?_
    refine pm_iload_n dX9_chance_99 rfl rfl ?_
    refine pm_icmp_ge (tgt := 166) dX9_chance_100 rfl ?_ ?_
    · refine pm_lconst (v := 0) dX9_chance_166 kl_0 ?_
      refine pm_lstore (ls2 := [.ref l0, .int l1, .int l2, .int l3, .int l4, .long 0, pmU, pmU, pmU, pmU, pmU, pmU, pmU, pmU, pmU]) dX9_chance_167 rfl (Nat.le_of_ble_eq_true rfl) rfl ?_
      refine pm_lconst (v := 1) dX9_chance_169 kl_1 ?_
      refine pm_iconst (v := 4) dX9_chance_170 ki_4 ?_
      refine pm_iload_n dX9_chance_171 rfl rfl ?_
      refine pm_imul dX9_chance_172 ?_
      refine pm_lshl dX9_chance_173 ?_
      refine pm_bLn (fun x6 => ?_)
      refine pm_lstore (ls2 := [.ref l0, .int l1, .int l2, .int l3, .int l4, .long 0, pmU, .long x6, pmU, pmU, pmU, pmU, pmU, pmU, pmU]) dX9_chance_174 rfl (Nat.le_of_ble_eq_true rfl) rfl ?_
      refine pm_iload_n dX9_chance_176 rfl rfl ?_
      refine pm_istore (ls2 := [.ref l0, .int l1, .int l2, .int l3, .int l4, .long 0, pmU, .long x6, pmU, .int l2, pmU, pmU, pmU, pmU, pmU]) dX9_chance_177 rfl (Nat.le_of_ble_eq_true rfl) rfl ?_
      refine pm_drop (ls2 := [.ref l0, pmU, pmU, pmU, .int l4, .long 0, pmU, .long x6, pmU, .int l2, pmU, pmU, pmU, pmU, pmU]) (Nat.le_refl _) (pm_le_spec (pm_le_v (pm_le_u (pm_le_u (pm_le_u (pm_le_v (pm_le_v (pm_le_u (pm_le_v (pm_le_u (pm_le_v (pm_le_u (pm_le_u (pm_le_u (pm_le_u (pm_le_u (pm_le_n))))))))))))))))) ?_
      exact gX9_chance_L179 hfl l0 l4 x6 pm_N (0, l2, s97.2)
    · refine pm_bipush (v := 13) dX9_chance_103 kb_13 ?_
      refine pm_istore (ls2 := [.ref l0, .int l1, .int l2, .int l3, .int l4, .int s97.1, .int 13, pmU, pmU, pmU, pmU, pmU, pmU, pmU, pmU]) dX9_chance_105 rfl (Nat.le_of_ble_eq_true rfl) rfl ?_
      exact gX9_chance_L107 hfl again97 l0 l1 l2 l3 l4 s97.1 hag97 pm_N (13, s97.2))
set_option maxRecDepth 100000 in
set_option maxHeartbeats 4000000 in
theorem gX9_chance_j87 (hfl : l.flags = flags0) (again64 : (Int32 × pmM) → pmR) (l0 : Nat) (l1 : Int32) (l2 : Int32) (l3 : Int32) (l4 : Int32) (l5 : Int32) (t0 : Int64) (t1 : Int32) (t2 : Nat) (m : pmM) (hag64 : ∀ s : Int32 × pmM, pm_G l Γ zX9_chance (d + 1) 64 [.ref l0, .int l1, .int l2, .int l3, .int l4, .int s.1, pmU, pmU, pmU, pmU, pmU, pmU, pmU, pmU, pmU] [] s.2 (again64 s)) : pm_G l Γ zX9_chance (d + 1) 87 [.ref l0, .int l1, .int l2, .int l3, .int l4, .int l5, pmU, pmU, pmU, pmU, pmU, pmU, pmU, pmU, pmU] [.long t0, .int t1, .ref t2] m (X9_chance_j87 again64 l0 l1 l2 l3 l4 l5 t0 t1 t2 m) := by
  unfold X9_chance_j87
  refine pm_last (y := zX9_chance) dX9_chance_87 (fun m21 => ?_)
  refine pm_iincn (y := zX9_chance) dX9_chance_88 rfl ki_1 rfl (Nat.le_of_ble_eq_true rfl) (fun x22 => ?_)
  refine pm_eqls (ls2 := [.ref l0, .int l1, .int l2, .int l3, .int l4, .int x22, pmU, pmU, pmU, pmU, pmU, pmU, pmU, pmU, pmU]) rfl ?_
  refine pm_goto (tgt := 64) dX9_chance_91 rfl ?_
  exact hag64 (x22, m21)
set_option maxRecDepth 100000 in
set_option maxHeartbeats 4000000 in
theorem gX9_chance_L64 (hfl : l.flags = flags0) (l0 : Nat) (l1 : Int32) (l2 : Int32) (l3 : Int32) (l4 : Int32) : ∀ (n : Nat) (s : Int32 × pmM), pm_G l Γ zX9_chance (d + 1) 64 [.ref l0, .int l1, .int l2, .int l3, .int l4, .int s.1, pmU, pmU, pmU, pmU, pmU, pmU, pmU, pmU, pmU] [] s.2 (pm_lp n (X9_chance_L64 l0 l1 l2 l3 l4) s) :=
  pm_loop (lsf := fun s : Int32 × pmM => [.ref l0, .int l1, .int l2, .int l3, .int l4, .int s.1, pmU, pmU, pmU, pmU, pmU, pmU, pmU, pmU, pmU]) (mf := fun s : Int32 × pmM => s.2) (fun again64 hag64 s64 => by
    unfold X9_chance_L64
    refine pm_iload dX9_chance_64 rfl ?_
    refine pm_bipush (v := 14) dX9_chance_66 kb_14 ?_
    refine pm_icmp_ge (tgt := 94) dX9_chance_68 rfl ?_ ?_
    · refine pm_iconst (v := 0) dX9_chance_94 ki_0 ?_
      refine pm_istore (ls2 := [.ref l0, .int l1, .int l2, .int l3, .int l4, .int 0, pmU, pmU, pmU, pmU, pmU, pmU, pmU, pmU, pmU]) dX9_chance_95 rfl (Nat.le_of_ble_eq_true rfl) rfl ?_
      exact gX9_chance_L97 hfl l0 l1 l2 l3 l4 pm_N (0, s64.2)
    · refine pm_aload_n dX9_chance_71 rfl rfl ?_
      refine fg_9_52 (y := zX9_chance) (Or.inl tw_1418) dX9_chance_72 (fun r20 => ?_)
      refine pm_iload dX9_chance_75 rfl ?_
      refine pm_iload dX9_chance_77 rfl ?_
      refine pm_if_ne (tgt := 86) dX9_chance_79 rfl ?_ ?_
      · refine pm_lconst (v := 0) dX9_chance_86 kl_0 ?_
        exact gX9_chance_j87 hfl again64 l0 l1 l2 l3 l4 s64.1 0 s64.1 r20 s64.2 hag64
      · refine pm_lconst (v := 1) dX9_chance_82 kl_1 ?_
        refine pm_goto (tgt := 87) dX9_chance_83 rfl ?_
        exact gX9_chance_j87 hfl again64 l0 l1 l2 l3 l4 s64.1 1 s64.1 r20 s64.2 hag64)
set_option maxRecDepth 100000 in
set_option maxHeartbeats 4000000 in
theorem gX9_chance_j51 (hfl : l.flags = flags0) (l0 : Nat) (l1 : Int32) (l2 : Int32) (l3 : Int32) (l4 : Int32) (t0 : Int32) (t1 : Nat) (m : pmM) : pm_G l Γ zX9_chance (d + 1) 51 [.ref l0, .int l1, .int l2, .int l3, .int l4, pmU, pmU, pmU, pmU, pmU, pmU, pmU, pmU, pmU, pmU] [.int t0, .ref t1] m (X9_chance_j51 l0 l1 l2 l3 l4 t0 t1 m) := by
  unfold X9_chance_j51
  refine pm_iconst (v := 1) dX9_chance_51 ki_1 ?_
  refine pm_iconst (v := 1) dX9_chance_52 ki_1 ?_
  refine pm_rcv (fun hb9 hc9 => ?_)
  refine pm_kI (d := d + 0) rfl (pm_V (y := zX9_chance) (z := zX9_bad) (As := [.int t0, .int 1, .int 1]) zkX9_bad pm_q9 (by decide) tw_1548 tw_1550 tw_99 dX9_chance_53 rfl rfl (Nat.le_of_ble_eq_true rfl) hb9 hc9) (kcX9_bad (d := d + 0) hfl t1 t0 1 1 m) (fun x5 m4 => ?_)
  refine pm_if_eq (tgt := 61) dX9_chance_56 rfl ?_ ?_
  · refine pm_iconst (v := 0) dX9_chance_61 ki_0 ?_
    refine pm_istore (ls2 := [.ref l0, .int l1, .int l2, .int l3, .int l4, .int 0, pmU, pmU, pmU, pmU, pmU, pmU, pmU, pmU, pmU]) dX9_chance_62 rfl (Nat.le_of_ble_eq_true rfl) rfl ?_
    exact gX9_chance_L64 hfl l0 l1 l2 l3 l4 pm_N (0, m4)
  · refine pm_lconst (v := 0) dX9_chance_59 kl_0 ?_
    exact pm_lret rfl dX9_chance_60
set_option maxRecDepth 100000 in
set_option maxHeartbeats 4000000 in
theorem gX9_chance_j46 (hfl : l.flags = flags0) (l0 : Nat) (l1 : Int32) (l2 : Int32) (l3 : Int32) (l4 : Int32) (t0 : Nat) (m : pmM) : pm_G l Γ zX9_chance (d + 1) 46 [.ref l0, .int l1, .int l2, .int l3, .int l4, pmU, pmU, pmU, pmU, pmU, pmU, pmU, pmU, pmU, pmU] [.ref t0] m (X9_chance_j46 l0 l1 l2 l3 l4 t0 m) := by
  unfold X9_chance_j46
  refine pm_iconst (v := 1) dX9_chance_46 ki_1 ?_
  refine pm_goto (tgt := 51) dX9_chance_47 rfl ?_
  exact gX9_chance_j51 hfl l0 l1 l2 l3 l4 1 t0 m
set_option maxRecDepth 100000 in
set_option maxHeartbeats 4000000 in
theorem kcX9_chance (hfl : l.flags = flags0) (a0 : Nat) (a1 : Int32) (a2 : Int32) (a3 : Int32) (a4 : Int32) (m : pmM) : pm_C l Γ zX9_chance (d + 1) [.ref a0, .int a1, .int a2, .int a3, .int a4] m (X9_chance a0 a1 a2 a3 a4 m) := by
  refine pm_enter (ls := [.ref a0, .int a1, .int a2, .int a3, .int a4, pmU, pmU, pmU, pmU, pmU, pmU, pmU, pmU, pmU, pmU]) hfl (by decide +kernel) rfl (Nat.le_of_ble_eq_true rfl) rfl (Nat.le_of_ble_eq_true rfl) ?_
  unfold X9_chance
  refine pm_aload_n dX9_chance_0 rfl rfl ?_
  refine pm_iconst (v := 0) dX9_chance_1 ki_0 ?_
  refine fp_9_0 (y := zX9_chance) (Or.inl tw_1366) dX9_chance_2 (fun m1 => ?_)
  refine pm_aload_n dX9_chance_5 rfl rfl ?_
  refine pm_iload_n dX9_chance_6 rfl rfl ?_
  refine pm_iconst (v := 0) dX9_chance_7 ki_0 ?_
  refine pm_bipush (v := 12) dX9_chance_8 kb_12 ?_
  refine pm_kI (d := d + 0) rfl (pm_S (y := zX9_chance) (z := zX9_in) (As := [.int a1, .int 0, .int 12]) zkX9_in tw_1545 tw_1546 dX9_chance_10 rfl rfl (Nat.le_of_ble_eq_true rfl)) (kcX9_in (d := d + 0) hfl a1 0 12 m1) (fun x3 m2 => ?_)
  refine pm_if_eq (tgt := 46) dX9_chance_13 rfl ?_ ?_
  · exact gX9_chance_j46 hfl a0 a1 a2 a3 a4 a0 m2
  · refine pm_iload_n dX9_chance_16 rfl rfl ?_
    refine pm_iconst (v := 0) dX9_chance_17 ki_0 ?_
    refine pm_bipush (v := 13) dX9_chance_18 kb_13 ?_
    refine pm_kI (d := d + 0) rfl (pm_S (y := zX9_chance) (z := zX9_in) (As := [.int a2, .int 0, .int 13]) zkX9_in tw_1545 tw_1546 dX9_chance_20 rfl rfl (Nat.le_of_ble_eq_true rfl)) (kcX9_in (d := d + 0) hfl a2 0 13 m2) (fun x24 m23 => ?_)
    refine pm_if_eq (tgt := 46) dX9_chance_23 rfl ?_ ?_
    · exact gX9_chance_j46 hfl a0 a1 a2 a3 a4 a0 m23
    · refine pm_iload_n dX9_chance_26 rfl rfl ?_
      refine pm_iconst (v := 0) dX9_chance_27 ki_0 ?_
      refine pm_bipush (v := 16) dX9_chance_28 kb_16 ?_
      refine pm_kI (d := d + 0) rfl (pm_S (y := zX9_chance) (z := zX9_in) (As := [.int a3, .int 0, .int 16]) zkX9_in tw_1545 tw_1546 dX9_chance_30 rfl rfl (Nat.le_of_ble_eq_true rfl)) (kcX9_in (d := d + 0) hfl a3 0 16 m23) (fun x26 m25 => ?_)
      refine pm_if_eq (tgt := 46) dX9_chance_33 rfl ?_ ?_
      · exact gX9_chance_j46 hfl a0 a1 a2 a3 a4 a0 m25
      · refine pm_iload dX9_chance_36 rfl ?_
        refine pm_iconst (v := 0) dX9_chance_38 ki_0 ?_
        refine pm_iconst (v := 1) dX9_chance_39 ki_1 ?_
        refine pm_kI (d := d + 0) rfl (pm_S (y := zX9_chance) (z := zX9_in) (As := [.int a4, .int 0, .int 1]) zkX9_in tw_1545 tw_1546 dX9_chance_40 rfl rfl (Nat.le_of_ble_eq_true rfl)) (kcX9_in (d := d + 0) hfl a4 0 1 m25) (fun x28 m27 => ?_)
        refine pm_if_ne (tgt := 50) dX9_chance_43 rfl ?_ ?_
        · refine pm_iconst (v := 0) dX9_chance_50 ki_0 ?_
          exact gX9_chance_j51 hfl a0 a1 a2 a3 a4 0 a0 m27
        · exact gX9_chance_j46 hfl a0 a1 a2 a3 a4 a0 m27
-- StruckPageModel.givenBy(II)I
def X9_givenBy_j42 (again5 : (Int32 × Int32 × pmM) → pmR) (l0 : Nat) (l1 : Int32) (l2 : Int32) (l4 : Int32) (t0 : Int32) (t1 : Int32) (m : pmM) : pmR := pm_bI (t1 + t0) fun x4 => pm_bI (l4 + 1) fun x5 => again5 (x4, x5, m)
def X9_givenBy_L5 (l0 : Nat) (l1 : Int32) (l2 : Int32) (again5 : (Int32 × Int32 × pmM) → pmR) (s5 : Int32 × Int32 × pmM) : pmR := pm_gI 9 l0 13 s5.2.2 fun x1 => if x1 ≤ s5.2.1 then (pm_oI s5.1 s5.2.2) else (pm_cI (X9_has l1 s5.2.1 s5.2.2) fun x3 m2 => if x3 = 0 then (X9_givenBy_j42 again5 l0 l1 l2 s5.2.1 0 s5.1 m2) else (pm_gR 9 l0 29 m2 fun r6 => pm_rc 9 l0 m2 <| pm_cI (X9_leftIn l0 r6 s5.2.1 m2) fun x8 m7 => pm_cI (X9_less l2 x8 m7) fun x10 m9 => X9_givenBy_j42 again5 l0 l1 l2 s5.2.1 x10 s5.1 m9))
def X9_givenBy (a0 : Nat) (a1 : Int32) (a2 : Int32) (m : pmM) : pmR := pm_lp pm_N (X9_givenBy_L5 a0 a1 a2) (0, 0, m)
set_option maxRecDepth 100000 in
set_option maxHeartbeats 4000000 in
theorem gX9_givenBy_j42 (hfl : l.flags = flags0) (again5 : (Int32 × Int32 × pmM) → pmR) (l0 : Nat) (l1 : Int32) (l2 : Int32) (l4 : Int32) (t0 : Int32) (t1 : Int32) (m : pmM) (hag5 : ∀ s : Int32 × Int32 × pmM, pm_G l Γ zX9_givenBy (d + 2) 5 [.ref l0, .int l1, .int l2, .int s.1, .int s.2.1] [] s.2.2 (again5 s)) : pm_G l Γ zX9_givenBy (d + 2) 42 [.ref l0, .int l1, .int l2, pmU, .int l4] [.int t0, .int t1] m (X9_givenBy_j42 again5 l0 l1 l2 l4 t0 t1 m) := by
  unfold X9_givenBy_j42
  refine pm_iadd dX9_givenBy_42 ?_
  refine pm_bIn (fun x4 => ?_)
  refine pm_istore_n (ls2 := [.ref l0, .int l1, .int l2, .int x4, .int l4]) dX9_givenBy_43 rfl rfl (Nat.le_of_ble_eq_true rfl) rfl ?_
  refine pm_iincn (y := zX9_givenBy) dX9_givenBy_44 rfl ki_1 rfl (Nat.le_of_ble_eq_true rfl) (fun x5 => ?_)
  refine pm_eqls (ls2 := [.ref l0, .int l1, .int l2, .int x4, .int x5]) rfl ?_
  refine pm_goto (tgt := 5) dX9_givenBy_47 rfl ?_
  exact hag5 (x4, x5, m)
set_option maxRecDepth 100000 in
set_option maxHeartbeats 4000000 in
theorem gX9_givenBy_L5 (hfl : l.flags = flags0) (l0 : Nat) (l1 : Int32) (l2 : Int32) : ∀ (n : Nat) (s : Int32 × Int32 × pmM), pm_G l Γ zX9_givenBy (d + 2) 5 [.ref l0, .int l1, .int l2, .int s.1, .int s.2.1] [] s.2.2 (pm_lp n (X9_givenBy_L5 l0 l1 l2) s) :=
  pm_loop (lsf := fun s : Int32 × Int32 × pmM => [.ref l0, .int l1, .int l2, .int s.1, .int s.2.1]) (mf := fun s : Int32 × Int32 × pmM => s.2.2) (fun again5 hag5 s5 => by
    unfold X9_givenBy_L5
    refine pm_iload dX9_givenBy_5 rfl ?_
    refine pm_aload_n dX9_givenBy_7 rfl rfl ?_
    refine fg_9_13 (y := zX9_givenBy) (Or.inl tw_1379) dX9_givenBy_8 (fun x1 => ?_)
    refine pm_icmp_ge (tgt := 50) dX9_givenBy_11 rfl ?_ ?_
    · refine pm_iload_n dX9_givenBy_50 rfl rfl ?_
      exact pm_iret rfl dX9_givenBy_51
    · refine pm_iload_n dX9_givenBy_14 rfl rfl ?_
      refine pm_iload_n dX9_givenBy_15 rfl rfl ?_
      refine pm_iload dX9_givenBy_16 rfl ?_
      refine pm_kI (d := d + 1) rfl (pm_S (y := zX9_givenBy) (z := zX9_has) (As := [.int l1, .int s5.2.1]) zkX9_has tw_1748 tw_1749 dX9_givenBy_18 rfl rfl (Nat.le_of_ble_eq_true rfl)) (kcX9_has (d := d + 1) hfl l1 s5.2.1 s5.2.2) (fun x3 m2 => ?_)
      refine pm_if_eq (tgt := 41) dX9_givenBy_21 rfl ?_ ?_
      · refine pm_iconst (v := 0) dX9_givenBy_41 ki_0 ?_
        refine pm_drop (ls2 := [.ref l0, .int l1, .int l2, pmU, .int s5.2.1]) (Nat.le_refl _) (pm_le_spec (pm_le_v (pm_le_v (pm_le_v (pm_le_u (pm_le_v (pm_le_n))))))) ?_
        exact gX9_givenBy_j42 hfl again5 l0 l1 l2 s5.2.1 0 s5.1 m2 hag5
      · refine pm_iload_n dX9_givenBy_24 rfl rfl ?_
        refine pm_aload_n dX9_givenBy_25 rfl rfl ?_
        refine pm_aload_n dX9_givenBy_26 rfl rfl ?_
        refine fg_9_29 (y := zX9_givenBy) (Or.inl tw_1395) dX9_givenBy_27 (fun r6 => ?_)
        refine pm_iload dX9_givenBy_30 rfl ?_
        refine pm_rcv (fun hb9 hc9 => ?_)
        refine pm_kI (d := d + 1) rfl (pm_V (y := zX9_givenBy) (z := zX9_leftIn) (As := [.ref r6, .int s5.2.1]) zkX9_leftIn pm_q9 (by decide) tw_1707 tw_1709 tw_130 dX9_givenBy_32 rfl rfl (Nat.le_of_ble_eq_true rfl) hb9 hc9) (kcX9_leftIn (d := d + 0) hfl l0 r6 s5.2.1 m2) (fun x8 m7 => ?_)
        refine pm_kI (d := d + 1) rfl (pm_S (y := zX9_givenBy) (z := zX9_less) (As := [.int l2, .int x8]) zkX9_less tw_1722 tw_1723 dX9_givenBy_35 rfl rfl (Nat.le_of_ble_eq_true rfl)) (kcX9_less (d := d + 1) hfl l2 x8 m7) (fun x10 m9 => ?_)
        refine pm_goto (tgt := 42) dX9_givenBy_38 rfl ?_
        refine pm_drop (ls2 := [.ref l0, .int l1, .int l2, pmU, .int s5.2.1]) (Nat.le_refl _) (pm_le_spec (pm_le_v (pm_le_v (pm_le_v (pm_le_u (pm_le_v (pm_le_n))))))) ?_
        exact gX9_givenBy_j42 hfl again5 l0 l1 l2 s5.2.1 x10 s5.1 m9 hag5)
set_option maxRecDepth 100000 in
set_option maxHeartbeats 4000000 in
theorem kcX9_givenBy (hfl : l.flags = flags0) (a0 : Nat) (a1 : Int32) (a2 : Int32) (m : pmM) : pm_C l Γ zX9_givenBy (d + 2) [.ref a0, .int a1, .int a2] m (X9_givenBy a0 a1 a2 m) := by
  refine pm_enter (ls := [.ref a0, .int a1, .int a2, pmU, pmU]) hfl (by decide +kernel) rfl (Nat.le_of_ble_eq_true rfl) rfl (Nat.le_of_ble_eq_true rfl) ?_
  unfold X9_givenBy
  refine pm_iconst (v := 0) dX9_givenBy_0 ki_0 ?_
  refine pm_istore_n (ls2 := [.ref a0, .int a1, .int a2, .int 0, pmU]) dX9_givenBy_1 rfl rfl (Nat.le_of_ble_eq_true rfl) rfl ?_
  refine pm_iconst (v := 0) dX9_givenBy_2 ki_0 ?_
  refine pm_istore (ls2 := [.ref a0, .int a1, .int a2, .int 0, .int 0]) dX9_givenBy_3 rfl (Nat.le_of_ble_eq_true rfl) rfl ?_
  exact gX9_givenBy_L5 hfl a0 a1 a2 pm_N (0, 0, m)
end GEN26
