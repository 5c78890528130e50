section GEN13
variable {l : Launch} {Γ : pmG} {d : Nat}
-- StruckPage.share(III)I
abbrev zX8_share : pmY := (⟨"StruckPage", "share", "(III)I"⟩, cX8_share, 5, some .int, [])
def X8_share_j66 (l0 : Nat) (l1 : Int32) (l4 : Int32) (m : pmM) : pmR := pm_gR 8 l0 8 m fun r4 => pm_rc 0 r4 m <| pm_cI (X0_leftIn r4 l1 m) fun x6 m5 => pm_oI (if l4 < x6 then l4 else x6) m5
def X8_share_L44 (l0 : Nat) (l1 : Int32) (l2 : Int32) (l3 : Int32) (again44 : (Int32 × pmM) → pmR) (s44 : Int32 × pmM) : pmR := if s44.1 ≤ 0 then (X8_share_j66 l0 l1 s44.1 s44.2) else (pm_rc 8 l0 s44.2 <| pm_cI (X8_givenBy l0 l2 s44.1 s44.2) fun x8 m7 => if x8 ≤ l3 then (X8_share_j66 l0 l1 s44.1 m7) else (pm_bI (s44.1 + (-1)) fun x9 => again44 (x9, m7)))
def X8_share_j27 (l0 : Nat) (l1 : Int32) (l2 : Int32) (l3 : Int32) (t0 : Int32) (t1 : Nat) (m : pmM) : pmR := pm_rc 8 t1 m <| pm_cV (X8_must t1 t0 m) fun m3 => if ((l2 >>> (l1 &&& 31)) &&& 1) = 0 then (pm_oI 0 m3) else (pm_lp pm_N (X8_share_L44 l0 l1 l2 l3) (8, m3))
def X8_share_j26 (l0 : Nat) (l1 : Int32) (l2 : Int32) (l3 : Int32) (t0 : Nat) (m : pmM) : pmR := X8_share_j27 l0 l1 l2 l3 0 t0 m
def X8_share (a0 : Nat) (a1 : Int32) (a2 : Int32) (a3 : Int32) (m : pmM) : pmR := pm_rc 8 a0 m <| pm_cV (X8_mustBeLine a0 a1 m) fun m1 => pm_rc 8 a0 m1 <| pm_cV (X8_mustBeBits a0 a2 m1) fun m2 => if a3 < 0 then (X8_share_j26 a0 a1 a2 a3 a0 m2) else (if (200 : Int32) < a3 then (X8_share_j26 a0 a1 a2 a3 a0 m2) else (X8_share_j27 a0 a1 a2 a3 1 a0 m2))
theorem zkX8_share : pm_zOk zX8_share 3 := ⟨rfl, tw_1294, tw_158, by decide +kernel, by decide⟩
set_option maxRecDepth 100000 in
set_option maxHeartbeats 4000000 in
theorem gX8_share_j66 (hfl : l.flags = flags0) (l0 : Nat) (l1 : Int32) (l4 : Int32) (m : pmM) : pm_G l Γ zX8_share (d + 3) 66 [.ref l0, .int l1, pmU, pmU, .int l4] [] m (X8_share_j66 l0 l1 l4 m) := by
  unfold X8_share_j66
  refine pm_aload_n dX8_share_66 rfl rfl ?_
  refine fg_8_8 (y := zX8_share) (Or.inl tw_448) dX8_share_67 (fun r4 => ?_)
  refine pm_iload_n dX8_share_70 rfl rfl ?_
  refine pm_rcv (fun hb9 hc9 => ?_)
  refine pm_kI rfl (pm_VN (y := zX8_share) (z := zX0_leftIn) (As := [.int l1]) zkX0_leftIn pm_q0 (by decide) tw_1095 tw_1097 tw_82 dX8_share_71 rfl rfl (Nat.le_of_ble_eq_true rfl) hb9 hc9) (kcX0_leftIn hfl r4 l1 m) (fun x6 m5 => ?_)
  refine pm_iload dX8_share_74 rfl ?_
  refine pm_min (y := zX8_share) tw_1299 tw_596 tw_173 tw_597 dX8_share_76 (Nat.le_of_ble_eq_true rfl) ?_
  exact pm_iret rfl dX8_share_79
set_option maxRecDepth 100000 in
set_option maxHeartbeats 4000000 in
theorem gX8_share_L44 (hfl : l.flags = flags0) (l0 : Nat) (l1 : Int32) (l2 : Int32) (l3 : Int32) : ∀ (n : Nat) (s : Int32 × pmM), pm_G l Γ zX8_share (d + 3) 44 [.ref l0, .int l1, .int l2, .int l3, .int s.1] [] s.2 (pm_lp n (X8_share_L44 l0 l1 l2 l3) s) :=
  pm_loop (lsf := fun s : Int32 × pmM => [.ref l0, .int l1, .int l2, .int l3, .int s.1]) (mf := fun s : Int32 × pmM => s.2) (fun again44 hag44 s44 => by
    unfold X8_share_L44
    refine pm_iload dX8_share_44 rfl ?_
    refine pm_if_le (tgt := 66) dX8_share_46 rfl ?_ ?_
    · refine pm_drop (ls2 := [.ref l0, .int l1, pmU, pmU, .int s44.1]) (Nat.le_refl _) (pm_le_spec (pm_le_v (pm_le_v (pm_le_u (pm_le_u (pm_le_v (pm_le_n))))))) ?_
      exact gX8_share_j66 hfl l0 l1 s44.1 s44.2
    · refine pm_aload_n dX8_share_49 rfl rfl ?_
      refine pm_iload_n dX8_share_50 rfl rfl ?_
      refine pm_iload dX8_share_51 rfl ?_
      refine pm_rcv (fun hb9 hc9 => ?_)
      refine pm_kI rfl (pm_V (y := zX8_share) (z := zX8_givenBy) (As := [.int l2, .int s44.1]) zkX8_givenBy pm_q8 (by decide) tw_1295 tw_1297 tw_94 dX8_share_53 rfl rfl (Nat.le_of_ble_eq_true rfl) hb9 hc9) (kcX8_givenBy hfl l0 l2 s44.1 s44.2) (fun x8 m7 => ?_)
      refine pm_iload_n dX8_share_56 rfl rfl ?_
      refine pm_icmp_le (tgt := 66) dX8_share_57 rfl ?_ ?_
      · refine pm_drop (ls2 := [.ref l0, .int l1, pmU, pmU, .int s44.1]) (Nat.le_refl _) (pm_le_spec (pm_le_v (pm_le_v (pm_le_u (pm_le_u (pm_le_v (pm_le_n))))))) ?_
        exact gX8_share_j66 hfl l0 l1 s44.1 m7
      · refine pm_iincn (y := zX8_share) dX8_share_60 rfl ki_n1 rfl (Nat.le_of_ble_eq_true rfl) (fun x9 => ?_)
        refine pm_eqls (ls2 := [.ref l0, .int l1, .int l2, .int l3, .int x9]) rfl ?_
        refine pm_goto (tgt := 44) dX8_share_63 rfl ?_
        exact hag44 (x9, m7))
set_option maxRecDepth 100000 in
set_option maxHeartbeats 4000000 in
theorem gX8_share_j27 (hfl : l.flags = flags0) (l0 : Nat) (l1 : Int32) (l2 : Int32) (l3 : Int32) (t0 : Int32) (t1 : Nat) (m : pmM) : pm_G l Γ zX8_share (d + 3) 27 [.ref l0, .int l1, .int l2, .int l3, pmU] [.int t0, .ref t1] m (X8_share_j27 l0 l1 l2 l3 t0 t1 m) := by
  unfold X8_share_j27
  refine pm_rcv (fun hb9 hc9 => ?_)
  refine pm_kV rfl (pm_V (y := zX8_share) (z := zX8_must) (As := [.int t0]) zkX8_must pm_q8 (by decide) tw_687 tw_689 tw_30 dX8_share_27 rfl rfl (Nat.le_of_ble_eq_true rfl) hb9 hc9) (kcX8_must hfl t1 t0 m) (fun m3 => ?_)
  refine pm_iload_n dX8_share_30 rfl rfl ?_
  refine pm_iload_n dX8_share_31 rfl rfl ?_
  refine pm_ishr dX8_share_32 ?_
  refine pm_iconst (v := 1) dX8_share_33 ki_1 ?_
  refine pm_iand dX8_share_34 ?_
  refine pm_if_ne (tgt := 40) dX8_share_35 rfl ?_ ?_
  · refine pm_bipush (v := 8) dX8_share_40 kb_8 ?_
    refine pm_istore (ls2 := [.ref l0, .int l1, .int l2, .int l3, .int 8]) dX8_share_42 rfl (Nat.le_of_ble_eq_true rfl) rfl ?_
    exact gX8_share_L44 hfl l0 l1 l2 l3 pm_N (8, m3)
  · refine pm_iconst (v := 0) dX8_share_38 ki_0 ?_
    exact pm_iret rfl dX8_share_39
set_option maxRecDepth 100000 in
set_option maxHeartbeats 4000000 in
theorem gX8_share_j26 (hfl : l.flags = flags0) (l0 : Nat) (l1 : Int32) (l2 : Int32) (l3 : Int32) (t0 : Nat) (m : pmM) : pm_G l Γ zX8_share (d + 3) 26 [.ref l0, .int l1, .int l2, .int l3, pmU] [.ref t0] m (X8_share_j26 l0 l1 l2 l3 t0 m) := by
  unfold X8_share_j26
  refine pm_iconst (v := 0) dX8_share_26 ki_0 ?_
  exact gX8_share_j27 hfl l0 l1 l2 l3 0 t0 m
set_option maxRecDepth 100000 in
set_option maxHeartbeats 4000000 in
theorem kcX8_share (hfl : l.flags = flags0) (a0 : Nat) (a1 : Int32) (a2 : Int32) (a3 : Int32) (m : pmM) : pm_C l Γ zX8_share (d + 3) [.ref a0, .int a1, .int a2, .int a3] m (X8_share a0 a1 a2 a3 m) := by
  refine pm_enter (ls := [.ref a0, .int a1, .int a2, .int a3, pmU]) hfl (by decide +kernel) rfl (Nat.le_of_ble_eq_true rfl) rfl (Nat.le_of_ble_eq_true rfl) ?_
  unfold X8_share
  refine pm_aload_n dX8_share_0 rfl rfl ?_
  refine pm_iload_n dX8_share_1 rfl rfl ?_
  refine pm_rcv (fun hb9 hc9 => ?_)
  refine pm_kV rfl (pm_V (y := zX8_share) (z := zX8_mustBeLine) (As := [.int a1]) zkX8_mustBeLine pm_q8 (by decide) tw_1107 tw_1109 tw_83 dX8_share_2 rfl rfl (Nat.le_of_ble_eq_true rfl) hb9 hc9) (kcX8_mustBeLine hfl a0 a1 m) (fun m1 => ?_)
  refine pm_aload_n dX8_share_5 rfl rfl ?_
  refine pm_iload_n dX8_share_6 rfl rfl ?_
  refine pm_rcv (fun hb9 hc9 => ?_)
  refine pm_kV rfl (pm_V (y := zX8_share) (z := zX8_mustBeBits) (As := [.int a2]) zkX8_mustBeBits pm_q8 (by decide) tw_1240 tw_1242 tw_90 dX8_share_7 rfl rfl (Nat.le_of_ble_eq_true rfl) hb9 hc9) (kcX8_mustBeBits hfl a0 a2 m1) (fun m2 => ?_)
  refine pm_aload_n dX8_share_10 rfl rfl ?_
  refine pm_iload_n dX8_share_11 rfl rfl ?_
  refine pm_if_lt (tgt := 26) dX8_share_12 rfl ?_ ?_
  · exact gX8_share_j26 hfl a0 a1 a2 a3 a0 m2
  · refine pm_iload_n dX8_share_15 rfl rfl ?_
    refine pm_sipush (v := 200) dX8_share_16 ks_200 ?_
    refine pm_icmp_gt (tgt := 26) dX8_share_19 rfl ?_ ?_
    · exact gX8_share_j26 hfl a0 a1 a2 a3 a0 m2
    · refine pm_iconst (v := 1) dX8_share_22 ki_1 ?_
      refine pm_goto (tgt := 27) dX8_share_23 rfl ?_
      exact gX8_share_j27 hfl a0 a1 a2 a3 1 a0 m2
-- StruckPage.hadBy(IIII)I
abbrev zX8_hadBy : pmY := (⟨"StruckPage", "hadBy", "(IIII)I"⟩, cX8_hadBy, 4, some .int, [])
def X8_hadBy_j24 (t0 : Int32) (m : pmM) : pmR := pm_oI t0 m
def X8_hadBy_j14 (t0 : Int32) (m : pmM) : pmR := pm_oI t0 m
def X8_hadBy (a0 : Int32) (a1 : Int32) (a2 : Int32) (a3 : Int32) (m : pmM) : pmR := if a2 = 0 then (if a3 = 0 then (X8_hadBy_j14 (-a1) m) else (X8_hadBy_j14 a0 m)) else (if a3 = 0 then (X8_hadBy_j24 0 m) else (X8_hadBy_j24 a1 m))
theorem zkX8_hadBy : pm_zOk zX8_hadBy 4 := ⟨rfl, tw_1276, tw_158, by decide +kernel, by decide⟩
set_option maxRecDepth 100000 in
set_option maxHeartbeats 4000000 in
theorem gX8_hadBy_j24 (hfl : l.flags = flags0) (t0 : Int32) (m : pmM) : pm_G l Γ zX8_hadBy (d + 0) 24 [pmU, pmU, pmU, pmU] [.int t0] m (X8_hadBy_j24 t0 m) := by
  unfold X8_hadBy_j24
  exact pm_iret rfl dX8_hadBy_24
set_option maxRecDepth 100000 in
set_option maxHeartbeats 4000000 in
theorem gX8_hadBy_j14 (hfl : l.flags = flags0) (t0 : Int32) (m : pmM) : pm_G l Γ zX8_hadBy (d + 0) 14 [pmU, pmU, pmU, pmU] [.int t0] m (X8_hadBy_j14 t0 m) := by
  unfold X8_hadBy_j14
  exact pm_iret rfl dX8_hadBy_14
set_option maxRecDepth 100000 in
set_option maxHeartbeats 4000000 in
theorem kcX8_hadBy (hfl : l.flags = flags0) (a0 : Int32) (a1 : Int32) (a2 : Int32) (a3 : Int32) (m : pmM) : pm_C l Γ zX8_hadBy (d + 0) [.int a0, .int a1, .int a2, .int a3] m (X8_hadBy a0 a1 a2 a3 m) := by
  refine pm_enter (ls := [.int a0, .int a1, .int a2, .int a3]) hfl (by decide +kernel) rfl (Nat.le_of_ble_eq_true rfl) rfl (Nat.le_of_ble_eq_true rfl) ?_
  unfold X8_hadBy
  refine pm_iload_n dX8_hadBy_0 rfl rfl ?_
  refine pm_if_ne (tgt := 15) dX8_hadBy_1 rfl ?_ ?_
  · refine pm_iload_n dX8_hadBy_15 rfl rfl ?_
    refine pm_if_ne (tgt := 23) dX8_hadBy_16 rfl ?_ ?_
    · refine pm_iload_n dX8_hadBy_23 rfl rfl ?_
      refine pm_drop (ls2 := [pmU, pmU, pmU, pmU]) (Nat.le_refl _) (pm_le_spec (pm_le_u (pm_le_u (pm_le_u (pm_le_u (pm_le_n)))))) ?_
      exact gX8_hadBy_j24 hfl a1 m
    · refine pm_iconst (v := 0) dX8_hadBy_19 ki_0 ?_
      refine pm_goto (tgt := 24) dX8_hadBy_20 rfl ?_
      refine pm_drop (ls2 := [pmU, pmU, pmU, pmU]) (Nat.le_refl _) (pm_le_spec (pm_le_u (pm_le_u (pm_le_u (pm_le_u (pm_le_n)))))) ?_
      exact gX8_hadBy_j24 hfl 0 m
  · refine pm_iload_n dX8_hadBy_4 rfl rfl ?_
    refine pm_if_ne (tgt := 13) dX8_hadBy_5 rfl ?_ ?_
    · refine pm_iload_n dX8_hadBy_13 rfl rfl ?_
      refine pm_drop (ls2 := [pmU, pmU, pmU, pmU]) (Nat.le_refl _) (pm_le_spec (pm_le_u (pm_le_u (pm_le_u (pm_le_u (pm_le_n)))))) ?_
      exact gX8_hadBy_j14 hfl a0 m
    · refine pm_iload_n dX8_hadBy_8 rfl rfl ?_
      refine pm_ineg dX8_hadBy_9 ?_
      refine pm_goto (tgt := 14) dX8_hadBy_10 rfl ?_
      refine pm_drop (ls2 := [pmU, pmU, pmU, pmU]) (Nat.le_refl _) (pm_le_spec (pm_le_u (pm_le_u (pm_le_u (pm_le_u (pm_le_n)))))) ?_
      exact gX8_hadBy_j14 hfl (-a1) m
-- StruckPage.restsThere(IIII)Z
abbrev zX8_restsThere : pmY := (⟨"StruckPage", "restsThere", "(IIII)Z"⟩, cX8_restsThere, 4, some .boolean, [])
def X8_restsThere_j43 (t0 : Int32) (m : pmM) : pmR := pm_oI (vp_nar .boolean t0) m
def X8_restsThere_j42 (m : pmM) : pmR := X8_restsThere_j43 0 m
def X8_restsThere (a0 : Int32) (a1 : Int32) (a2 : Int32) (a3 : Int32) (m : pmM) : pmR := pm_cI (X8_hadBy a0 a1 a2 a3 m) fun x2 m1 => pm_cI (X8_hadBy a0 a1 ((1 : Int32) - a2) a3 m1) fun x4 m3 => if x2 < x4 then (X8_restsThere_j42 m3) else (pm_cI (X8_hadBy a0 a1 a3 a2 m3) fun x6 m5 => pm_cI (X8_hadBy a0 a1 ((1 : Int32) - a3) a2 m5) fun x8 m7 => if x6 < x8 then (X8_restsThere_j42 m7) else (X8_restsThere_j43 1 m7))
theorem zkX8_restsThere : pm_zOk zX8_restsThere 4 := ⟨rfl, tw_1273, tw_158, by decide +kernel, by decide⟩
set_option maxRecDepth 100000 in
set_option maxHeartbeats 4000000 in
theorem gX8_restsThere_j43 (hfl : l.flags = flags0) (t0 : Int32) (m : pmM) : pm_G l Γ zX8_restsThere (d + 1) 43 [pmU, pmU, pmU, pmU] [.int t0] m (X8_restsThere_j43 t0 m) := by
  unfold X8_restsThere_j43
  exact pm_nret (ty := .boolean) (w := vp_nar .boolean t0) rfl (by decide) rfl dX8_restsThere_43
set_option maxRecDepth 100000 in
set_option maxHeartbeats 4000000 in
theorem gX8_restsThere_j42 (hfl : l.flags = flags0) (m : pmM) : pm_G l Γ zX8_restsThere (d + 1) 42 [pmU, pmU, pmU, pmU] [] m (X8_restsThere_j42 m) := by
  unfold X8_restsThere_j42
  refine pm_iconst (v := 0) dX8_restsThere_42 ki_0 ?_
  exact gX8_restsThere_j43 hfl 0 m
set_option maxRecDepth 100000 in
set_option maxHeartbeats 4000000 in
theorem kcX8_restsThere (hfl : l.flags = flags0) (a0 : Int32) (a1 : Int32) (a2 : Int32) (a3 : Int32) (m : pmM) : pm_C l Γ zX8_restsThere (d + 1) [.int a0, .int a1, .int a2, .int a3] m (X8_restsThere a0 a1 a2 a3 m) := by
  refine pm_enter (ls := [.int a0, .int a1, .int a2, .int a3]) hfl (by decide +kernel) rfl (Nat.le_of_ble_eq_true rfl) rfl (Nat.le_of_ble_eq_true rfl) ?_
  unfold X8_restsThere
  refine pm_iload_n dX8_restsThere_0 rfl rfl ?_
  refine pm_iload_n dX8_restsThere_1 rfl rfl ?_
  refine pm_iload_n dX8_restsThere_2 rfl rfl ?_
  refine pm_iload_n dX8_restsThere_3 rfl rfl ?_
  refine pm_kI rfl (pm_S (y := zX8_restsThere) (z := zX8_hadBy) (As := [.int a0, .int a1, .int a2, .int a3]) zkX8_hadBy tw_1274 tw_1275 dX8_restsThere_4 rfl rfl (Nat.le_of_ble_eq_true rfl)) (kcX8_hadBy hfl a0 a1 a2 a3 m) (fun x2 m1 => ?_)
  refine pm_iload_n dX8_restsThere_7 rfl rfl ?_
  refine pm_iload_n dX8_restsThere_8 rfl rfl ?_
  refine pm_iconst (v := 1) dX8_restsThere_9 ki_1 ?_
  refine pm_iload_n dX8_restsThere_10 rfl rfl ?_
  refine pm_isub dX8_restsThere_11 ?_
  refine pm_iload_n dX8_restsThere_12 rfl rfl ?_
  refine pm_kI rfl (pm_S (y := zX8_restsThere) (z := zX8_hadBy) (As := [.int a0, .int a1, .int ((1 : Int32) - a2), .int a3]) zkX8_hadBy tw_1274 tw_1275 dX8_restsThere_13 rfl rfl (Nat.le_of_ble_eq_true rfl)) (kcX8_hadBy hfl a0 a1 ((1 : Int32) - a2) a3 m1) (fun x4 m3 => ?_)
  refine pm_icmp_lt (tgt := 42) dX8_restsThere_16 rfl ?_ ?_
  · refine pm_drop (ls2 := [pmU, pmU, pmU, pmU]) (Nat.le_refl _) (pm_le_spec (pm_le_u (pm_le_u (pm_le_u (pm_le_u (pm_le_n)))))) ?_
    exact gX8_restsThere_j42 hfl m3
  · refine pm_iload_n dX8_restsThere_19 rfl rfl ?_
    refine pm_iload_n dX8_restsThere_20 rfl rfl ?_
    refine pm_iload_n dX8_restsThere_21 rfl rfl ?_
    refine pm_iload_n dX8_restsThere_22 rfl rfl ?_
    refine pm_kI rfl (pm_S (y := zX8_restsThere) (z := zX8_hadBy) (As := [.int a0, .int a1, .int a3, .int a2]) zkX8_hadBy tw_1274 tw_1275 dX8_restsThere_23 rfl rfl (Nat.le_of_ble_eq_true rfl)) (kcX8_hadBy hfl a0 a1 a3 a2 m3) (fun x6 m5 => ?_)
    refine pm_iload_n dX8_restsThere_26 rfl rfl ?_
    refine pm_iload_n dX8_restsThere_27 rfl rfl ?_
    refine pm_iconst (v := 1) dX8_restsThere_28 ki_1 ?_
    refine pm_iload_n dX8_restsThere_29 rfl rfl ?_
    refine pm_isub dX8_restsThere_30 ?_
    refine pm_iload_n dX8_restsThere_31 rfl rfl ?_
    refine pm_kI rfl (pm_S (y := zX8_restsThere) (z := zX8_hadBy) (As := [.int a0, .int a1, .int ((1 : Int32) - a3), .int a2]) zkX8_hadBy tw_1274 tw_1275 dX8_restsThere_32 rfl rfl (Nat.le_of_ble_eq_true rfl)) (kcX8_hadBy hfl a0 a1 ((1 : Int32) - a3) a2 m5) (fun x8 m7 => ?_)
    refine pm_icmp_lt (tgt := 42) dX8_restsThere_35 rfl ?_ ?_
    · refine pm_drop (ls2 := [pmU, pmU, pmU, pmU]) (Nat.le_refl _) (pm_le_spec (pm_le_u (pm_le_u (pm_le_u (pm_le_u (pm_le_n)))))) ?_
      exact gX8_restsThere_j42 hfl m7
    · refine pm_iconst (v := 1) dX8_restsThere_38 ki_1 ?_
      refine pm_goto (tgt := 43) dX8_restsThere_39 rfl ?_
      refine pm_drop (ls2 := [pmU, pmU, pmU, pmU]) (Nat.le_refl _) (pm_le_spec (pm_le_u (pm_le_u (pm_le_u (pm_le_u (pm_le_n)))))) ?_
      exact gX8_restsThere_j43 hfl 1 m7
-- StruckPage.duel(III)I
abbrev zX8_duel : pmY := (⟨"StruckPage", "duel", "(III)I"⟩, cX8_duel, 9, some .int, [])
def X8_duel_j149 (t0 : Int32) (m : pmM) : pmR := pm_oI t0 m
def X8_duel_j116 (again50 : (Int32 × Int32 × Int32 × Int32 × pmM) → pmR) (again59 : (Int32 × Int32 × Int32 × Int32 × pmM) → pmR) (l1 : Int32) (l2 : Int32) (l3 : Int32) (l4 : Int32) (l5 : Int32) (l6 : Int32) (l7 : Int32) (l8 : Int32) (m : pmM) : pmR := pm_bI (l8 + 1) fun x5 => again59 (l4, l5, l6, x5, m)
def X8_duel_j113 (again50 : (Int32 × Int32 × Int32 × Int32 × pmM) → pmR) (again59 : (Int32 × Int32 × Int32 × Int32 × pmM) → pmR) (l1 : Int32) (l2 : Int32) (l3 : Int32) (l4 : Int32) (l5 : Int32) (l6 : Int32) (l7 : Int32) (l8 : Int32) (m : pmM) : pmR := pm_bI (l4 + 1) fun x6 => X8_duel_j116 again50 again59 l1 l2 l3 x6 l5 l6 l7 l8 m
def X8_duel_L59 (again50 : (Int32 × Int32 × Int32 × Int32 × pmM) → pmR) (l1 : Int32) (l2 : Int32) (l3 : Int32) (l7 : Int32) (again59 : (Int32 × Int32 × Int32 × Int32 × pmM) → pmR) (s59 : Int32 × Int32 × Int32 × Int32 × pmM) : pmR := if (1 : Int32) < s59.2.2.2.1 then (pm_bI (l7 + 1) fun x2 => again50 (s59.1, s59.2.1, s59.2.2.1, x2, s59.2.2.2.2)) else (pm_cI (X8_restsThere l1 l2 l7 s59.2.2.2.1 s59.2.2.2.2) fun x4 m3 => if x4 = 0 then (X8_duel_j116 again50 again59 l1 l2 l3 s59.1 s59.2.1 s59.2.2.1 l7 s59.2.2.2.1 m3) else (if s59.1 = 0 then (pm_bI (((10 : Int32) * l7) + s59.2.2.2.1) fun x7 => pm_cI (X8_hadBy l1 l2 l7 s59.2.2.2.1 m3) fun x9 m8 => pm_cI (X8_hadBy l1 l2 s59.2.2.2.1 l7 m8) fun x11 m10 => pm_bI (x9 + x11) fun x12 => X8_duel_j113 again50 again59 l1 l2 l3 s59.1 x7 x12 l7 s59.2.2.2.1 m10) else (X8_duel_j113 again50 again59 l1 l2 l3 s59.1 s59.2.1 s59.2.2.1 l7 s59.2.2.2.1 m3)))
def X8_duel_L50 (l1 : Int32) (l2 : Int32) (l3 : Int32) (again50 : (Int32 × Int32 × Int32 × Int32 × pmM) → pmR) (s50 : Int32 × Int32 × Int32 × Int32 × pmM) : pmR := if (1 : Int32) < s50.2.2.2.1 then (if l3 = 0 then (X8_duel_j149 s50.1 s50.2.2.2.2) else (if l3 = 1 then (X8_duel_j149 s50.2.1 s50.2.2.2.2) else (X8_duel_j149 s50.2.2.1 s50.2.2.2.2))) else (pm_lp pm_N (X8_duel_L59 again50 l1 l2 l3 s50.2.2.2.1) (s50.1, s50.2.1, s50.2.2.1, 0, s50.2.2.2.2))
def X8_duel_j35 (l1 : Int32) (l2 : Int32) (l3 : Int32) (t0 : Int32) (t1 : Nat) (m : pmM) : pmR := pm_rc 8 t1 m <| pm_cV (X8_must t1 t0 m) fun m1 => pm_lp pm_N (X8_duel_L50 l1 l2 l3) (0, (-1), 0, 0, m1)
def X8_duel_j34 (l1 : Int32) (l2 : Int32) (l3 : Int32) (t0 : Nat) (m : pmM) : pmR := X8_duel_j35 l1 l2 l3 0 t0 m
def X8_duel (a0 : Nat) (a1 : Int32) (a2 : Int32) (a3 : Int32) (m : pmM) : pmR := if a1 < 0 then (X8_duel_j34 a1 a2 a3 a0 m) else (if (99 : Int32) < a1 then (X8_duel_j34 a1 a2 a3 a0 m) else (if a2 < 0 then (X8_duel_j34 a1 a2 a3 a0 m) else (if (99 : Int32) < a2 then (X8_duel_j34 a1 a2 a3 a0 m) else (if a3 < 0 then (X8_duel_j34 a1 a2 a3 a0 m) else (if (2 : Int32) < a3 then (X8_duel_j34 a1 a2 a3 a0 m) else (X8_duel_j35 a1 a2 a3 1 a0 m))))))
theorem zkX8_duel : pm_zOk zX8_duel 3 := ⟨rfl, tw_1270, tw_158, by decide +kernel, by decide⟩
set_option maxRecDepth 100000 in
set_option maxHeartbeats 4000000 in
theorem gX8_duel_j149 (hfl : l.flags = flags0) (t0 : Int32) (m : pmM) : pm_G l Γ zX8_duel (d + 2) 149 [pmU, pmU, pmU, pmU, pmU, pmU, pmU, pmU, pmU] [.int t0] m (X8_duel_j149 t0 m) := by
  unfold X8_duel_j149
  exact pm_iret rfl dX8_duel_149
set_option maxRecDepth 100000 in
set_option maxHeartbeats 4000000 in
theorem gX8_duel_j116 (hfl : l.flags = flags0) (again50 : (Int32 × Int32 × Int32 × Int32 × pmM) → pmR) (again59 : (Int32 × Int32 × Int32 × Int32 × pmM) → pmR) (l1 : Int32) (l2 : Int32) (l3 : Int32) (l4 : Int32) (l5 : Int32) (l6 : Int32) (l7 : Int32) (l8 : Int32) (m : pmM) (hag50 : ∀ s : Int32 × Int32 × Int32 × Int32 × pmM, pm_G l Γ zX8_duel (d + 2) 50 [pmU, .int l1, .int l2, .int l3, .int s.1, .int s.2.1, .int s.2.2.1, .int s.2.2.2.1, pmU] [] s.2.2.2.2 (again50 s)) (hag59 : ∀ s : Int32 × Int32 × Int32 × Int32 × pmM, pm_G l Γ zX8_duel (d + 2) 59 [pmU, .int l1, .int l2, .int l3, .int s.1, .int s.2.1, .int s.2.2.1, .int l7, .int s.2.2.2.1] [] s.2.2.2.2 (again59 s)) : pm_G l Γ zX8_duel (d + 2) 116 [pmU, .int l1, .int l2, .int l3, .int l4, .int l5, .int l6, .int l7, .int l8] [] m (X8_duel_j116 again50 again59 l1 l2 l3 l4 l5 l6 l7 l8 m) := by
  unfold X8_duel_j116
  refine pm_iincn (y := zX8_duel) dX8_duel_116 rfl ki_1 rfl (Nat.le_of_ble_eq_true rfl) (fun x5 => ?_)
  refine pm_eqls (ls2 := [pmU, .int l1, .int l2, .int l3, .int l4, .int l5, .int l6, .int l7, .int x5]) rfl ?_
  refine pm_goto (tgt := 59) dX8_duel_119 rfl ?_
  exact hag59 (l4, l5, l6, x5, m)
set_option maxRecDepth 100000 in
set_option maxHeartbeats 4000000 in
theorem gX8_duel_j113 (hfl : l.flags = flags0) (again50 : (Int32 × Int32 × Int32 × Int32 × pmM) → pmR) (again59 : (Int32 × Int32 × Int32 × Int32 × pmM) → pmR) (l1 : Int32) (l2 : Int32) (l3 : Int32) (l4 : Int32) (l5 : Int32) (l6 : Int32) (l7 : Int32) (l8 : Int32) (m : pmM) (hag50 : ∀ s : Int32 × Int32 × Int32 × Int32 × pmM, pm_G l Γ zX8_duel (d + 2) 50 [pmU, .int l1, .int l2, .int l3, .int s.1, .int s.2.1, .int s.2.2.1, .int s.2.2.2.1, pmU] [] s.2.2.2.2 (again50 s)) (hag59 : ∀ s : Int32 × Int32 × Int32 × Int32 × pmM, pm_G l Γ zX8_duel (d + 2) 59 [pmU, .int l1, .int l2, .int l3, .int s.1, .int s.2.1, .int s.2.2.1, .int l7, .int s.2.2.2.1] [] s.2.2.2.2 (again59 s)) : pm_G l Γ zX8_duel (d + 2) 113 [pmU, .int l1, .int l2, .int l3, .int l4, .int l5, .int l6, .int l7, .int l8] [] m (X8_duel_j113 again50 again59 l1 l2 l3 l4 l5 l6 l7 l8 m) := by
  unfold X8_duel_j113
  refine pm_iincn (y := zX8_duel) dX8_duel_113 rfl ki_1 rfl (Nat.le_of_ble_eq_true rfl) (fun x6 => ?_)
  refine pm_eqls (ls2 := [pmU, .int l1, .int l2, .int l3, .int x6, .int l5, .int l6, .int l7, .int l8]) rfl ?_
  exact gX8_duel_j116 hfl again50 again59 l1 l2 l3 x6 l5 l6 l7 l8 m hag50 hag59
set_option maxRecDepth 100000 in
set_option maxHeartbeats 4000000 in
theorem gX8_duel_L59 (hfl : l.flags = flags0) (again50 : (Int32 × Int32 × Int32 × Int32 × pmM) → pmR) (l1 : Int32) (l2 : Int32) (l3 : Int32) (l7 : Int32) (hag50 : ∀ s : Int32 × Int32 × Int32 × Int32 × pmM, pm_G l Γ zX8_duel (d + 2) 50 [pmU, .int l1, .int l2, .int l3, .int s.1, .int s.2.1, .int s.2.2.1, .int s.2.2.2.1, pmU] [] s.2.2.2.2 (again50 s)) : ∀ (n : Nat) (s : Int32 × Int32 × Int32 × Int32 × pmM), pm_G l Γ zX8_duel (d + 2) 59 [pmU, .int l1, .int l2, .int l3, .int s.1, .int s.2.1, .int s.2.2.1, .int l7, .int s.2.2.2.1] [] s.2.2.2.2 (pm_lp n (X8_duel_L59 again50 l1 l2 l3 l7) s) :=
  pm_loop (lsf := fun s : Int32 × Int32 × Int32 × Int32 × pmM => [pmU, .int l1, .int l2, .int l3, .int s.1, .int s.2.1, .int s.2.2.1, .int l7, .int s.2.2.2.1]) (mf := fun s : Int32 × Int32 × Int32 × Int32 × pmM => s.2.2.2.2) (fun again59 hag59 s59 => by
    unfold X8_duel_L59
    refine pm_iload dX8_duel_59 rfl ?_
    refine pm_iconst (v := 1) dX8_duel_61 ki_1 ?_
    refine pm_icmp_gt (tgt := 122) dX8_duel_62 rfl ?_ ?_
    · refine pm_iincn (y := zX8_duel) dX8_duel_122 rfl ki_1 rfl (Nat.le_of_ble_eq_true rfl) (fun x2 => ?_)
      refine pm_eqls (ls2 := [pmU, .int l1, .int l2, .int l3, .int s59.1, .int s59.2.1, .int s59.2.2.1, .int x2, .int s59.2.2.2.1]) rfl ?_
      refine pm_goto (tgt := 50) dX8_duel_125 rfl ?_
      refine pm_drop (ls2 := [pmU, .int l1, .int l2, .int l3, .int s59.1, .int s59.2.1, .int s59.2.2.1, .int x2, pmU]) (Nat.le_refl _) (pm_le_spec (pm_le_u (pm_le_v (pm_le_v (pm_le_v (pm_le_v (pm_le_v (pm_le_v (pm_le_v (pm_le_u (pm_le_n))))))))))) ?_
      exact hag50 (s59.1, s59.2.1, s59.2.2.1, x2, s59.2.2.2.2)
    · refine pm_iload_n dX8_duel_65 rfl rfl ?_
      refine pm_iload_n dX8_duel_66 rfl rfl ?_
      refine pm_iload dX8_duel_67 rfl ?_
      refine pm_iload dX8_duel_69 rfl ?_
      refine pm_kI rfl (pm_S (y := zX8_duel) (z := zX8_restsThere) (As := [.int l1, .int l2, .int l7, .int s59.2.2.2.1]) zkX8_restsThere tw_1271 tw_1272 dX8_duel_71 rfl rfl (Nat.le_of_ble_eq_true rfl)) (kcX8_restsThere hfl l1 l2 l7 s59.2.2.2.1 s59.2.2.2.2) (fun x4 m3 => ?_)
      refine pm_if_eq (tgt := 116) dX8_duel_74 rfl ?_ ?_
      · exact gX8_duel_j116 hfl again50 again59 l1 l2 l3 s59.1 s59.2.1 s59.2.2.1 l7 s59.2.2.2.1 m3 hag50 hag59
      · refine pm_iload dX8_duel_77 rfl ?_
        refine pm_if_ne (tgt := 113) dX8_duel_79 rfl ?_ ?_
        · exact gX8_duel_j113 hfl again50 again59 l1 l2 l3 s59.1 s59.2.1 s59.2.2.1 l7 s59.2.2.2.1 m3 hag50 hag59
        · refine pm_bipush (v := 10) dX8_duel_82 kb_10 ?_
          refine pm_iload dX8_duel_84 rfl ?_
          refine pm_imul dX8_duel_86 ?_
          refine pm_iload dX8_duel_87 rfl ?_
          refine pm_iadd dX8_duel_89 ?_
          refine pm_bIn (fun x7 => ?_)
          refine pm_istore (ls2 := [pmU, .int l1, .int l2, .int l3, .int s59.1, .int x7, .int s59.2.2.1, .int l7, .int s59.2.2.2.1]) dX8_duel_90 rfl (Nat.le_of_ble_eq_true rfl) rfl ?_
          refine pm_iload_n dX8_duel_92 rfl rfl ?_
          refine pm_iload_n dX8_duel_93 rfl rfl ?_
          refine pm_iload dX8_duel_94 rfl ?_
          refine pm_iload dX8_duel_96 rfl ?_
          refine pm_kI rfl (pm_S (y := zX8_duel) (z := zX8_hadBy) (As := [.int l1, .int l2, .int l7, .int s59.2.2.2.1]) zkX8_hadBy tw_1274 tw_1275 dX8_duel_98 rfl rfl (Nat.le_of_ble_eq_true rfl)) (kcX8_hadBy hfl l1 l2 l7 s59.2.2.2.1 m3) (fun x9 m8 => ?_)
          refine pm_iload_n dX8_duel_101 rfl rfl ?_
          refine pm_iload_n dX8_duel_102 rfl rfl ?_
          refine pm_iload dX8_duel_103 rfl ?_
          refine pm_iload dX8_duel_105 rfl ?_
          refine pm_kI rfl (pm_S (y := zX8_duel) (z := zX8_hadBy) (As := [.int l1, .int l2, .int s59.2.2.2.1, .int l7]) zkX8_hadBy tw_1274 tw_1275 dX8_duel_107 rfl rfl (Nat.le_of_ble_eq_true rfl)) (kcX8_hadBy hfl l1 l2 s59.2.2.2.1 l7 m8) (fun x11 m10 => ?_)
          refine pm_iadd dX8_duel_110 ?_
          refine pm_bIn (fun x12 => ?_)
          refine pm_istore (ls2 := [pmU, .int l1, .int l2, .int l3, .int s59.1, .int x7, .int x12, .int l7, .int s59.2.2.2.1]) dX8_duel_111 rfl (Nat.le_of_ble_eq_true rfl) rfl ?_
          exact gX8_duel_j113 hfl again50 again59 l1 l2 l3 s59.1 x7 x12 l7 s59.2.2.2.1 m10 hag50 hag59)
set_option maxRecDepth 100000 in
set_option maxHeartbeats 4000000 in
theorem gX8_duel_L50 (hfl : l.flags = flags0) (l1 : Int32) (l2 : Int32) (l3 : Int32) : ∀ (n : Nat) (s : Int32 × Int32 × Int32 × Int32 × pmM), pm_G l Γ zX8_duel (d + 2) 50 [pmU, .int l1, .int l2, .int l3, .int s.1, .int s.2.1, .int s.2.2.1, .int s.2.2.2.1, pmU] [] s.2.2.2.2 (pm_lp n (X8_duel_L50 l1 l2 l3) s) :=
  pm_loop (lsf := fun s : Int32 × Int32 × Int32 × Int32 × pmM => [pmU, .int l1, .int l2, .int l3, .int s.1, .int s.2.1, .int s.2.2.1, .int s.2.2.2.1, pmU]) (mf := fun s : Int32 × Int32 × Int32 × Int32 × pmM => s.2.2.2.2) (fun again50 hag50 s50 => by
    unfold X8_duel_L50
    refine pm_iload dX8_duel_50 rfl ?_
    refine pm_iconst (v := 1) dX8_duel_52 ki_1 ?_
    refine pm_icmp_gt (tgt := 128) dX8_duel_53 rfl ?_ ?_
    · refine pm_iload_n dX8_duel_128 rfl rfl ?_
      refine pm_if_ne (tgt := 137) dX8_duel_129 rfl ?_ ?_
      · refine pm_iload_n dX8_duel_137 rfl rfl ?_
        refine pm_iconst (v := 1) dX8_duel_138 ki_1 ?_
        refine pm_icmp_ne (tgt := 147) dX8_duel_139 rfl ?_ ?_
        · refine pm_iload dX8_duel_147 rfl ?_
          refine pm_drop (ls2 := [pmU, pmU, pmU, pmU, pmU, pmU, pmU, pmU, pmU]) (Nat.le_refl _) (pm_le_spec (pm_le_u (pm_le_u (pm_le_u (pm_le_u (pm_le_u (pm_le_u (pm_le_u (pm_le_u (pm_le_u (pm_le_n))))))))))) ?_
          exact gX8_duel_j149 hfl s50.2.2.1 s50.2.2.2.2
        · refine pm_iload dX8_duel_142 rfl ?_
          refine pm_goto (tgt := 149) dX8_duel_144 rfl ?_
          refine pm_drop (ls2 := [pmU, pmU, pmU, pmU, pmU, pmU, pmU, pmU, pmU]) (Nat.le_refl _) (pm_le_spec (pm_le_u (pm_le_u (pm_le_u (pm_le_u (pm_le_u (pm_le_u (pm_le_u (pm_le_u (pm_le_u (pm_le_n))))))))))) ?_
          exact gX8_duel_j149 hfl s50.2.1 s50.2.2.2.2
      · refine pm_iload dX8_duel_132 rfl ?_
        refine pm_goto (tgt := 149) dX8_duel_134 rfl ?_
        refine pm_drop (ls2 := [pmU, pmU, pmU, pmU, pmU, pmU, pmU, pmU, pmU]) (Nat.le_refl _) (pm_le_spec (pm_le_u (pm_le_u (pm_le_u (pm_le_u (pm_le_u (pm_le_u (pm_le_u (pm_le_u (pm_le_u (pm_le_n))))))))))) ?_
        exact gX8_duel_j149 hfl s50.1 s50.2.2.2.2
    · refine pm_iconst (v := 0) dX8_duel_56 ki_0 ?_
      refine pm_istore (ls2 := [pmU, .int l1, .int l2, .int l3, .int s50.1, .int s50.2.1, .int s50.2.2.1, .int s50.2.2.2.1, .int 0]) dX8_duel_57 rfl (Nat.le_of_ble_eq_true rfl) rfl ?_
      exact gX8_duel_L59 hfl again50 l1 l2 l3 s50.2.2.2.1 hag50 pm_N (s50.1, s50.2.1, s50.2.2.1, 0, s50.2.2.2.2))
set_option maxRecDepth 100000 in
set_option maxHeartbeats 4000000 in
theorem gX8_duel_j35 (hfl : l.flags = flags0) (l1 : Int32) (l2 : Int32) (l3 : Int32) (t0 : Int32) (t1 : Nat) (m : pmM) : pm_G l Γ zX8_duel (d + 2) 35 [pmU, .int l1, .int l2, .int l3, pmU, pmU, pmU, pmU, pmU] [.int t0, .ref t1] m (X8_duel_j35 l1 l2 l3 t0 t1 m) := by
  unfold X8_duel_j35
  refine pm_rcv (fun hb9 hc9 => ?_)
  refine pm_kV rfl (pm_V (y := zX8_duel) (z := zX8_must) (As := [.int t0]) zkX8_must pm_q8 (by decide) tw_687 tw_689 tw_30 dX8_duel_35 rfl rfl (Nat.le_of_ble_eq_true rfl) hb9 hc9) (kcX8_must hfl t1 t0 m) (fun m1 => ?_)
  refine pm_iconst (v := 0) dX8_duel_38 ki_0 ?_
  refine pm_istore (ls2 := [pmU, .int l1, .int l2, .int l3, .int 0, pmU, pmU, pmU, pmU]) dX8_duel_39 rfl (Nat.le_of_ble_eq_true rfl) rfl ?_
  refine pm_iconst (v := (-1)) dX8_duel_41 ki_n1 ?_
  refine pm_istore (ls2 := [pmU, .int l1, .int l2, .int l3, .int 0, .int (-1), pmU, pmU, pmU]) dX8_duel_42 rfl (Nat.le_of_ble_eq_true rfl) rfl ?_
  refine pm_iconst (v := 0) dX8_duel_44 ki_0 ?_
  refine pm_istore (ls2 := [pmU, .int l1, .int l2, .int l3, .int 0, .int (-1), .int 0, pmU, pmU]) dX8_duel_45 rfl (Nat.le_of_ble_eq_true rfl) rfl ?_
  refine pm_iconst (v := 0) dX8_duel_47 ki_0 ?_
  refine pm_istore (ls2 := [pmU, .int l1, .int l2, .int l3, .int 0, .int (-1), .int 0, .int 0, pmU]) dX8_duel_48 rfl (Nat.le_of_ble_eq_true rfl) rfl ?_
  exact gX8_duel_L50 hfl l1 l2 l3 pm_N (0, (-1), 0, 0, m1)
set_option maxRecDepth 100000 in
set_option maxHeartbeats 4000000 in
theorem gX8_duel_j34 (hfl : l.flags = flags0) (l1 : Int32) (l2 : Int32) (l3 : Int32) (t0 : Nat) (m : pmM) : pm_G l Γ zX8_duel (d + 2) 34 [pmU, .int l1, .int l2, .int l3, pmU, pmU, pmU, pmU, pmU] [.ref t0] m (X8_duel_j34 l1 l2 l3 t0 m) := by
  unfold X8_duel_j34
  refine pm_iconst (v := 0) dX8_duel_34 ki_0 ?_
  exact gX8_duel_j35 hfl l1 l2 l3 0 t0 m
set_option maxRecDepth 100000 in
set_option maxHeartbeats 4000000 in
theorem kcX8_duel (hfl : l.flags = flags0) (a0 : Nat) (a1 : Int32) (a2 : Int32) (a3 : Int32) (m : pmM) : pm_C l Γ zX8_duel (d + 2) [.ref a0, .int a1, .int a2, .int a3] m (X8_duel a0 a1 a2 a3 m) := by
  refine pm_enter (ls := [.ref a0, .int a1, .int a2, .int a3, pmU, pmU, pmU, pmU, pmU]) hfl (by decide +kernel) rfl (Nat.le_of_ble_eq_true rfl) rfl (Nat.le_of_ble_eq_true rfl) ?_
  unfold X8_duel
  refine pm_aload_n dX8_duel_0 rfl rfl ?_
  refine pm_iload_n dX8_duel_1 rfl rfl ?_
  refine pm_if_lt (tgt := 34) dX8_duel_2 rfl ?_ ?_
  · refine pm_drop (ls2 := [pmU, .int a1, .int a2, .int a3, pmU, pmU, pmU, pmU, pmU]) (Nat.le_refl _) (pm_le_spec (pm_le_u (pm_le_v (pm_le_v (pm_le_v (pm_le_u (pm_le_u (pm_le_u (pm_le_u (pm_le_u (pm_le_n))))))))))) ?_
    exact gX8_duel_j34 hfl a1 a2 a3 a0 m
  · refine pm_iload_n dX8_duel_5 rfl rfl ?_
    refine pm_bipush (v := 99) dX8_duel_6 kb_99 ?_
    refine pm_icmp_gt (tgt := 34) dX8_duel_8 rfl ?_ ?_
    · refine pm_drop (ls2 := [pmU, .int a1, .int a2, .int a3, pmU, pmU, pmU, pmU, pmU]) (Nat.le_refl _) (pm_le_spec (pm_le_u (pm_le_v (pm_le_v (pm_le_v (pm_le_u (pm_le_u (pm_le_u (pm_le_u (pm_le_u (pm_le_n))))))))))) ?_
      exact gX8_duel_j34 hfl a1 a2 a3 a0 m
    · refine pm_iload_n dX8_duel_11 rfl rfl ?_
      refine pm_if_lt (tgt := 34) dX8_duel_12 rfl ?_ ?_
      · refine pm_drop (ls2 := [pmU, .int a1, .int a2, .int a3, pmU, pmU, pmU, pmU, pmU]) (Nat.le_refl _) (pm_le_spec (pm_le_u (pm_le_v (pm_le_v (pm_le_v (pm_le_u (pm_le_u (pm_le_u (pm_le_u (pm_le_u (pm_le_n))))))))))) ?_
        exact gX8_duel_j34 hfl a1 a2 a3 a0 m
      · refine pm_iload_n dX8_duel_15 rfl rfl ?_
        refine pm_bipush (v := 99) dX8_duel_16 kb_99 ?_
        refine pm_icmp_gt (tgt := 34) dX8_duel_18 rfl ?_ ?_
        · refine pm_drop (ls2 := [pmU, .int a1, .int a2, .int a3, pmU, pmU, pmU, pmU, pmU]) (Nat.le_refl _) (pm_le_spec (pm_le_u (pm_le_v (pm_le_v (pm_le_v (pm_le_u (pm_le_u (pm_le_u (pm_le_u (pm_le_u (pm_le_n))))))))))) ?_
          exact gX8_duel_j34 hfl a1 a2 a3 a0 m
        · refine pm_iload_n dX8_duel_21 rfl rfl ?_
          refine pm_if_lt (tgt := 34) dX8_duel_22 rfl ?_ ?_
          · refine pm_drop (ls2 := [pmU, .int a1, .int a2, .int a3, pmU, pmU, pmU, pmU, pmU]) (Nat.le_refl _) (pm_le_spec (pm_le_u (pm_le_v (pm_le_v (pm_le_v (pm_le_u (pm_le_u (pm_le_u (pm_le_u (pm_le_u (pm_le_n))))))))))) ?_
            exact gX8_duel_j34 hfl a1 a2 a3 a0 m
          · refine pm_iload_n dX8_duel_25 rfl rfl ?_
            refine pm_iconst (v := 2) dX8_duel_26 ki_2 ?_
            refine pm_icmp_gt (tgt := 34) dX8_duel_27 rfl ?_ ?_
            · refine pm_drop (ls2 := [pmU, .int a1, .int a2, .int a3, pmU, pmU, pmU, pmU, pmU]) (Nat.le_refl _) (pm_le_spec (pm_le_u (pm_le_v (pm_le_v (pm_le_v (pm_le_u (pm_le_u (pm_le_u (pm_le_u (pm_le_u (pm_le_n))))))))))) ?_
              exact gX8_duel_j34 hfl a1 a2 a3 a0 m
            · refine pm_iconst (v := 1) dX8_duel_30 ki_1 ?_
              refine pm_goto (tgt := 35) dX8_duel_31 rfl ?_
              refine pm_drop (ls2 := [pmU, .int a1, .int a2, .int a3, pmU, pmU, pmU, pmU, pmU]) (Nat.le_refl _) (pm_le_spec (pm_le_u (pm_le_v (pm_le_v (pm_le_v (pm_le_u (pm_le_u (pm_le_u (pm_le_u (pm_le_u (pm_le_n))))))))))) ?_
              exact gX8_duel_j35 hfl a1 a2 a3 1 a0 m
-- StruckPage.power(II)J
abbrev zX8_power : pmY := (⟨"StruckPage", "power", "(II)J"⟩, cX8_power, 5, some .long, [])
def X8_power_L5 (l0 : Int32) (l1 : Int32) (again5 : (Int64 × Int32 × pmM) → pmR) (s5 : Int64 × Int32 × pmM) : pmR := if l1 ≤ s5.2.1 then (pm_oL s5.1 s5.2.2) else (pm_bL (s5.1 * l0.toInt64) fun x1 => pm_bI (s5.2.1 + 1) fun x2 => again5 (x1, x2, s5.2.2))
def X8_power (a0 : Int32) (a1 : Int32) (m : pmM) : pmR := pm_lp pm_N (X8_power_L5 a0 a1) (1, 0, m)
theorem zkX8_power : pm_zOk zX8_power 2 := ⟨rfl, tw_1286, tw_158, by decide +kernel, by decide⟩
set_option maxRecDepth 100000 in
set_option maxHeartbeats 4000000 in
theorem gX8_power_L5 (hfl : l.flags = flags0) (l0 : Int32) (l1 : Int32) : ∀ (n : Nat) (s : Int64 × Int32 × pmM), pm_G l Γ zX8_power (d + 0) 5 [.int l0, .int l1, .long s.1, pmU, .int s.2.1] [] s.2.2 (pm_lp n (X8_power_L5 l0 l1) s) :=
  pm_loop (lsf := fun s : Int64 × Int32 × pmM => [.int l0, .int l1, .long s.1, pmU, .int s.2.1]) (mf := fun s : Int64 × Int32 × pmM => s.2.2) (fun again5 hag5 s5 => by
    unfold X8_power_L5
    refine pm_iload dX8_power_5 rfl ?_
    refine pm_iload_n dX8_power_7 rfl rfl ?_
    refine pm_icmp_ge (tgt := 22) dX8_power_8 rfl ?_ ?_
    · refine pm_lload_n dX8_power_22 rfl rfl ?_
      exact pm_lret rfl dX8_power_23
    · refine pm_lload_n dX8_power_11 rfl rfl ?_
      refine pm_iload_n dX8_power_12 rfl rfl ?_
      refine pm_i2l dX8_power_13 ?_
      refine pm_lmul dX8_power_14 ?_
      refine pm_bLn (fun x1 => ?_)
      refine pm_lstore_n (ls2 := [.int l0, .int l1, .long x1, pmU, .int s5.2.1]) dX8_power_15 rfl rfl (Nat.le_of_ble_eq_true rfl) rfl ?_
      refine pm_iincn (y := zX8_power) dX8_power_16 rfl ki_1 rfl (Nat.le_of_ble_eq_true rfl) (fun x2 => ?_)
      refine pm_eqls (ls2 := [.int l0, .int l1, .long x1, pmU, .int x2]) rfl ?_
      refine pm_goto (tgt := 5) dX8_power_19 rfl ?_
      exact hag5 (x1, x2, s5.2.2))
set_option maxRecDepth 100000 in
set_option maxHeartbeats 4000000 in
theorem kcX8_power (hfl : l.flags = flags0) (a0 : Int32) (a1 : Int32) (m : pmM) : pm_C l Γ zX8_power (d + 0) [.int a0, .int a1] m (X8_power a0 a1 m) := by
  refine pm_enter (ls := [.int a0, .int a1, pmU, pmU, pmU]) hfl (by decide +kernel) rfl (Nat.le_of_ble_eq_true rfl) rfl (Nat.le_of_ble_eq_true rfl) ?_
  unfold X8_power
  refine pm_lconst (v := 1) dX8_power_0 kl_1 ?_
  refine pm_lstore_n (ls2 := [.int a0, .int a1, .long 1, pmU, pmU]) dX8_power_1 rfl rfl (Nat.le_of_ble_eq_true rfl) rfl ?_
  refine pm_iconst (v := 0) dX8_power_2 ki_0 ?_
  refine pm_istore (ls2 := [.int a0, .int a1, .long 1, pmU, .int 0]) dX8_power_3 rfl (Nat.le_of_ble_eq_true rfl) rfl ?_
  exact gX8_power_L5 hfl a0 a1 pm_N (1, 0, m)
-- StruckPage.chance(IIII)J
abbrev zX8_chance : pmY := (⟨"StruckPage", "chance", "(IIII)J"⟩, cX8_chance, 11, some .long, [])
def X8_chance_j185 (t0 : Int64) (m : pmM) : pmR := pm_oL t0 m
def X8_chance_j173 (l4 : Int32) (l5 : Int64) (l9 : Int64) (m : pmM) : pmR := if l4 = 0 then (X8_chance_j185 l5 m) else (X8_chance_j185 l9 m)
def X8_chance_L136 (l4 : Int32) (again136 : (Int64 × Int64 × pmM) → pmR) (s136 : Int64 × Int64 × pmM) : pmR := if (lg_cmp s136.2.1 1) ≤ 0 then (X8_chance_j173 l4 s136.1 s136.2.1 s136.2.2) else (if (2 : Int64) = 0 then none else if (lg_cmp (s136.1 - s136.1 / 2 * 2) 0) = 0 then (if (2 : Int64) = 0 then none else pm_bL (s136.1 / 2) fun x5 => if (2 : Int64) = 0 then none else pm_bL (s136.2.1 / 2) fun x6 => again136 (x5, x6, s136.2.2)) else (X8_chance_j173 l4 s136.1 s136.2.1 s136.2.2))
def X8_chance_j106 (again68 : (Int64 × Int64 × Int32 × pmM) → pmR) (l1 : Int32) (l2 : Int32) (l3 : Int32) (l4 : Int32) (l5 : Int64) (l7 : Int64) (l9 : Int32) (m : pmM) : pmR := if ((l9 + 1).toInt64) = 0 then none else pm_bL ((l7 * ((l1 - l9).toInt64)) / ((l9 + 1).toInt64)) fun x7 => pm_bI (l9 + 1) fun x8 => again68 (l5, x7, x8, m)
def X8_chance_L68 (l1 : Int32) (l2 : Int32) (l3 : Int32) (l4 : Int32) (again68 : (Int64 × Int64 × Int32 × pmM) → pmR) (s68 : Int64 × Int64 × Int32 × pmM) : pmR := if l1 < s68.2.2.1 then (pm_cL (X8_power 16 l1 s68.2.2.2) fun x4 m3 => pm_lp pm_N (X8_chance_L136 l4) (s68.1, x4, m3)) else (if s68.2.2.1 < l2 then (X8_chance_j106 again68 l1 l2 l3 l4 s68.1 s68.2.1 s68.2.2.1 s68.2.2.2) else (pm_cL (X8_power ((16 : Int32) - l3) s68.2.2.1 s68.2.2.2) fun x10 m9 => pm_cL (X8_power l3 (l1 - s68.2.2.1) m9) fun x12 m11 => pm_bL (s68.1 + ((s68.2.1 * x10) * x12)) fun x13 => X8_chance_j106 again68 l1 l2 l3 l4 x13 s68.2.1 s68.2.2.1 m11))
def X8_chance_j56 (l1 : Int32) (l2 : Int32) (l3 : Int32) (l4 : Int32) (t0 : Int32) (t1 : Nat) (m : pmM) : pmR := pm_rc 8 t1 m <| pm_cV (X8_must t1 t0 m) fun m2 => pm_lp pm_N (X8_chance_L68 l1 l2 l3 l4) (0, 1, 0, m2)
def X8_chance_j51 (l1 : Int32) (l2 : Int32) (l3 : Int32) (l4 : Int32) (t0 : Nat) (m : pmM) : pmR := X8_chance_j56 l1 l2 l3 l4 1 t0 m
def X8_chance_j36 (l0 : Nat) (l1 : Int32) (l2 : Int32) (l3 : Int32) (l4 : Int32) (t0 : Int32) (t1 : Nat) (m : pmM) : pmR := pm_rc 8 t1 m <| pm_cV (X8_must t1 t0 m) fun m1 => if l4 = 0 then (X8_chance_j51 l1 l2 l3 l4 l0 m1) else (if l4 = 1 then (X8_chance_j51 l1 l2 l3 l4 l0 m1) else (X8_chance_j56 l1 l2 l3 l4 0 l0 m1))
def X8_chance_j35 (l0 : Nat) (l1 : Int32) (l2 : Int32) (l3 : Int32) (l4 : Int32) (t0 : Nat) (m : pmM) : pmR := X8_chance_j36 l0 l1 l2 l3 l4 0 t0 m
def X8_chance (a0 : Nat) (a1 : Int32) (a2 : Int32) (a3 : Int32) (a4 : Int32) (m : pmM) : pmR := if a1 < 0 then (X8_chance_j35 a0 a1 a2 a3 a4 a0 m) else (if (12 : Int32) < a1 then (X8_chance_j35 a0 a1 a2 a3 a4 a0 m) else (if a2 < 0 then (X8_chance_j35 a0 a1 a2 a3 a4 a0 m) else (if (13 : Int32) < a2 then (X8_chance_j35 a0 a1 a2 a3 a4 a0 m) else (if a3 < 0 then (X8_chance_j35 a0 a1 a2 a3 a4 a0 m) else (if (16 : Int32) < a3 then (X8_chance_j35 a0 a1 a2 a3 a4 a0 m) else (X8_chance_j36 a0 a1 a2 a3 a4 1 a0 m))))))
theorem zkX8_chance : pm_zOk zX8_chance 4 := ⟨rfl, tw_1283, tw_158, by decide +kernel, by decide⟩
set_option maxRecDepth 100000 in
set_option maxHeartbeats 4000000 in
theorem gX8_chance_j185 (hfl : l.flags = flags0) (t0 : Int64) (m : pmM) : pm_G l Γ zX8_chance (d + 1) 185 [pmU, pmU, pmU, pmU, pmU, pmU, pmU, pmU, pmU, pmU, pmU] [.long t0] m (X8_chance_j185 t0 m) := by
  unfold X8_chance_j185
  exact pm_lret rfl dX8_chance_185
set_option maxRecDepth 100000 in
set_option maxHeartbeats 4000000 in
theorem gX8_chance_j173 (hfl : l.flags = flags0) (l4 : Int32) (l5 : Int64) (l9 : Int64) (m : pmM) : pm_G l Γ zX8_chance (d + 1) 173 [pmU, pmU, pmU, pmU, .int l4, .long l5, pmU, pmU, pmU, .long l9, pmU] [] m (X8_chance_j173 l4 l5 l9 m) := by
  unfold X8_chance_j173
  refine pm_iload dX8_chance_173 rfl ?_
  refine pm_if_ne (tgt := 183) dX8_chance_175 rfl ?_ ?_
  · refine pm_lload dX8_chance_183 rfl ?_
    refine pm_drop (ls2 := [pmU, pmU, pmU, pmU, pmU, pmU, pmU, pmU, pmU, pmU, pmU]) (Nat.le_refl _) (pm_le_spec (pm_le_u (pm_le_u (pm_le_u (pm_le_u (pm_le_u (pm_le_u (pm_le_u (pm_le_u (pm_le_u (pm_le_u (pm_le_u (pm_le_n))))))))))))) ?_
    exact gX8_chance_j185 hfl l9 m
  · refine pm_lload dX8_chance_178 rfl ?_
    refine pm_goto (tgt := 185) dX8_chance_180 rfl ?_
    refine pm_drop (ls2 := [pmU, pmU, pmU, pmU, pmU, pmU, pmU, pmU, pmU, pmU, pmU]) (Nat.le_refl _) (pm_le_spec (pm_le_u (pm_le_u (pm_le_u (pm_le_u (pm_le_u (pm_le_u (pm_le_u (pm_le_u (pm_le_u (pm_le_u (pm_le_u (pm_le_n))))))))))))) ?_
    exact gX8_chance_j185 hfl l5 m
set_option maxRecDepth 100000 in
set_option maxHeartbeats 4000000 in
theorem gX8_chance_L136 (hfl : l.flags = flags0) (l4 : Int32) : ∀ (n : Nat) (s : Int64 × Int64 × pmM), pm_G l Γ zX8_chance (d + 1) 136 [pmU, pmU, pmU, pmU, .int l4, .long s.1, pmU, pmU, pmU, .long s.2.1, pmU] [] s.2.2 (pm_lp n (X8_chance_L136 l4) s) :=
  pm_loop (lsf := fun s : Int64 × Int64 × pmM => [pmU, pmU, pmU, pmU, .int l4, .long s.1, pmU, pmU, pmU, .long s.2.1, pmU]) (mf := fun s : Int64 × Int64 × pmM => s.2.2) (fun again136 hag136 s136 => by
    unfold X8_chance_L136
    refine pm_lload dX8_chance_136 rfl ?_
    refine pm_lconst (v := 1) dX8_chance_138 kl_1 ?_
    refine pm_lcmp dX8_chance_139 ?_
    refine pm_if_le (tgt := 173) dX8_chance_140 rfl ?_ ?_
    · exact gX8_chance_j173 hfl l4 s136.1 s136.2.1 s136.2.2
    · refine pm_lload dX8_chance_143 rfl ?_
      refine pm_ldc2 (y := zX8_chance) dX8_chance_145 tw_1287 ?_
      refine pm_lrem dX8_chance_148 ?_
      refine pm_lconst (v := 0) dX8_chance_149 kl_0 ?_
      refine pm_lcmp dX8_chance_150 ?_
      refine pm_if_ne (tgt := 173) dX8_chance_151 rfl ?_ ?_
      · exact gX8_chance_j173 hfl l4 s136.1 s136.2.1 s136.2.2
      · refine pm_lload dX8_chance_154 rfl ?_
        refine pm_ldc2 (y := zX8_chance) dX8_chance_156 tw_1287 ?_
        refine pm_ldiv dX8_chance_159 ?_
        refine pm_bLn (fun x5 => ?_)
        refine pm_lstore (ls2 := [pmU, pmU, pmU, pmU, .int l4, .long x5, pmU, pmU, pmU, .long s136.2.1, pmU]) dX8_chance_160 rfl (Nat.le_of_ble_eq_true rfl) rfl ?_
        refine pm_lload dX8_chance_162 rfl ?_
        refine pm_ldc2 (y := zX8_chance) dX8_chance_164 tw_1287 ?_
        refine pm_ldiv dX8_chance_167 ?_
        refine pm_bLn (fun x6 => ?_)
        refine pm_lstore (ls2 := [pmU, pmU, pmU, pmU, .int l4, .long x5, pmU, pmU, pmU, .long x6, pmU]) dX8_chance_168 rfl (Nat.le_of_ble_eq_true rfl) rfl ?_
        refine pm_goto (tgt := 136) dX8_chance_170 rfl ?_
        exact hag136 (x5, x6, s136.2.2))
set_option maxRecDepth 100000 in
set_option maxHeartbeats 4000000 in
theorem gX8_chance_j106 (hfl : l.flags = flags0) (again68 : (Int64 × Int64 × Int32 × pmM) → pmR) (l1 : Int32) (l2 : Int32) (l3 : Int32) (l4 : Int32) (l5 : Int64) (l7 : Int64) (l9 : Int32) (m : pmM) (hag68 : ∀ s : Int64 × Int64 × Int32 × pmM, pm_G l Γ zX8_chance (d + 1) 68 [pmU, .int l1, .int l2, .int l3, .int l4, .long s.1, pmU, .long s.2.1, pmU, .int s.2.2.1, pmU] [] s.2.2.2 (again68 s)) : pm_G l Γ zX8_chance (d + 1) 106 [pmU, .int l1, .int l2, .int l3, .int l4, .long l5, pmU, .long l7, pmU, .int l9, pmU] [] m (X8_chance_j106 again68 l1 l2 l3 l4 l5 l7 l9 m) := by
  unfold X8_chance_j106
  refine pm_lload dX8_chance_106 rfl ?_
  refine pm_iload_n dX8_chance_108 rfl rfl ?_
  refine pm_iload dX8_chance_109 rfl ?_
  refine pm_isub dX8_chance_111 ?_
  refine pm_i2l dX8_chance_112 ?_
  refine pm_lmul dX8_chance_113 ?_
  refine pm_iload dX8_chance_114 rfl ?_
  refine pm_iconst (v := 1) dX8_chance_116 ki_1 ?_
  refine pm_iadd dX8_chance_117 ?_
  refine pm_i2l dX8_chance_118 ?_
  refine pm_ldiv dX8_chance_119 ?_
  refine pm_bLn (fun x7 => ?_)
  refine pm_lstore (ls2 := [pmU, .int l1, .int l2, .int l3, .int l4, .long l5, pmU, .long x7, pmU, .int l9, pmU]) dX8_chance_120 rfl (Nat.le_of_ble_eq_true rfl) rfl ?_
  refine pm_iincn (y := zX8_chance) dX8_chance_122 rfl ki_1 rfl (Nat.le_of_ble_eq_true rfl) (fun x8 => ?_)
  refine pm_eqls (ls2 := [pmU, .int l1, .int l2, .int l3, .int l4, .long l5, pmU, .long x7, pmU, .int x8, pmU]) rfl ?_
  refine pm_goto (tgt := 68) dX8_chance_125 rfl ?_
  exact hag68 (l5, x7, x8, m)
set_option maxRecDepth 100000 in
set_option maxHeartbeats 4000000 in
theorem gX8_chance_L68 (hfl : l.flags = flags0) (l1 : Int32) (l2 : Int32) (l3 : Int32) (l4 : Int32) : ∀ (n : Nat) (s : Int64 × Int64 × Int32 × pmM), pm_G l Γ zX8_chance (d + 1) 68 [pmU, .int l1, .int l2, .int l3, .int l4, .long s.1, pmU, .long s.2.1, pmU, .int s.2.2.1, pmU] [] s.2.2.2 (pm_lp n (X8_chance_L68 l1 l2 l3 l4) s) :=
  pm_loop (lsf := fun s : Int64 × Int64 × Int32 × pmM => [pmU, .int l1, .int l2, .int l3, .int l4, .long s.1, pmU, .long s.2.1, pmU, .int s.2.2.1, pmU]) (mf := fun s : Int64 × Int64 × Int32 × pmM => s.2.2.2) (fun again68 hag68 s68 => by
    unfold X8_chance_L68
    refine pm_iload dX8_chance_68 rfl ?_
    refine pm_iload_n dX8_chance_70 rfl rfl ?_
    refine pm_icmp_gt (tgt := 128) dX8_chance_71 rfl ?_ ?_
    · refine pm_bipush (v := 16) dX8_chance_128 kb_16 ?_
      refine pm_iload_n dX8_chance_130 rfl rfl ?_
      refine pm_kL rfl (pm_S (y := zX8_chance) (z := zX8_power) (As := [.int 16, .int l1]) zkX8_power tw_1284 tw_1285 dX8_chance_131 rfl rfl (Nat.le_of_ble_eq_true rfl)) (kcX8_power hfl 16 l1 s68.2.2.2) (fun x4 m3 => ?_)
      refine pm_lstore (ls2 := [pmU, .int l1, .int l2, .int l3, .int l4, .long s68.1, pmU, .long s68.2.1, pmU, .long x4, pmU]) dX8_chance_134 rfl (Nat.le_of_ble_eq_true rfl) rfl ?_
      refine pm_drop (ls2 := [pmU, pmU, pmU, pmU, .int l4, .long s68.1, pmU, pmU, pmU, .long x4, pmU]) (Nat.le_refl _) (pm_le_spec (pm_le_u (pm_le_u (pm_le_u (pm_le_u (pm_le_v (pm_le_v (pm_le_u (pm_le_u (pm_le_u (pm_le_v (pm_le_u (pm_le_n))))))))))))) ?_
      exact gX8_chance_L136 hfl l4 pm_N (s68.1, x4, m3)
    · refine pm_iload dX8_chance_74 rfl ?_
      refine pm_iload_n dX8_chance_76 rfl rfl ?_
      refine pm_icmp_lt (tgt := 106) dX8_chance_77 rfl ?_ ?_
      · exact gX8_chance_j106 hfl again68 l1 l2 l3 l4 s68.1 s68.2.1 s68.2.2.1 s68.2.2.2 hag68
      · refine pm_lload dX8_chance_80 rfl ?_
        refine pm_lload dX8_chance_82 rfl ?_
        refine pm_bipush (v := 16) dX8_chance_84 kb_16 ?_
        refine pm_iload_n dX8_chance_86 rfl rfl ?_
        refine pm_isub dX8_chance_87 ?_
        refine pm_iload dX8_chance_88 rfl ?_
        refine pm_kL rfl (pm_S (y := zX8_chance) (z := zX8_power) (As := [.int ((16 : Int32) - l3), .int s68.2.2.1]) zkX8_power tw_1284 tw_1285 dX8_chance_90 rfl rfl (Nat.le_of_ble_eq_true rfl)) (kcX8_power hfl ((16 : Int32) - l3) s68.2.2.1 s68.2.2.2) (fun x10 m9 => ?_)
        refine pm_lmul dX8_chance_93 ?_
        refine pm_iload_n dX8_chance_94 rfl rfl ?_
        refine pm_iload_n dX8_chance_95 rfl rfl ?_
        refine pm_iload dX8_chance_96 rfl ?_
        refine pm_isub dX8_chance_98 ?_
        refine pm_kL rfl (pm_S (y := zX8_chance) (z := zX8_power) (As := [.int l3, .int (l1 - s68.2.2.1)]) zkX8_power tw_1284 tw_1285 dX8_chance_99 rfl rfl (Nat.le_of_ble_eq_true rfl)) (kcX8_power hfl l3 (l1 - s68.2.2.1) m9) (fun x12 m11 => ?_)
        refine pm_lmul dX8_chance_102 ?_
        refine pm_ladd dX8_chance_103 ?_
        refine pm_bLn (fun x13 => ?_)
        refine pm_lstore (ls2 := [pmU, .int l1, .int l2, .int l3, .int l4, .long x13, pmU, .long s68.2.1, pmU, .int s68.2.2.1, pmU]) dX8_chance_104 rfl (Nat.le_of_ble_eq_true rfl) rfl ?_
        exact gX8_chance_j106 hfl again68 l1 l2 l3 l4 x13 s68.2.1 s68.2.2.1 m11 hag68)
set_option maxRecDepth 100000 in
set_option maxHeartbeats 4000000 in
theorem gX8_chance_j56 (hfl : l.flags = flags0) (l1 : Int32) (l2 : Int32) (l3 : Int32) (l4 : Int32) (t0 : Int32) (t1 : Nat) (m : pmM) : pm_G l Γ zX8_chance (d + 1) 56 [pmU, .int l1, .int l2, .int l3, .int l4, pmU, pmU, pmU, pmU, pmU, pmU] [.int t0, .ref t1] m (X8_chance_j56 l1 l2 l3 l4 t0 t1 m) := by
  unfold X8_chance_j56
  refine pm_rcv (fun hb9 hc9 => ?_)
  refine pm_kV rfl (pm_V (y := zX8_chance) (z := zX8_must) (As := [.int t0]) zkX8_must pm_q8 (by decide) tw_687 tw_689 tw_30 dX8_chance_56 rfl rfl (Nat.le_of_ble_eq_true rfl) hb9 hc9) (kcX8_must hfl t1 t0 m) (fun m2 => ?_)
  refine pm_lconst (v := 0) dX8_chance_59 kl_0 ?_
  refine pm_lstore (ls2 := [pmU, .int l1, .int l2, .int l3, .int l4, .long 0, pmU, pmU, pmU, pmU, pmU]) dX8_chance_60 rfl (Nat.le_of_ble_eq_true rfl) rfl ?_
  refine pm_lconst (v := 1) dX8_chance_62 kl_1 ?_
  refine pm_lstore (ls2 := [pmU, .int l1, .int l2, .int l3, .int l4, .long 0, pmU, .long 1, pmU, pmU, pmU]) dX8_chance_63 rfl (Nat.le_of_ble_eq_true rfl) rfl ?_
  refine pm_iconst (v := 0) dX8_chance_65 ki_0 ?_
  refine pm_istore (ls2 := [pmU, .int l1, .int l2, .int l3, .int l4, .long 0, pmU, .long 1, pmU, .int 0, pmU]) dX8_chance_66 rfl (Nat.le_of_ble_eq_true rfl) rfl ?_
  exact gX8_chance_L68 hfl l1 l2 l3 l4 pm_N (0, 1, 0, m2)
set_option maxRecDepth 100000 in
set_option maxHeartbeats 4000000 in
theorem gX8_chance_j51 (hfl : l.flags = flags0) (l1 : Int32) (l2 : Int32) (l3 : Int32) (l4 : Int32) (t0 : Nat) (m : pmM) : pm_G l Γ zX8_chance (d + 1) 51 [pmU, .int l1, .int l2, .int l3, .int l4, pmU, pmU, pmU, pmU, pmU, pmU] [.ref t0] m (X8_chance_j51 l1 l2 l3 l4 t0 m) := by
  unfold X8_chance_j51
  refine pm_iconst (v := 1) dX8_chance_51 ki_1 ?_
  refine pm_goto (tgt := 56) dX8_chance_52 rfl ?_
  exact gX8_chance_j56 hfl l1 l2 l3 l4 1 t0 m
set_option maxRecDepth 100000 in
set_option maxHeartbeats 4000000 in
theorem gX8_chance_j36 (hfl : l.flags = flags0) (l0 : Nat) (l1 : Int32) (l2 : Int32) (l3 : Int32) (l4 : Int32) (t0 : Int32) (t1 : Nat) (m : pmM) : pm_G l Γ zX8_chance (d + 1) 36 [.ref l0, .int l1, .int l2, .int l3, .int l4, pmU, pmU, pmU, pmU, pmU, pmU] [.int t0, .ref t1] m (X8_chance_j36 l0 l1 l2 l3 l4 t0 t1 m) := by
  unfold X8_chance_j36
  refine pm_rcv (fun hb9 hc9 => ?_)
  refine pm_kV rfl (pm_V (y := zX8_chance) (z := zX8_must) (As := [.int t0]) zkX8_must pm_q8 (by decide) tw_687 tw_689 tw_30 dX8_chance_36 rfl rfl (Nat.le_of_ble_eq_true rfl) hb9 hc9) (kcX8_must hfl t1 t0 m) (fun m1 => ?_)
  refine pm_aload_n dX8_chance_39 rfl rfl ?_
  refine pm_iload dX8_chance_40 rfl ?_
  refine pm_if_eq (tgt := 51) dX8_chance_42 rfl ?_ ?_
  · refine pm_drop (ls2 := [pmU, .int l1, .int l2, .int l3, .int l4, pmU, pmU, pmU, pmU, pmU, pmU]) (Nat.le_refl _) (pm_le_spec (pm_le_u (pm_le_v (pm_le_v (pm_le_v (pm_le_v (pm_le_u (pm_le_u (pm_le_u (pm_le_u (pm_le_u (pm_le_u (pm_le_n))))))))))))) ?_
    exact gX8_chance_j51 hfl l1 l2 l3 l4 l0 m1
  · refine pm_iload dX8_chance_45 rfl ?_
    refine pm_iconst (v := 1) dX8_chance_47 ki_1 ?_
    refine pm_icmp_ne (tgt := 55) dX8_chance_48 rfl ?_ ?_
    · refine pm_iconst (v := 0) dX8_chance_55 ki_0 ?_
      refine pm_drop (ls2 := [pmU, .int l1, .int l2, .int l3, .int l4, pmU, pmU, pmU, pmU, pmU, pmU]) (Nat.le_refl _) (pm_le_spec (pm_le_u (pm_le_v (pm_le_v (pm_le_v (pm_le_v (pm_le_u (pm_le_u (pm_le_u (pm_le_u (pm_le_u (pm_le_u (pm_le_n))))))))))))) ?_
      exact gX8_chance_j56 hfl l1 l2 l3 l4 0 l0 m1
    · refine pm_drop (ls2 := [pmU, .int l1, .int l2, .int l3, .int l4, pmU, pmU, pmU, pmU, pmU, pmU]) (Nat.le_refl _) (pm_le_spec (pm_le_u (pm_le_v (pm_le_v (pm_le_v (pm_le_v (pm_le_u (pm_le_u (pm_le_u (pm_le_u (pm_le_u (pm_le_u (pm_le_n))))))))))))) ?_
      exact gX8_chance_j51 hfl l1 l2 l3 l4 l0 m1
set_option maxRecDepth 100000 in
set_option maxHeartbeats 4000000 in
theorem gX8_chance_j35 (hfl : l.flags = flags0) (l0 : Nat) (l1 : Int32) (l2 : Int32) (l3 : Int32) (l4 : Int32) (t0 : Nat) (m : pmM) : pm_G l Γ zX8_chance (d + 1) 35 [.ref l0, .int l1, .int l2, .int l3, .int l4, pmU, pmU, pmU, pmU, pmU, pmU] [.ref t0] m (X8_chance_j35 l0 l1 l2 l3 l4 t0 m) := by
  unfold X8_chance_j35
  refine pm_iconst (v := 0) dX8_chance_35 ki_0 ?_
  exact gX8_chance_j36 hfl l0 l1 l2 l3 l4 0 t0 m
set_option maxRecDepth 100000 in
set_option maxHeartbeats 4000000 in
theorem kcX8_chance (hfl : l.flags = flags0) (a0 : Nat) (a1 : Int32) (a2 : Int32) (a3 : Int32) (a4 : Int32) (m : pmM) : pm_C l Γ zX8_chance (d + 1) [.ref a0, .int a1, .int a2, .int a3, .int a4] m (X8_chance a0 a1 a2 a3 a4 m) := by
  refine pm_enter (ls := [.ref a0, .int a1, .int a2, .int a3, .int a4, pmU, pmU, pmU, pmU, pmU, pmU]) hfl (by decide +kernel) rfl (Nat.le_of_ble_eq_true rfl) rfl (Nat.le_of_ble_eq_true rfl) ?_
  unfold X8_chance
  refine pm_aload_n dX8_chance_0 rfl rfl ?_
  refine pm_iload_n dX8_chance_1 rfl rfl ?_
  refine pm_if_lt (tgt := 35) dX8_chance_2 rfl ?_ ?_
  · exact gX8_chance_j35 hfl a0 a1 a2 a3 a4 a0 m
  · refine pm_iload_n dX8_chance_5 rfl rfl ?_
    refine pm_bipush (v := 12) dX8_chance_6 kb_12 ?_
    refine pm_icmp_gt (tgt := 35) dX8_chance_8 rfl ?_ ?_
    · exact gX8_chance_j35 hfl a0 a1 a2 a3 a4 a0 m
    · refine pm_iload_n dX8_chance_11 rfl rfl ?_
      refine pm_if_lt (tgt := 35) dX8_chance_12 rfl ?_ ?_
      · exact gX8_chance_j35 hfl a0 a1 a2 a3 a4 a0 m
      · refine pm_iload_n dX8_chance_15 rfl rfl ?_
        refine pm_bipush (v := 13) dX8_chance_16 kb_13 ?_
        refine pm_icmp_gt (tgt := 35) dX8_chance_18 rfl ?_ ?_
        · exact gX8_chance_j35 hfl a0 a1 a2 a3 a4 a0 m
        · refine pm_iload_n dX8_chance_21 rfl rfl ?_
          refine pm_if_lt (tgt := 35) dX8_chance_22 rfl ?_ ?_
          · exact gX8_chance_j35 hfl a0 a1 a2 a3 a4 a0 m
          · refine pm_iload_n dX8_chance_25 rfl rfl ?_
            refine pm_bipush (v := 16) dX8_chance_26 kb_16 ?_
            refine pm_icmp_gt (tgt := 35) dX8_chance_28 rfl ?_ ?_
            · exact gX8_chance_j35 hfl a0 a1 a2 a3 a4 a0 m
            · refine pm_iconst (v := 1) dX8_chance_31 ki_1 ?_
              refine pm_goto (tgt := 36) dX8_chance_32 rfl ?_
              exact gX8_chance_j36 hfl a0 a1 a2 a3 a4 1 a0 m
-- StruckPage.mustBeHand(II)V
abbrev zX8_mustBeHand : pmY := (⟨"StruckPage", "mustBeHand", "(II)V"⟩, cX8_mustBeHand, 3, none, [])
def X8_mustBeHand_j27 (t0 : Int32) (t1 : Nat) (m : pmM) : pmR := pm_rc 8 t1 m <| pm_cV (X8_must t1 t0 m) fun m1 => pm_oV m1
def X8_mustBeHand_j26 (t0 : Nat) (m : pmM) : pmR := X8_mustBeHand_j27 0 t0 m
def X8_mustBeHand (a0 : Nat) (a1 : Int32) (a2 : Int32) (m : pmM) : pmR := if a1 < 1 then (X8_mustBeHand_j26 a0 m) else (if (96 : Int32) < a1 then (X8_mustBeHand_j26 a0 m) else (if a2 < 0 then (X8_mustBeHand_j26 a0 m) else (if (16 : Int32) < a2 then (X8_mustBeHand_j26 a0 m) else (X8_mustBeHand_j27 1 a0 m))))
theorem zkX8_mustBeHand : pm_zOk zX8_mustBeHand 2 := ⟨rfl, tw_1335, tw_158, by decide +kernel, by decide⟩
set_option maxRecDepth 100000 in
set_option maxHeartbeats 4000000 in
theorem gX8_mustBeHand_j27 (hfl : l.flags = flags0) (t0 : Int32) (t1 : Nat) (m : pmM) : pm_G l Γ zX8_mustBeHand (d + 1) 27 [pmU, pmU, pmU] [.int t0, .ref t1] m (X8_mustBeHand_j27 t0 t1 m) := by
  unfold X8_mustBeHand_j27
  refine pm_rcv (fun hb9 hc9 => ?_)
  refine pm_kV rfl (pm_V (y := zX8_mustBeHand) (z := zX8_must) (As := [.int t0]) zkX8_must pm_q8 (by decide) tw_687 tw_689 tw_30 dX8_mustBeHand_27 rfl rfl (Nat.le_of_ble_eq_true rfl) hb9 hc9) (kcX8_must hfl t1 t0 m) (fun m1 => ?_)
  exact pm_vret rfl dX8_mustBeHand_30
set_option maxRecDepth 100000 in
set_option maxHeartbeats 4000000 in
theorem gX8_mustBeHand_j26 (hfl : l.flags = flags0) (t0 : Nat) (m : pmM) : pm_G l Γ zX8_mustBeHand (d + 1) 26 [pmU, pmU, pmU] [.ref t0] m (X8_mustBeHand_j26 t0 m) := by
  unfold X8_mustBeHand_j26
  refine pm_iconst (v := 0) dX8_mustBeHand_26 ki_0 ?_
  exact gX8_mustBeHand_j27 hfl 0 t0 m
set_option maxRecDepth 100000 in
set_option maxHeartbeats 4000000 in
theorem kcX8_mustBeHand (hfl : l.flags = flags0) (a0 : Nat) (a1 : Int32) (a2 : Int32) (m : pmM) : pm_C l Γ zX8_mustBeHand (d + 1) [.ref a0, .int a1, .int a2] m (X8_mustBeHand a0 a1 a2 m) := by
  refine pm_enter (ls := [.ref a0, .int a1, .int a2]) hfl (by decide +kernel) rfl (Nat.le_of_ble_eq_true rfl) rfl (Nat.le_of_ble_eq_true rfl) ?_
  unfold X8_mustBeHand
  refine pm_aload_n dX8_mustBeHand_0 rfl rfl ?_
  refine pm_iload_n dX8_mustBeHand_1 rfl rfl ?_
  refine pm_iconst (v := 1) dX8_mustBeHand_2 ki_1 ?_
  refine pm_icmp_lt (tgt := 26) dX8_mustBeHand_3 rfl ?_ ?_
  · refine pm_drop (ls2 := [pmU, pmU, pmU]) (Nat.le_refl _) (pm_le_spec (pm_le_u (pm_le_u (pm_le_u (pm_le_n))))) ?_
    exact gX8_mustBeHand_j26 hfl a0 m
  · refine pm_iload_n dX8_mustBeHand_6 rfl rfl ?_
    refine pm_bipush (v := 96) dX8_mustBeHand_7 kb_96 ?_
    refine pm_icmp_gt (tgt := 26) dX8_mustBeHand_9 rfl ?_ ?_
    · refine pm_drop (ls2 := [pmU, pmU, pmU]) (Nat.le_refl _) (pm_le_spec (pm_le_u (pm_le_u (pm_le_u (pm_le_n))))) ?_
      exact gX8_mustBeHand_j26 hfl a0 m
    · refine pm_iload_n dX8_mustBeHand_12 rfl rfl ?_
      refine pm_if_lt (tgt := 26) dX8_mustBeHand_13 rfl ?_ ?_
      · refine pm_drop (ls2 := [pmU, pmU, pmU]) (Nat.le_refl _) (pm_le_spec (pm_le_u (pm_le_u (pm_le_u (pm_le_n))))) ?_
        exact gX8_mustBeHand_j26 hfl a0 m
      · refine pm_iload_n dX8_mustBeHand_16 rfl rfl ?_
        refine pm_bipush (v := 16) dX8_mustBeHand_17 kb_16 ?_
        refine pm_icmp_gt (tgt := 26) dX8_mustBeHand_19 rfl ?_ ?_
        · refine pm_drop (ls2 := [pmU, pmU, pmU]) (Nat.le_refl _) (pm_le_spec (pm_le_u (pm_le_u (pm_le_u (pm_le_n))))) ?_
          exact gX8_mustBeHand_j26 hfl a0 m
        · refine pm_iconst (v := 1) dX8_mustBeHand_22 ki_1 ?_
          refine pm_goto (tgt := 27) dX8_mustBeHand_23 rfl ?_
          refine pm_drop (ls2 := [pmU, pmU, pmU]) (Nat.le_refl _) (pm_le_spec (pm_le_u (pm_le_u (pm_le_u (pm_le_n))))) ?_
          exact gX8_mustBeHand_j27 hfl 1 a0 m
end GEN13
