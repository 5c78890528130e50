section GEN19
variable {l : Launch} {Γ : pmG} {d : Nat}
-- StruckPageModel.ones(I)I
def X9_ones_L4 (l0 : Int32) (again4 : (Int32 × Int32 × pmM) → pmR) (s4 : Int32 × Int32 × pmM) : pmR := if (8 : Int32) ≤ s4.2.1 then (pm_oI s4.1 s4.2.2) else (pm_bI (s4.1 + ((l0 >>> (s4.2.1 &&& 31)) &&& 1)) fun x1 => pm_bI (s4.2.1 + 1) fun x2 => again4 (x1, x2, s4.2.2))
def X9_ones (a0 : Int32) (m : pmM) : pmR := pm_lp pm_N (X9_ones_L4 a0) (0, 0, m)
set_option maxRecDepth 100000 in
set_option maxHeartbeats 4000000 in
theorem gX9_ones_L4 (hfl : l.flags = flags0) (l0 : Int32) : ∀ (n : Nat) (s : Int32 × Int32 × pmM), pm_G l Γ zX9_ones (d + 0) 4 [.int l0, .int s.1, .int s.2.1] [] s.2.2 (pm_lp n (X9_ones_L4 l0) s) :=
  pm_loop (lsf := fun s : Int32 × Int32 × pmM => [.int l0, .int s.1, .int s.2.1]) (mf := fun s : Int32 × Int32 × pmM => s.2.2) (fun again4 hag4 s4 => by
    unfold X9_ones_L4
    refine pm_iload_n dX9_ones_4 rfl rfl ?_
    refine pm_bipush (v := 8) dX9_ones_5 kb_8 ?_
    refine pm_icmp_ge (tgt := 24) dX9_ones_7 rfl ?_ ?_
    · refine pm_iload_n dX9_ones_24 rfl rfl ?_
      exact pm_iret rfl dX9_ones_25
    · refine pm_iload_n dX9_ones_10 rfl rfl ?_
      refine pm_iload_n dX9_ones_11 rfl rfl ?_
      refine pm_iload_n dX9_ones_12 rfl rfl ?_
      refine pm_ishr dX9_ones_13 ?_
      refine pm_iconst (v := 1) dX9_ones_14 ki_1 ?_
      refine pm_iand dX9_ones_15 ?_
      refine pm_iadd dX9_ones_16 ?_
      refine pm_bIn (fun x1 => ?_)
      refine pm_istore_n (ls2 := [.int l0, .int x1, .int s4.2.1]) dX9_ones_17 rfl rfl (Nat.le_of_ble_eq_true rfl) rfl ?_
      refine pm_iincn (y := zX9_ones) dX9_ones_18 rfl ki_1 rfl (Nat.le_of_ble_eq_true rfl) (fun x2 => ?_)
      refine pm_eqls (ls2 := [.int l0, .int x1, .int x2]) rfl ?_
      refine pm_goto (tgt := 4) dX9_ones_21 rfl ?_
      exact hag4 (x1, x2, s4.2.2))
set_option maxRecDepth 100000 in
set_option maxHeartbeats 4000000 in
theorem kcX9_ones (hfl : l.flags = flags0) (a0 : Int32) (m : pmM) : pm_C l Γ zX9_ones (d + 0) [.int a0] m (X9_ones a0 m) := by
  refine pm_enter (ls := [.int a0, pmU, pmU]) hfl (by decide +kernel) rfl (Nat.le_of_ble_eq_true rfl) rfl (Nat.le_of_ble_eq_true rfl) ?_
  unfold X9_ones
  refine pm_iconst (v := 0) dX9_ones_0 ki_0 ?_
  refine pm_istore_n (ls2 := [.int a0, .int 0, pmU]) dX9_ones_1 rfl rfl (Nat.le_of_ble_eq_true rfl) rfl ?_
  refine pm_iconst (v := 0) dX9_ones_2 ki_0 ?_
  refine pm_istore_n (ls2 := [.int a0, .int 0, .int 0]) dX9_ones_3 rfl rfl (Nat.le_of_ble_eq_true rfl) rfl ?_
  exact gX9_ones_L4 hfl a0 pm_N (0, 0, m)
-- StruckPageModel.span2(II)I
def X9_span2 (a0 : Int32) (a1 : Int32) (m : pmM) : pmR := pm_oI (((1 : Int32) <<< ((a1 + 1) &&& 31)) - ((1 : Int32) <<< (a0 &&& 31))) m
set_option maxRecDepth 100000 in
set_option maxHeartbeats 4000000 in
theorem kcX9_span2 (hfl : l.flags = flags0) (a0 : Int32) (a1 : Int32) (m : pmM) : pm_C l Γ zX9_span2 (d + 0) [.int a0, .int a1] m (X9_span2 a0 a1 m) := by
  refine pm_enter (ls := [.int a0, .int a1]) hfl (by decide +kernel) rfl (Nat.le_of_ble_eq_true rfl) rfl (Nat.le_of_ble_eq_true rfl) ?_
  unfold X9_span2
  refine pm_iconst (v := 1) dX9_span2_0 ki_1 ?_
  refine pm_iload_n dX9_span2_1 rfl rfl ?_
  refine pm_iconst (v := 1) dX9_span2_2 ki_1 ?_
  refine pm_iadd dX9_span2_3 ?_
  refine pm_ishl dX9_span2_4 ?_
  refine pm_iconst (v := 1) dX9_span2_5 ki_1 ?_
  refine pm_iload_n dX9_span2_6 rfl rfl ?_
  refine pm_ishl dX9_span2_7 ?_
  refine pm_isub dX9_span2_8 ?_
  exact pm_iret rfl dX9_span2_9
-- StruckPageModel.leftIn([II)I
def X9_leftIn (a0 : Nat) (a1 : Nat) (a2 : Int32) (m : pmM) : pmR := pm_gR 9 a0 16 m fun r1 => pm_ld 100 r1 a2 m fun x2 => pm_ld 100 a1 ((0 : Int32) + a2) m fun x3 => pm_cI (X9_ones x3 m) fun x5 m4 => pm_oI (x2 - x5) m4
set_option maxRecDepth 100000 in
set_option maxHeartbeats 4000000 in
theorem kcX9_leftIn (hfl : l.flags = flags0) (a0 : Nat) (a1 : Nat) (a2 : Int32) (m : pmM) : pm_C l Γ zX9_leftIn (d + 1) [.ref a0, .ref a1, .int a2] m (X9_leftIn a0 a1 a2 m) := by
  refine pm_enter (ls := [.ref a0, .ref a1, .int a2]) hfl (by decide +kernel) rfl (Nat.le_of_ble_eq_true rfl) rfl (Nat.le_of_ble_eq_true rfl) ?_
  unfold X9_leftIn
  refine pm_aload_n dX9_leftIn_0 rfl rfl ?_
  refine fg_9_16 (y := zX9_leftIn) (Or.inl tw_1382) dX9_leftIn_1 (fun r1 => ?_)
  refine pm_iload_n dX9_leftIn_4 rfl rfl ?_
  refine pm_iald (y := zX9_leftIn) dX9_leftIn_5 (fun x2 => ?_)
  refine pm_aload_n dX9_leftIn_6 rfl rfl ?_
  refine pm_iconst (v := 0) dX9_leftIn_7 ki_0 ?_
  refine pm_iload_n dX9_leftIn_8 rfl rfl ?_
  refine pm_iadd dX9_leftIn_9 ?_
  refine pm_iald (y := zX9_leftIn) dX9_leftIn_10 (fun x3 => ?_)
  refine pm_kI (d := d + 0) rfl (pm_S (y := zX9_leftIn) (z := zX9_ones) (As := [.int x3]) zkX9_ones tw_1700 tw_1701 dX9_leftIn_11 rfl rfl (Nat.le_of_ble_eq_true rfl)) (kcX9_ones (d := d + 0) hfl x3 m) (fun x5 m4 => ?_)
  refine pm_isub dX9_leftIn_14 ?_
  exact pm_iret rfl dX9_leftIn_15
-- StruckPageModel.leftAll([I)I
def X9_leftAll_L4 (l0 : Nat) (l1 : Nat) (again4 : (Int32 × Int32 × pmM) → pmR) (s4 : Int32 × Int32 × pmM) : pmR := pm_gI 9 l0 13 s4.2.2 fun x1 => if x1 ≤ s4.2.1 then (pm_oI s4.1 s4.2.2) else (pm_rc 9 l0 s4.2.2 <| pm_cI (X9_leftIn l0 l1 s4.2.1 s4.2.2) fun x3 m2 => pm_bI (s4.1 + x3) fun x4 => pm_bI (s4.2.1 + 1) fun x5 => again4 (x4, x5, m2))
def X9_leftAll (a0 : Nat) (a1 : Nat) (m : pmM) : pmR := pm_lp pm_N (X9_leftAll_L4 a0 a1) (0, 0, m)
set_option maxRecDepth 100000 in
set_option maxHeartbeats 4000000 in
theorem gX9_leftAll_L4 (hfl : l.flags = flags0) (l0 : Nat) (l1 : Nat) : ∀ (n : Nat) (s : Int32 × Int32 × pmM), pm_G l Γ zX9_leftAll (d + 2) 4 [.ref l0, .ref l1, .int s.1, .int s.2.1] [] s.2.2 (pm_lp n (X9_leftAll_L4 l0 l1) s) :=
  pm_loop (lsf := fun s : Int32 × Int32 × pmM => [.ref l0, .ref l1, .int s.1, .int s.2.1]) (mf := fun s : Int32 × Int32 × pmM => s.2.2) (fun again4 hag4 s4 => by
    unfold X9_leftAll_L4
    refine pm_iload_n dX9_leftAll_4 rfl rfl ?_
    refine pm_aload_n dX9_leftAll_5 rfl rfl ?_
    refine fg_9_13 (y := zX9_leftAll) (Or.inl tw_1379) dX9_leftAll_6 (fun x1 => ?_)
    refine pm_icmp_ge (tgt := 27) dX9_leftAll_9 rfl ?_ ?_
    · refine pm_iload_n dX9_leftAll_27 rfl rfl ?_
      exact pm_iret rfl dX9_leftAll_28
    · refine pm_iload_n dX9_leftAll_12 rfl rfl ?_
      refine pm_aload_n dX9_leftAll_13 rfl rfl ?_
      refine pm_aload_n dX9_leftAll_14 rfl rfl ?_
      refine pm_iload_n dX9_leftAll_15 rfl rfl ?_
      refine pm_rcv (fun hb9 hc9 => ?_)
      refine pm_kI (d := d + 1) rfl (pm_V (y := zX9_leftAll) (z := zX9_leftIn) (As := [.ref l1, .int s4.2.1]) zkX9_leftIn pm_q9 (by decide) tw_1707 tw_1709 tw_130 dX9_leftAll_16 rfl rfl (Nat.le_of_ble_eq_true rfl) hb9 hc9) (kcX9_leftIn (d := d + 0) hfl l0 l1 s4.2.1 s4.2.2) (fun x3 m2 => ?_)
      refine pm_iadd dX9_leftAll_19 ?_
      refine pm_bIn (fun x4 => ?_)
      refine pm_istore_n (ls2 := [.ref l0, .ref l1, .int x4, .int s4.2.1]) dX9_leftAll_20 rfl rfl (Nat.le_of_ble_eq_true rfl) rfl ?_
      refine pm_iincn (y := zX9_leftAll) dX9_leftAll_21 rfl ki_1 rfl (Nat.le_of_ble_eq_true rfl) (fun x5 => ?_)
      refine pm_eqls (ls2 := [.ref l0, .ref l1, .int x4, .int x5]) rfl ?_
      refine pm_goto (tgt := 4) dX9_leftAll_24 rfl ?_
      exact hag4 (x4, x5, m2))
set_option maxRecDepth 100000 in
set_option maxHeartbeats 4000000 in
theorem kcX9_leftAll (hfl : l.flags = flags0) (a0 : Nat) (a1 : Nat) (m : pmM) : pm_C l Γ zX9_leftAll (d + 2) [.ref a0, .ref a1] m (X9_leftAll a0 a1 m) := by
  refine pm_enter (ls := [.ref a0, .ref a1, pmU, pmU]) hfl (by decide +kernel) rfl (Nat.le_of_ble_eq_true rfl) rfl (Nat.le_of_ble_eq_true rfl) ?_
  unfold X9_leftAll
  refine pm_iconst (v := 0) dX9_leftAll_0 ki_0 ?_
  refine pm_istore_n (ls2 := [.ref a0, .ref a1, .int 0, pmU]) dX9_leftAll_1 rfl rfl (Nat.le_of_ble_eq_true rfl) rfl ?_
  refine pm_iconst (v := 0) dX9_leftAll_2 ki_0 ?_
  refine pm_istore_n (ls2 := [.ref a0, .ref a1, .int 0, .int 0]) dX9_leftAll_3 rfl rfl (Nat.le_of_ble_eq_true rfl) rfl ?_
  exact gX9_leftAll_L4 hfl a0 a1 pm_N (0, 0, m)
-- StruckPageModel.costOf([IIII)I
def X9_costOf (a0 : Nat) (a1 : Nat) (a2 : Int32) (a3 : Int32) (a4 : Int32) (m : pmM) : pmR := pm_ld 100 a1 ((0 : Int32) + a2) m fun x1 => pm_cI (X9_span2 a3 a4 m) fun x3 m2 => pm_cI (X9_ones (x1 &&& x3) m2) fun x5 m4 => pm_rc 9 a0 m4 <| pm_cI (X9_leftAll a0 a1 m4) fun x7 m6 => pm_ld 100 a1 10 m6 fun x8 => pm_ld 100 a1 6 m6 fun x9 => pm_rc 9 a0 m6 <| pm_cI (X9_costBy a0 ((a4 - a3) + 1) x5 a3 a2 x7 x8 x9 m6) fun x11 m10 => pm_oI x11 m10
set_option maxRecDepth 100000 in
set_option maxHeartbeats 4000000 in
theorem kcX9_costOf (hfl : l.flags = flags0) (a0 : Nat) (a1 : Nat) (a2 : Int32) (a3 : Int32) (a4 : Int32) (m : pmM) : pm_C l Γ zX9_costOf (d + 4) [.ref a0, .ref a1, .int a2, .int a3, .int a4] m (X9_costOf a0 a1 a2 a3 a4 m) := by
  refine pm_enter (ls := [.ref a0, .ref a1, .int a2, .int a3, .int a4]) hfl (by decide +kernel) rfl (Nat.le_of_ble_eq_true rfl) rfl (Nat.le_of_ble_eq_true rfl) ?_
  unfold X9_costOf
  refine pm_aload_n dX9_costOf_0 rfl rfl ?_
  refine pm_iload dX9_costOf_1 rfl ?_
  refine pm_iload_n dX9_costOf_3 rfl rfl ?_
  refine pm_isub dX9_costOf_4 ?_
  refine pm_iconst (v := 1) dX9_costOf_5 ki_1 ?_
  refine pm_iadd dX9_costOf_6 ?_
  refine pm_aload_n dX9_costOf_7 rfl rfl ?_
  refine pm_iconst (v := 0) dX9_costOf_8 ki_0 ?_
  refine pm_iload_n dX9_costOf_9 rfl rfl ?_
  refine pm_iadd dX9_costOf_10 ?_
  refine pm_iald (y := zX9_costOf) dX9_costOf_11 (fun x1 => ?_)
  refine pm_iload_n dX9_costOf_12 rfl rfl ?_
  refine pm_iload dX9_costOf_13 rfl ?_
  refine pm_kI (d := d + 3) rfl (pm_S (y := zX9_costOf) (z := zX9_span2) (As := [.int a3, .int a4]) zkX9_span2 tw_1697 tw_1698 dX9_costOf_15 rfl rfl (Nat.le_of_ble_eq_true rfl)) (kcX9_span2 (d := d + 3) hfl a3 a4 m) (fun x3 m2 => ?_)
  refine pm_iand dX9_costOf_18 ?_
  refine pm_kI (d := d + 3) rfl (pm_S (y := zX9_costOf) (z := zX9_ones) (As := [.int (x1 &&& x3)]) zkX9_ones tw_1700 tw_1701 dX9_costOf_19 rfl rfl (Nat.le_of_ble_eq_true rfl)) (kcX9_ones (d := d + 3) hfl (x1 &&& x3) m2) (fun x5 m4 => ?_)
  refine pm_iload_n dX9_costOf_22 rfl rfl ?_
  refine pm_iload_n dX9_costOf_23 rfl rfl ?_
  refine pm_aload_n dX9_costOf_24 rfl rfl ?_
  refine pm_aload_n dX9_costOf_25 rfl rfl ?_
  refine pm_rcv (fun hb9 hc9 => ?_)
  refine pm_kI (d := d + 3) rfl (pm_V (y := zX9_costOf) (z := zX9_leftAll) (As := [.ref a1]) zkX9_leftAll pm_q9 (by decide) tw_1703 tw_1705 tw_129 dX9_costOf_26 rfl rfl (Nat.le_of_ble_eq_true rfl) hb9 hc9) (kcX9_leftAll (d := d + 1) hfl a0 a1 m4) (fun x7 m6 => ?_)
  refine pm_aload_n dX9_costOf_29 rfl rfl ?_
  refine pm_bipush (v := 10) dX9_costOf_30 kb_10 ?_
  refine pm_iald (y := zX9_costOf) dX9_costOf_32 (fun x8 => ?_)
  refine pm_aload_n dX9_costOf_33 rfl rfl ?_
  refine pm_bipush (v := 6) dX9_costOf_34 kb_6 ?_
  refine pm_iald (y := zX9_costOf) dX9_costOf_36 (fun x9 => ?_)
  refine pm_rcv (fun hb9 hc9 => ?_)
  refine pm_kI (d := d + 3) rfl (pm_V (y := zX9_costOf) (z := zX9_costBy) (As := [.int ((a4 - a3) + 1), .int x5, .int a3, .int a2, .int x7, .int x8, .int x9]) zkX9_costBy pm_q9 (by decide) tw_1711 tw_1713 tw_131 dX9_costOf_37 rfl rfl (Nat.le_of_ble_eq_true rfl) hb9 hc9) (kcX9_costBy (d := d + 0) hfl a0 ((a4 - a3) + 1) x5 a3 a2 x7 x8 x9 m6) (fun x11 m10 => ?_)
  exact pm_iret rfl dX9_costOf_40
-- StruckPageModel.strikes([IIII)Z
def X9_strikes_j17 (m : pmM) : pmR := pm_oI 0 m
def X9_strikes (a0 : Nat) (a1 : Nat) (a2 : Int32) (a3 : Int32) (a4 : Int32) (m : pmM) : pmR := if a4 < a3 then (X9_strikes_j17 m) else (pm_gR 9 a0 16 m fun r1 => pm_ld 100 r1 a2 m fun x2 => if a4 < x2 then (pm_rc 9 a0 m <| pm_cI (X9_costOf a0 a1 a2 a3 a4 m) fun x4 m3 => pm_ld 100 a1 10 m3 fun x5 => if x4 ≤ x5 then (pm_bI ((0 : Int32) + a2) fun x6 => pm_ld 100 a1 x6 m3 fun x7 => pm_cI (X9_span2 a3 a4 m3) fun x9 m8 => pm_st 100 a1 x6 (x7 ^^^ x9) m8 fun m10 => pm_ld 100 a1 10 m10 fun x11 => pm_st 100 a1 10 (x11 - x4) m10 fun m12 => pm_ld 100 a1 12 m12 fun x13 => pm_st 100 a1 12 (x13 + 1) m12 fun m14 => pm_oI 1 m14) else (pm_oI 0 m3)) else (X9_strikes_j17 m))
set_option maxRecDepth 100000 in
set_option maxHeartbeats 4000000 in
theorem gX9_strikes_j17 (hfl : l.flags = flags0) (m : pmM) : pm_G l Γ zX9_strikes (d + 5) 17 [pmU, pmU, pmU, pmU, pmU, pmU] [] m (X9_strikes_j17 m) := by
  unfold X9_strikes_j17
  refine pm_iconst (v := 0) dX9_strikes_17 ki_0 ?_
  exact pm_nret (ty := .boolean) (w := 0) rfl (by decide) (by decide) dX9_strikes_18
set_option maxRecDepth 100000 in
set_option maxHeartbeats 4000000 in
theorem kcX9_strikes (hfl : l.flags = flags0) (a0 : Nat) (a1 : Nat) (a2 : Int32) (a3 : Int32) (a4 : Int32) (m : pmM) : pm_C l Γ zX9_strikes (d + 5) [.ref a0, .ref a1, .int a2, .int a3, .int a4] m (X9_strikes a0 a1 a2 a3 a4 m) := by
  refine pm_enter (ls := [.ref a0, .ref a1, .int a2, .int a3, .int a4, pmU]) hfl (by decide +kernel) rfl (Nat.le_of_ble_eq_true rfl) rfl (Nat.le_of_ble_eq_true rfl) ?_
  unfold X9_strikes
  refine pm_iload_n dX9_strikes_0 rfl rfl ?_
  refine pm_iload dX9_strikes_1 rfl ?_
  refine pm_icmp_gt (tgt := 17) dX9_strikes_3 rfl ?_ ?_
  · refine pm_drop (ls2 := [pmU, pmU, pmU, pmU, pmU, pmU]) (Nat.le_refl _) (pm_le_spec (pm_le_u (pm_le_u (pm_le_u (pm_le_u (pm_le_u (pm_le_u (pm_le_n)))))))) ?_
    exact gX9_strikes_j17 hfl m
  · refine pm_iload dX9_strikes_6 rfl ?_
    refine pm_aload_n dX9_strikes_8 rfl rfl ?_
    refine fg_9_16 (y := zX9_strikes) (Or.inl tw_1382) dX9_strikes_9 (fun r1 => ?_)
    refine pm_iload_n dX9_strikes_12 rfl rfl ?_
    refine pm_iald (y := zX9_strikes) dX9_strikes_13 (fun x2 => ?_)
    refine pm_icmp_lt (tgt := 19) dX9_strikes_14 rfl ?_ ?_
    · refine pm_aload_n dX9_strikes_19 rfl rfl ?_
      refine pm_aload_n dX9_strikes_20 rfl rfl ?_
      refine pm_iload_n dX9_strikes_21 rfl rfl ?_
      refine pm_iload_n dX9_strikes_22 rfl rfl ?_
      refine pm_iload dX9_strikes_23 rfl ?_
      refine pm_rcv (fun hb9 hc9 => ?_)
      refine pm_kI (d := d + 4) rfl (pm_V (y := zX9_strikes) (z := zX9_costOf) (As := [.ref a1, .int a2, .int a3, .int a4]) zkX9_costOf pm_q9 (by decide) tw_1693 tw_1695 tw_128 dX9_strikes_25 rfl rfl (Nat.le_of_ble_eq_true rfl) hb9 hc9) (kcX9_costOf (d := d + 0) hfl a0 a1 a2 a3 a4 m) (fun x4 m3 => ?_)
      refine pm_istore (ls2 := [.ref a0, .ref a1, .int a2, .int a3, .int a4, .int x4]) dX9_strikes_28 rfl (Nat.le_of_ble_eq_true rfl) rfl ?_
      refine pm_iload dX9_strikes_30 rfl ?_
      refine pm_aload_n dX9_strikes_32 rfl rfl ?_
      refine pm_bipush (v := 10) dX9_strikes_33 kb_10 ?_
      refine pm_iald (y := zX9_strikes) dX9_strikes_35 (fun x5 => ?_)
      refine pm_icmp_le (tgt := 41) dX9_strikes_36 rfl ?_ ?_
      · refine pm_aload_n dX9_strikes_41 rfl rfl ?_
        refine pm_iconst (v := 0) dX9_strikes_42 ki_0 ?_
        refine pm_iload_n dX9_strikes_43 rfl rfl ?_
        refine pm_iadd dX9_strikes_44 ?_
        refine pm_bIn (fun x6 => ?_)
        refine pm_dup2 dX9_strikes_45 rfl rfl ?_
        refine pm_iald (y := zX9_strikes) dX9_strikes_46 (fun x7 => ?_)
        refine pm_iload_n dX9_strikes_47 rfl rfl ?_
        refine pm_iload dX9_strikes_48 rfl ?_
        refine pm_kI (d := d + 4) rfl (pm_S (y := zX9_strikes) (z := zX9_span2) (As := [.int a3, .int a4]) zkX9_span2 tw_1697 tw_1698 dX9_strikes_50 rfl rfl (Nat.le_of_ble_eq_true rfl)) (kcX9_span2 (d := d + 4) hfl a3 a4 m3) (fun x9 m8 => ?_)
        refine pm_ixor dX9_strikes_53 ?_
        refine pm_iast (y := zX9_strikes) dX9_strikes_54 (fun m10 => ?_)
        refine pm_aload_n dX9_strikes_55 rfl rfl ?_
        refine pm_bipush (v := 10) dX9_strikes_56 kb_10 ?_
        refine pm_dup2 dX9_strikes_58 rfl rfl ?_
        refine pm_iald (y := zX9_strikes) dX9_strikes_59 (fun x11 => ?_)
        refine pm_iload dX9_strikes_60 rfl ?_
        refine pm_isub dX9_strikes_62 ?_
        refine pm_iast (y := zX9_strikes) dX9_strikes_63 (fun m12 => ?_)
        refine pm_aload_n dX9_strikes_64 rfl rfl ?_
        refine pm_bipush (v := 12) dX9_strikes_65 kb_12 ?_
        refine pm_dup2 dX9_strikes_67 rfl rfl ?_
        refine pm_iald (y := zX9_strikes) dX9_strikes_68 (fun x13 => ?_)
        refine pm_iconst (v := 1) dX9_strikes_69 ki_1 ?_
        refine pm_iadd dX9_strikes_70 ?_
        refine pm_iast (y := zX9_strikes) dX9_strikes_71 (fun m14 => ?_)
        refine pm_iconst (v := 1) dX9_strikes_72 ki_1 ?_
        exact pm_nret (ty := .boolean) (w := 1) rfl (by decide) (by decide) dX9_strikes_73
      · refine pm_iconst (v := 0) dX9_strikes_39 ki_0 ?_
        exact pm_nret (ty := .boolean) (w := 0) rfl (by decide) (by decide) dX9_strikes_40
    · refine pm_drop (ls2 := [pmU, pmU, pmU, pmU, pmU, pmU]) (Nat.le_refl _) (pm_le_spec (pm_le_u (pm_le_u (pm_le_u (pm_le_u (pm_le_u (pm_le_u (pm_le_n)))))))) ?_
      exact gX9_strikes_j17 hfl m
-- StruckPageModel.leftWord([III)I
def X9_leftWord_j52 (again6 : (Int32 × Int32 × pmM) → pmR) (l0 : Nat) (l1 : Nat) (l2 : Int32) (l3 : Int32) (l4 : Int32) (l5 : Int32) (m : pmM) : pmR := pm_bI (l5 + 1) fun x7 => again6 (l4, x7, m)
def X9_leftWord_L6 (l0 : Nat) (l1 : Nat) (l2 : Int32) (l3 : Int32) (again6 : (Int32 × Int32 × pmM) → pmR) (s6 : Int32 × Int32 × pmM) : pmR := pm_gR 9 l0 16 s6.2.2 fun r1 => pm_ld 100 r1 l2 s6.2.2 fun x2 => if x2 ≤ s6.2.1 then (pm_oI (-1) s6.2.2) else (pm_ld 100 l1 ((0 : Int32) + l2) s6.2.2 fun x3 => pm_cI (X9_has x3 s6.2.1 s6.2.2) fun x5 m4 => if x5 = 0 then (if s6.1 = l3 then (pm_gR 9 l0 18 m4 fun r8 => pm_ldR 103 r8 l2 m4 fun r9 => pm_ld 100 r9 s6.2.1 m4 fun x10 => pm_oI x10 m4) else (pm_bI (s6.1 + 1) fun x6 => X9_leftWord_j52 again6 l0 l1 l2 l3 x6 s6.2.1 m4)) else (X9_leftWord_j52 again6 l0 l1 l2 l3 s6.1 s6.2.1 m4))
def X9_leftWord (a0 : Nat) (a1 : Nat) (a2 : Int32) (a3 : Int32) (m : pmM) : pmR := pm_lp pm_N (X9_leftWord_L6 a0 a1 a2 a3) (0, 0, m)
set_option maxRecDepth 100000 in
set_option maxHeartbeats 4000000 in
theorem gX9_leftWord_j52 (hfl : l.flags = flags0) (again6 : (Int32 × Int32 × pmM) → pmR) (l0 : Nat) (l1 : Nat) (l2 : Int32) (l3 : Int32) (l4 : Int32) (l5 : Int32) (m : pmM) (hag6 : ∀ s : Int32 × Int32 × pmM, pm_G l Γ zX9_leftWord (d + 1) 6 [.ref l0, .ref l1, .int l2, .int l3, .int s.1, .int s.2.1] [] s.2.2 (again6 s)) : pm_G l Γ zX9_leftWord (d + 1) 52 [.ref l0, .ref l1, .int l2, .int l3, .int l4, .int l5] [] m (X9_leftWord_j52 again6 l0 l1 l2 l3 l4 l5 m) := by
  unfold X9_leftWord_j52
  refine pm_iincn (y := zX9_leftWord) dX9_leftWord_52 rfl ki_1 rfl (Nat.le_of_ble_eq_true rfl) (fun x7 => ?_)
  refine pm_eqls (ls2 := [.ref l0, .ref l1, .int l2, .int l3, .int l4, .int x7]) rfl ?_
  refine pm_goto (tgt := 6) dX9_leftWord_55 rfl ?_
  exact hag6 (l4, x7, m)
set_option maxRecDepth 100000 in
set_option maxHeartbeats 4000000 in
theorem gX9_leftWord_L6 (hfl : l.flags = flags0) (l0 : Nat) (l1 : Nat) (l2 : Int32) (l3 : Int32) : ∀ (n : Nat) (s : Int32 × Int32 × pmM), pm_G l Γ zX9_leftWord (d + 1) 6 [.ref l0, .ref l1, .int l2, .int l3, .int s.1, .int s.2.1] [] s.2.2 (pm_lp n (X9_leftWord_L6 l0 l1 l2 l3) s) :=
  pm_loop (lsf := fun s : Int32 × Int32 × pmM => [.ref l0, .ref l1, .int l2, .int l3, .int s.1, .int s.2.1]) (mf := fun s : Int32 × Int32 × pmM => s.2.2) (fun again6 hag6 s6 => by
    unfold X9_leftWord_L6
    refine pm_iload dX9_leftWord_6 rfl ?_
    refine pm_aload_n dX9_leftWord_8 rfl rfl ?_
    refine fg_9_16 (y := zX9_leftWord) (Or.inl tw_1382) dX9_leftWord_9 (fun r1 => ?_)
    refine pm_iload_n dX9_leftWord_12 rfl rfl ?_
    refine pm_iald (y := zX9_leftWord) dX9_leftWord_13 (fun x2 => ?_)
    refine pm_icmp_ge (tgt := 58) dX9_leftWord_14 rfl ?_ ?_
    · refine pm_iconst (v := (-1)) dX9_leftWord_58 ki_n1 ?_
      exact pm_iret rfl dX9_leftWord_59
    · refine pm_aload_n dX9_leftWord_17 rfl rfl ?_
      refine pm_iconst (v := 0) dX9_leftWord_18 ki_0 ?_
      refine pm_iload_n dX9_leftWord_19 rfl rfl ?_
      refine pm_iadd dX9_leftWord_20 ?_
      refine pm_iald (y := zX9_leftWord) dX9_leftWord_21 (fun x3 => ?_)
      refine pm_iload dX9_leftWord_22 rfl ?_
      refine pm_kI (d := d + 0) rfl (pm_S (y := zX9_leftWord) (z := zX9_has) (As := [.int x3, .int s6.2.1]) zkX9_has tw_1748 tw_1749 dX9_leftWord_24 rfl rfl (Nat.le_of_ble_eq_true rfl)) (kcX9_has (d := d + 0) hfl x3 s6.2.1 s6.2.2) (fun x5 m4 => ?_)
      refine pm_if_eq (tgt := 33) dX9_leftWord_27 rfl ?_ ?_
      · refine pm_iload dX9_leftWord_33 rfl ?_
        refine pm_iload_n dX9_leftWord_35 rfl rfl ?_
        refine pm_icmp_ne (tgt := 49) dX9_leftWord_36 rfl ?_ ?_
        · refine pm_iincn (y := zX9_leftWord) dX9_leftWord_49 rfl ki_1 rfl (Nat.le_of_ble_eq_true rfl) (fun x6 => ?_)
          refine pm_eqls (ls2 := [.ref l0, .ref l1, .int l2, .int l3, .int x6, .int s6.2.1]) rfl ?_
          exact gX9_leftWord_j52 hfl again6 l0 l1 l2 l3 x6 s6.2.1 m4 hag6
        · refine pm_aload_n dX9_leftWord_39 rfl rfl ?_
          refine fg_9_18 (y := zX9_leftWord) (Or.inl tw_1384) dX9_leftWord_40 (fun r8 => ?_)
          refine pm_iload_n dX9_leftWord_43 rfl rfl ?_
          refine pm_aaldI (y := zX9_leftWord) dX9_leftWord_44 (fun r9 => ?_)
          refine pm_iload dX9_leftWord_45 rfl ?_
          refine pm_iald (y := zX9_leftWord) dX9_leftWord_47 (fun x10 => ?_)
          exact pm_iret rfl dX9_leftWord_48
      · refine pm_goto (tgt := 52) dX9_leftWord_30 rfl ?_
        exact gX9_leftWord_j52 hfl again6 l0 l1 l2 l3 s6.1 s6.2.1 m4 hag6)
set_option maxRecDepth 100000 in
set_option maxHeartbeats 4000000 in
theorem kcX9_leftWord (hfl : l.flags = flags0) (a0 : Nat) (a1 : Nat) (a2 : Int32) (a3 : Int32) (m : pmM) : pm_C l Γ zX9_leftWord (d + 1) [.ref a0, .ref a1, .int a2, .int a3] m (X9_leftWord a0 a1 a2 a3 m) := by
  refine pm_enter (ls := [.ref a0, .ref a1, .int a2, .int a3, pmU, pmU]) hfl (by decide +kernel) rfl (Nat.le_of_ble_eq_true rfl) rfl (Nat.le_of_ble_eq_true rfl) ?_
  unfold X9_leftWord
  refine pm_iconst (v := 0) dX9_leftWord_0 ki_0 ?_
  refine pm_istore (ls2 := [.ref a0, .ref a1, .int a2, .int a3, .int 0, pmU]) dX9_leftWord_1 rfl (Nat.le_of_ble_eq_true rfl) rfl ?_
  refine pm_iconst (v := 0) dX9_leftWord_3 ki_0 ?_
  refine pm_istore (ls2 := [.ref a0, .ref a1, .int a2, .int a3, .int 0, .int 0]) dX9_leftWord_4 rfl (Nat.le_of_ble_eq_true rfl) rfl ?_
  exact gX9_leftWord_L6 hfl a0 a1 a2 a3 pm_N (0, 0, m)
-- StruckPageModel.lineNow([I)I
def X9_lineNow_L5 (l0 : Nat) (l1 : Nat) (again5 : (Int32 × pmM) → pmR) (s5 : Int32 × pmM) : pmR := pm_gI 9 l0 13 s5.2 fun x2 => if x2 ≤ s5.1 then (pm_oI (-1) s5.2) else (pm_rc 9 l0 s5.2 <| pm_cI (X9_leftIn l0 l1 s5.1 s5.2) fun x4 m3 => if x4 ≤ 0 then (pm_bI (s5.1 + 1) fun x5 => again5 (x5, m3)) else (pm_oI s5.1 m3))
def X9_lineNow (a0 : Nat) (a1 : Nat) (m : pmM) : pmR := pm_ld 100 a1 11 m fun x1 => pm_lp pm_N (X9_lineNow_L5 a0 a1) (x1, m)
set_option maxRecDepth 100000 in
set_option maxHeartbeats 4000000 in
theorem gX9_lineNow_L5 (hfl : l.flags = flags0) (l0 : Nat) (l1 : Nat) : ∀ (n : Nat) (s : Int32 × pmM), pm_G l Γ zX9_lineNow (d + 2) 5 [.ref l0, .ref l1, .int s.1] [] s.2 (pm_lp n (X9_lineNow_L5 l0 l1) s) :=
  pm_loop (lsf := fun s : Int32 × pmM => [.ref l0, .ref l1, .int s.1]) (mf := fun s : Int32 × pmM => s.2) (fun again5 hag5 s5 => by
    unfold X9_lineNow_L5
    refine pm_iload_n dX9_lineNow_5 rfl rfl ?_
    refine pm_aload_n dX9_lineNow_6 rfl rfl ?_
    refine fg_9_13 (y := zX9_lineNow) (Or.inl tw_1379) dX9_lineNow_7 (fun x2 => ?_)
    refine pm_icmp_ge (tgt := 30) dX9_lineNow_10 rfl ?_ ?_
    · refine pm_iconst (v := (-1)) dX9_lineNow_30 ki_n1 ?_
      exact pm_iret rfl dX9_lineNow_31
    · refine pm_aload_n dX9_lineNow_13 rfl rfl ?_
      refine pm_aload_n dX9_lineNow_14 rfl rfl ?_
      refine pm_iload_n dX9_lineNow_15 rfl rfl ?_
      refine pm_rcv (fun hb9 hc9 => ?_)
      refine pm_kI (d := d + 1) rfl (pm_V (y := zX9_lineNow) (z := zX9_leftIn) (As := [.ref l1, .int s5.1]) zkX9_leftIn pm_q9 (by decide) tw_1707 tw_1709 tw_130 dX9_lineNow_16 rfl rfl (Nat.le_of_ble_eq_true rfl) hb9 hc9) (kcX9_leftIn (d := d + 0) hfl l0 l1 s5.1 s5.2) (fun x4 m3 => ?_)
      refine pm_if_le (tgt := 24) dX9_lineNow_19 rfl ?_ ?_
      · refine pm_iincn (y := zX9_lineNow) dX9_lineNow_24 rfl ki_1 rfl (Nat.le_of_ble_eq_true rfl) (fun x5 => ?_)
        refine pm_eqls (ls2 := [.ref l0, .ref l1, .int x5]) rfl ?_
        refine pm_goto (tgt := 5) dX9_lineNow_27 rfl ?_
        exact hag5 (x5, m3)
      · refine pm_iload_n dX9_lineNow_22 rfl rfl ?_
        exact pm_iret rfl dX9_lineNow_23)
set_option maxRecDepth 100000 in
set_option maxHeartbeats 4000000 in
theorem kcX9_lineNow (hfl : l.flags = flags0) (a0 : Nat) (a1 : Nat) (m : pmM) : pm_C l Γ zX9_lineNow (d + 2) [.ref a0, .ref a1] m (X9_lineNow a0 a1 m) := by
  refine pm_enter (ls := [.ref a0, .ref a1, pmU]) hfl (by decide +kernel) rfl (Nat.le_of_ble_eq_true rfl) rfl (Nat.le_of_ble_eq_true rfl) ?_
  unfold X9_lineNow
  refine pm_aload_n dX9_lineNow_0 rfl rfl ?_
  refine pm_bipush (v := 11) dX9_lineNow_1 kb_11 ?_
  refine pm_iald (y := zX9_lineNow) dX9_lineNow_3 (fun x1 => ?_)
  refine pm_istore_n (ls2 := [.ref a0, .ref a1, .int x1]) dX9_lineNow_4 rfl rfl (Nat.le_of_ble_eq_true rfl) rfl ?_
  exact gX9_lineNow_L5 hfl a0 a1 pm_N (x1, m)
-- StruckPageModel.changes([III)V
def X9_changes (a0 : Nat) (a1 : Nat) (a2 : Int32) (a3 : Int32) (m : pmM) : pmR := if (4 : Int32) = 0 then none else pm_cI (X9_more 0 a3 m) fun x2 m1 => pm_cI (X9_less 999 x2 m1) fun x4 m3 => pm_st 100 a1 ((6 : Int32) + (a2 - a2 / 4 * 4)) x4 m3 fun m5 => pm_oV m5
set_option maxRecDepth 100000 in
set_option maxHeartbeats 4000000 in
theorem kcX9_changes (hfl : l.flags = flags0) (a0 : Nat) (a1 : Nat) (a2 : Int32) (a3 : Int32) (m : pmM) : pm_C l Γ zX9_changes (d + 1) [.ref a0, .ref a1, .int a2, .int a3] m (X9_changes a0 a1 a2 a3 m) := by
  refine pm_enter (ls := [.ref a0, .ref a1, .int a2, .int a3]) hfl (by decide +kernel) rfl (Nat.le_of_ble_eq_true rfl) rfl (Nat.le_of_ble_eq_true rfl) ?_
  unfold X9_changes
  refine pm_aload_n dX9_changes_0 rfl rfl ?_
  refine pm_bipush (v := 6) dX9_changes_1 kb_6 ?_
  refine pm_iload_n dX9_changes_3 rfl rfl ?_
  refine pm_iconst (v := 4) dX9_changes_4 ki_4 ?_
  refine pm_irem dX9_changes_5 ?_
  refine pm_iadd dX9_changes_6 ?_
  refine pm_sipush (v := 999) dX9_changes_7 ks_999 ?_
  refine pm_iconst (v := 0) dX9_changes_10 ki_0 ?_
  refine pm_iload_n dX9_changes_11 rfl rfl ?_
  refine pm_kI (d := d + 0) rfl (pm_S (y := zX9_changes) (z := zX9_more) (As := [.int 0, .int a3]) zkX9_more tw_1725 tw_1726 dX9_changes_12 rfl rfl (Nat.le_of_ble_eq_true rfl)) (kcX9_more (d := d + 0) hfl 0 a3 m) (fun x2 m1 => ?_)
  refine pm_kI (d := d + 0) rfl (pm_S (y := zX9_changes) (z := zX9_less) (As := [.int 999, .int x2]) zkX9_less tw_1722 tw_1723 dX9_changes_15 rfl rfl (Nat.le_of_ble_eq_true rfl)) (kcX9_less (d := d + 0) hfl 999 x2 m1) (fun x4 m3 => ?_)
  refine pm_iast (y := zX9_changes) dX9_changes_18 (fun m5 => ?_)
  exact pm_vret rfl dX9_changes_19
-- StruckPageModel.does2([II)I
def X9_does2_j161 (t0 : Int32) (m : pmM) : pmR := pm_oI t0 m
def X9_does2_j204 (l2 : Int32) (t0 : Int32) (t1 : Int32) (t2 : Int32) (t3 : Nat) (m : pmM) : pmR := pm_st 100 t3 t2 (t1 ^^^ t0) m fun m19 => pm_oI (l2 + 1) m19
def X9_does2_j203 (l2 : Int32) (t0 : Int32) (t1 : Int32) (t2 : Nat) (m : pmM) : pmR := X9_does2_j204 l2 0 t0 t1 t2 m
def X9_does2 (a0 : Nat) (a1 : Nat) (a2 : Int32) (m : pmM) : pmR := pm_rc 9 a0 m <| pm_cI (X9_leftWord a0 a1 a2 0 m) fun x2 m1 => pm_rc 9 a0 m1 <| pm_cI (X9_leftWord a0 a1 a2 1 m1) fun x4 m3 => pm_cI (X9_more 0 x4 m3) fun x6 m5 => pm_rc 9 a0 m5 <| pm_cI (X9_leftWord a0 a1 a2 2 m5) fun x8 m7 => pm_cI (X9_more 0 x8 m7) fun x10 m9 => if (4 : Int32) = 0 then none else pm_ld 100 a1 ((6 : Int32) + (x6 - x6 / 4 * 4)) m9 fun x11 => if x2 = (0 : Int32) then (pm_oI (a2 + 1) m9) else if x2 = (1 : Int32) then (pm_rc 9 a0 m9 <| pm_cV (X9_changes a0 a1 x6 (x11 + x10) m9) fun m12 => pm_oI (a2 + 1) m12) else if x2 = (2 : Int32) then (pm_rc 9 a0 m9 <| pm_cV (X9_changes a0 a1 x6 (x11 - x10) m9) fun m13 => pm_oI (a2 + 1) m13) else if x2 = (3 : Int32) then (if (4 : Int32) = 0 then none else pm_ld 100 a1 ((6 : Int32) + (x10 - x10 / 4 * 4)) m9 fun x14 => pm_rc 9 a0 m9 <| pm_cV (X9_changes a0 a1 x6 x14 m9) fun m15 => pm_oI (a2 + 1) m15) else if x2 = (4 : Int32) then (if x11 = 0 then (X9_does2_j161 x10 m9) else (X9_does2_j161 (a2 + 1) m9)) else if x2 = (5 : Int32) then (pm_oI x6 m9) else if x2 = (6 : Int32) then (if (6 : Int32) = 0 then none else pm_bI ((0 : Int32) + (x6 - x6 / 6 * 6)) fun x16 => pm_ld 100 a1 x16 m9 fun x17 => pm_gI 9 a0 13 m9 fun x18 => if x18 ≤ x6 then (X9_does2_j203 a2 x17 x16 a1 m9) else (pm_gR 9 a0 16 m9 fun r20 => pm_ld 100 r20 x6 m9 fun x21 => if x21 ≤ x10 then (X9_does2_j203 a2 x17 x16 a1 m9) else (X9_does2_j204 a2 ((1 : Int32) <<< (x10 &&& 31)) x17 x16 a1 m9))) else if x2 = (7 : Int32) then (pm_gI 9 a0 13 m9 fun x22 => pm_oI x22 m9) else (if (4 : Int32) = 0 then none else pm_ld 100 a1 ((6 : Int32) + (x2 - x2 / 4 * 4)) m9 fun x23 => pm_rc 9 a0 m9 <| pm_cV (X9_changes a0 a1 x2 (x23 + 1) m9) fun m24 => pm_oI (a2 + 1) m24)
set_option maxRecDepth 100000 in
set_option maxHeartbeats 4000000 in
theorem gX9_does2_j161 (hfl : l.flags = flags0) (t0 : Int32) (m : pmM) : pm_G l Γ zX9_does2 (d + 2) 161 [pmU, pmU, pmU, pmU, pmU, pmU, pmU] [.int t0] m (X9_does2_j161 t0 m) := by
  unfold X9_does2_j161
  exact pm_iret rfl dX9_does2_161
set_option maxRecDepth 100000 in
set_option maxHeartbeats 4000000 in
theorem gX9_does2_j204 (hfl : l.flags = flags0) (l2 : Int32) (t0 : Int32) (t1 : Int32) (t2 : Int32) (t3 : Nat) (m : pmM) : pm_G l Γ zX9_does2 (d + 2) 204 [pmU, pmU, .int l2, pmU, pmU, pmU, pmU] [.int t0, .int t1, .int t2, .ref t3] m (X9_does2_j204 l2 t0 t1 t2 t3 m) := by
  unfold X9_does2_j204
  refine pm_ixor dX9_does2_204 ?_
  refine pm_iast (y := zX9_does2) dX9_does2_205 (fun m19 => ?_)
  refine pm_iload_n dX9_does2_206 rfl rfl ?_
  refine pm_iconst (v := 1) dX9_does2_207 ki_1 ?_
  refine pm_iadd dX9_does2_208 ?_
  exact pm_iret rfl dX9_does2_209
set_option maxRecDepth 100000 in
set_option maxHeartbeats 4000000 in
theorem gX9_does2_j203 (hfl : l.flags = flags0) (l2 : Int32) (t0 : Int32) (t1 : Int32) (t2 : Nat) (m : pmM) : pm_G l Γ zX9_does2 (d + 2) 203 [pmU, pmU, .int l2, pmU, pmU, pmU, pmU] [.int t0, .int t1, .ref t2] m (X9_does2_j203 l2 t0 t1 t2 m) := by
  unfold X9_does2_j203
  refine pm_iconst (v := 0) dX9_does2_203 ki_0 ?_
  exact gX9_does2_j204 hfl l2 0 t0 t1 t2 m
set_option maxRecDepth 100000 in
set_option maxHeartbeats 4000000 in
theorem kcX9_does2 (hfl : l.flags = flags0) (a0 : Nat) (a1 : Nat) (a2 : Int32) (m : pmM) : pm_C l Γ zX9_does2 (d + 2) [.ref a0, .ref a1, .int a2] m (X9_does2 a0 a1 a2 m) := by
  refine pm_enter (ls := [.ref a0, .ref a1, .int a2, pmU, pmU, pmU, pmU]) hfl (by decide +kernel) rfl (Nat.le_of_ble_eq_true rfl) rfl (Nat.le_of_ble_eq_true rfl) ?_
  unfold X9_does2
  refine pm_aload_n dX9_does2_0 rfl rfl ?_
  refine pm_aload_n dX9_does2_1 rfl rfl ?_
  refine pm_iload_n dX9_does2_2 rfl rfl ?_
  refine pm_iconst (v := 0) dX9_does2_3 ki_0 ?_
  refine pm_rcv (fun hb9 hc9 => ?_)
  refine pm_kI (d := d + 1) rfl (pm_V (y := zX9_does2) (z := zX9_leftWord) (As := [.ref a1, .int a2, .int 0]) zkX9_leftWord pm_q9 (by decide) tw_1744 tw_1746 tw_137 dX9_does2_4 rfl rfl (Nat.le_of_ble_eq_true rfl) hb9 hc9) (kcX9_leftWord (d := d + 0) hfl a0 a1 a2 0 m) (fun x2 m1 => ?_)
  refine pm_istore_n (ls2 := [.ref a0, .ref a1, .int a2, .int x2, pmU, pmU, pmU]) dX9_does2_7 rfl rfl (Nat.le_of_ble_eq_true rfl) rfl ?_
  refine pm_iconst (v := 0) dX9_does2_8 ki_0 ?_
  refine pm_aload_n dX9_does2_9 rfl rfl ?_
  refine pm_aload_n dX9_does2_10 rfl rfl ?_
  refine pm_iload_n dX9_does2_11 rfl rfl ?_
  refine pm_iconst (v := 1) dX9_does2_12 ki_1 ?_
  refine pm_rcv (fun hb9 hc9 => ?_)
  refine pm_kI (d := d + 1) rfl (pm_V (y := zX9_does2) (z := zX9_leftWord) (As := [.ref a1, .int a2, .int 1]) zkX9_leftWord pm_q9 (by decide) tw_1744 tw_1746 tw_137 dX9_does2_13 rfl rfl (Nat.le_of_ble_eq_true rfl) hb9 hc9) (kcX9_leftWord (d := d + 0) hfl a0 a1 a2 1 m1) (fun x4 m3 => ?_)
  refine pm_kI (d := d + 1) rfl (pm_S (y := zX9_does2) (z := zX9_more) (As := [.int 0, .int x4]) zkX9_more tw_1725 tw_1726 dX9_does2_16 rfl rfl (Nat.le_of_ble_eq_true rfl)) (kcX9_more (d := d + 1) hfl 0 x4 m3) (fun x6 m5 => ?_)
  refine pm_istore (ls2 := [.ref a0, .ref a1, .int a2, .int x2, .int x6, pmU, pmU]) dX9_does2_19 rfl (Nat.le_of_ble_eq_true rfl) rfl ?_
  refine pm_iconst (v := 0) dX9_does2_21 ki_0 ?_
  refine pm_aload_n dX9_does2_22 rfl rfl ?_
  refine pm_aload_n dX9_does2_23 rfl rfl ?_
  refine pm_iload_n dX9_does2_24 rfl rfl ?_
  refine pm_iconst (v := 2) dX9_does2_25 ki_2 ?_
  refine pm_rcv (fun hb9 hc9 => ?_)
  refine pm_kI (d := d + 1) rfl (pm_V (y := zX9_does2) (z := zX9_leftWord) (As := [.ref a1, .int a2, .int 2]) zkX9_leftWord pm_q9 (by decide) tw_1744 tw_1746 tw_137 dX9_does2_26 rfl rfl (Nat.le_of_ble_eq_true rfl) hb9 hc9) (kcX9_leftWord (d := d + 0) hfl a0 a1 a2 2 m5) (fun x8 m7 => ?_)
  refine pm_kI (d := d + 1) rfl (pm_S (y := zX9_does2) (z := zX9_more) (As := [.int 0, .int x8]) zkX9_more tw_1725 tw_1726 dX9_does2_29 rfl rfl (Nat.le_of_ble_eq_true rfl)) (kcX9_more (d := d + 1) hfl 0 x8 m7) (fun x10 m9 => ?_)
  refine pm_istore (ls2 := [.ref a0, .ref a1, .int a2, .int x2, .int x6, .int x10, pmU]) dX9_does2_32 rfl (Nat.le_of_ble_eq_true rfl) rfl ?_
  refine pm_aload_n dX9_does2_34 rfl rfl ?_
  refine pm_bipush (v := 6) dX9_does2_35 kb_6 ?_
  refine pm_iload dX9_does2_37 rfl ?_
  refine pm_iconst (v := 4) dX9_does2_39 ki_4 ?_
  refine pm_irem dX9_does2_40 ?_
  refine pm_iadd dX9_does2_41 ?_
  refine pm_iald (y := zX9_does2) dX9_does2_42 (fun x11 => ?_)
  refine pm_istore (ls2 := [.ref a0, .ref a1, .int a2, .int x2, .int x6, .int x10, .int x11]) dX9_does2_43 rfl (Nat.le_of_ble_eq_true rfl) rfl ?_
  refine pm_iload_n dX9_does2_45 rfl rfl ?_
  refine pm_case (c := (0 : Int32)) (fun h9 => ?_) (fun h9_0 => ?_)
  · refine pm_swIn (off := (46)) (tgt := 92) dX9_does2_46 (by rw [h9]; decide) (by rw [h9]; decide) (by rw [h9]; decide) (by decide) ?_
    refine pm_iload_n dX9_does2_92 rfl rfl ?_
    refine pm_iconst (v := 1) dX9_does2_93 ki_1 ?_
    refine pm_iadd dX9_does2_94 ?_
    exact pm_iret rfl dX9_does2_95
  refine pm_case (c := (1 : Int32)) (fun h9 => ?_) (fun h9_1 => ?_)
  · refine pm_swIn (off := (50)) (tgt := 96) dX9_does2_46 (by rw [h9]; decide) (by rw [h9]; decide) (by rw [h9]; decide) (by decide) ?_
    refine pm_aload_n dX9_does2_96 rfl rfl ?_
    refine pm_aload_n dX9_does2_97 rfl rfl ?_
    refine pm_iload dX9_does2_98 rfl ?_
    refine pm_iload dX9_does2_100 rfl ?_
    refine pm_iload dX9_does2_102 rfl ?_
    refine pm_iadd dX9_does2_104 ?_
    refine pm_rcv (fun hb9 hc9 => ?_)
    refine pm_kV (d := d + 1) rfl (pm_V (y := zX9_does2) (z := zX9_changes) (As := [.ref a1, .int x6, .int (x11 + x10)]) zkX9_changes pm_q9 (by decide) tw_1751 tw_1753 tw_138 dX9_does2_105 rfl rfl (Nat.le_of_ble_eq_true rfl) hb9 hc9) (kcX9_changes (d := d + 0) hfl a0 a1 x6 (x11 + x10) m9) (fun m12 => ?_)
    refine pm_iload_n dX9_does2_108 rfl rfl ?_
    refine pm_iconst (v := 1) dX9_does2_109 ki_1 ?_
    refine pm_iadd dX9_does2_110 ?_
    exact pm_iret rfl dX9_does2_111
  refine pm_case (c := (2 : Int32)) (fun h9 => ?_) (fun h9_2 => ?_)
  · refine pm_swIn (off := (66)) (tgt := 112) dX9_does2_46 (by rw [h9]; decide) (by rw [h9]; decide) (by rw [h9]; decide) (by decide) ?_
    refine pm_aload_n dX9_does2_112 rfl rfl ?_
    refine pm_aload_n dX9_does2_113 rfl rfl ?_
    refine pm_iload dX9_does2_114 rfl ?_
    refine pm_iload dX9_does2_116 rfl ?_
    refine pm_iload dX9_does2_118 rfl ?_
    refine pm_isub dX9_does2_120 ?_
    refine pm_rcv (fun hb9 hc9 => ?_)
    refine pm_kV (d := d + 1) rfl (pm_V (y := zX9_does2) (z := zX9_changes) (As := [.ref a1, .int x6, .int (x11 - x10)]) zkX9_changes pm_q9 (by decide) tw_1751 tw_1753 tw_138 dX9_does2_121 rfl rfl (Nat.le_of_ble_eq_true rfl) hb9 hc9) (kcX9_changes (d := d + 0) hfl a0 a1 x6 (x11 - x10) m9) (fun m13 => ?_)
    refine pm_iload_n dX9_does2_124 rfl rfl ?_
    refine pm_iconst (v := 1) dX9_does2_125 ki_1 ?_
    refine pm_iadd dX9_does2_126 ?_
    exact pm_iret rfl dX9_does2_127
  refine pm_case (c := (3 : Int32)) (fun h9 => ?_) (fun h9_3 => ?_)
  · refine pm_swIn (off := (82)) (tgt := 128) dX9_does2_46 (by rw [h9]; decide) (by rw [h9]; decide) (by rw [h9]; decide) (by decide) ?_
    refine pm_aload_n dX9_does2_128 rfl rfl ?_
    refine pm_aload_n dX9_does2_129 rfl rfl ?_
    refine pm_iload dX9_does2_130 rfl ?_
    refine pm_aload_n dX9_does2_132 rfl rfl ?_
    refine pm_bipush (v := 6) dX9_does2_133 kb_6 ?_
    refine pm_iload dX9_does2_135 rfl ?_
    refine pm_iconst (v := 4) dX9_does2_137 ki_4 ?_
    refine pm_irem dX9_does2_138 ?_
    refine pm_iadd dX9_does2_139 ?_
    refine pm_iald (y := zX9_does2) dX9_does2_140 (fun x14 => ?_)
    refine pm_rcv (fun hb9 hc9 => ?_)
    refine pm_kV (d := d + 1) rfl (pm_V (y := zX9_does2) (z := zX9_changes) (As := [.ref a1, .int x6, .int x14]) zkX9_changes pm_q9 (by decide) tw_1751 tw_1753 tw_138 dX9_does2_141 rfl rfl (Nat.le_of_ble_eq_true rfl) hb9 hc9) (kcX9_changes (d := d + 0) hfl a0 a1 x6 x14 m9) (fun m15 => ?_)
    refine pm_iload_n dX9_does2_144 rfl rfl ?_
    refine pm_iconst (v := 1) dX9_does2_145 ki_1 ?_
    refine pm_iadd dX9_does2_146 ?_
    exact pm_iret rfl dX9_does2_147
  refine pm_case (c := (4 : Int32)) (fun h9 => ?_) (fun h9_4 => ?_)
  · refine pm_swIn (off := (102)) (tgt := 148) dX9_does2_46 (by rw [h9]; decide) (by rw [h9]; decide) (by rw [h9]; decide) (by decide) ?_
    refine pm_iload dX9_does2_148 rfl ?_
    refine pm_if_ne (tgt := 158) dX9_does2_150 rfl ?_ ?_
    · refine pm_iload_n dX9_does2_158 rfl rfl ?_
      refine pm_iconst (v := 1) dX9_does2_159 ki_1 ?_
      refine pm_iadd dX9_does2_160 ?_
      refine pm_drop (ls2 := [pmU, pmU, pmU, pmU, pmU, pmU, pmU]) (Nat.le_refl _) (pm_le_spec (pm_le_u (pm_le_u (pm_le_u (pm_le_u (pm_le_u (pm_le_u (pm_le_u (pm_le_n))))))))) ?_
      exact gX9_does2_j161 hfl (a2 + 1) m9
    · refine pm_iload dX9_does2_153 rfl ?_
      refine pm_goto (tgt := 161) dX9_does2_155 rfl ?_
      refine pm_drop (ls2 := [pmU, pmU, pmU, pmU, pmU, pmU, pmU]) (Nat.le_refl _) (pm_le_spec (pm_le_u (pm_le_u (pm_le_u (pm_le_u (pm_le_u (pm_le_u (pm_le_u (pm_le_n))))))))) ?_
      exact gX9_does2_j161 hfl x10 m9
  refine pm_case (c := (5 : Int32)) (fun h9 => ?_) (fun h9_5 => ?_)
  · refine pm_swIn (off := (116)) (tgt := 162) dX9_does2_46 (by rw [h9]; decide) (by rw [h9]; decide) (by rw [h9]; decide) (by decide) ?_
    refine pm_iload dX9_does2_162 rfl ?_
    exact pm_iret rfl dX9_does2_164
  refine pm_case (c := (6 : Int32)) (fun h9 => ?_) (fun h9_6 => ?_)
  · refine pm_swIn (off := (119)) (tgt := 165) dX9_does2_46 (by rw [h9]; decide) (by rw [h9]; decide) (by rw [h9]; decide) (by decide) ?_
    refine pm_aload_n dX9_does2_165 rfl rfl ?_
    refine pm_iconst (v := 0) dX9_does2_166 ki_0 ?_
    refine pm_iload dX9_does2_167 rfl ?_
    refine pm_bipush (v := 6) dX9_does2_169 kb_6 ?_
    refine pm_irem dX9_does2_171 ?_
    refine pm_iadd dX9_does2_172 ?_
    refine pm_bIn (fun x16 => ?_)
    refine pm_dup2 dX9_does2_173 rfl rfl ?_
    refine pm_iald (y := zX9_does2) dX9_does2_174 (fun x17 => ?_)
    refine pm_iload dX9_does2_175 rfl ?_
    refine pm_aload_n dX9_does2_177 rfl rfl ?_
    refine fg_9_13 (y := zX9_does2) (Or.inl tw_1379) dX9_does2_178 (fun x18 => ?_)
    refine pm_icmp_ge (tgt := 203) dX9_does2_181 rfl ?_ ?_
    · refine pm_drop (ls2 := [pmU, pmU, .int a2, pmU, pmU, pmU, pmU]) (Nat.le_refl _) (pm_le_spec (pm_le_u (pm_le_u (pm_le_v (pm_le_u (pm_le_u (pm_le_u (pm_le_u (pm_le_n))))))))) ?_
      exact gX9_does2_j203 hfl a2 x17 x16 a1 m9
    · refine pm_iload dX9_does2_184 rfl ?_
      refine pm_aload_n dX9_does2_186 rfl rfl ?_
      refine fg_9_16 (y := zX9_does2) (Or.inl tw_1382) dX9_does2_187 (fun r20 => ?_)
      refine pm_iload dX9_does2_190 rfl ?_
      refine pm_iald (y := zX9_does2) dX9_does2_192 (fun x21 => ?_)
      refine pm_icmp_ge (tgt := 203) dX9_does2_193 rfl ?_ ?_
      · refine pm_drop (ls2 := [pmU, pmU, .int a2, pmU, pmU, pmU, pmU]) (Nat.le_refl _) (pm_le_spec (pm_le_u (pm_le_u (pm_le_v (pm_le_u (pm_le_u (pm_le_u (pm_le_u (pm_le_n))))))))) ?_
        exact gX9_does2_j203 hfl a2 x17 x16 a1 m9
      · refine pm_iconst (v := 1) dX9_does2_196 ki_1 ?_
        refine pm_iload dX9_does2_197 rfl ?_
        refine pm_ishl dX9_does2_199 ?_
        refine pm_goto (tgt := 204) dX9_does2_200 rfl ?_
        refine pm_drop (ls2 := [pmU, pmU, .int a2, pmU, pmU, pmU, pmU]) (Nat.le_refl _) (pm_le_spec (pm_le_u (pm_le_u (pm_le_v (pm_le_u (pm_le_u (pm_le_u (pm_le_u (pm_le_n))))))))) ?_
        exact gX9_does2_j204 hfl a2 ((1 : Int32) <<< (x10 &&& 31)) x17 x16 a1 m9
  refine pm_case (c := (7 : Int32)) (fun h9 => ?_) (fun h9_7 => ?_)
  · refine pm_swIn (off := (164)) (tgt := 210) dX9_does2_46 (by rw [h9]; decide) (by rw [h9]; decide) (by rw [h9]; decide) (by decide) ?_
    refine pm_aload_n dX9_does2_210 rfl rfl ?_
    refine fg_9_13 (y := zX9_does2) (Or.inl tw_1379) dX9_does2_211 (fun x22 => ?_)
    exact pm_iret rfl dX9_does2_214
  refine pm_swOut (tgt := 215) dX9_does2_46 (pm_swx x2 (0) 8 (lt_s (lt_s (lt_s (lt_s (lt_s (lt_s (lt_s (lt_s (lt_0) (pm_ne h9_0 (by decide))) (pm_ne h9_1 (by decide))) (pm_ne h9_2 (by decide))) (pm_ne h9_3 (by decide))) (pm_ne h9_4 (by decide))) (pm_ne h9_5 (by decide))) (pm_ne h9_6 (by decide))) (pm_ne h9_7 (by decide)))) (by decide) ?_
  refine pm_aload_n dX9_does2_215 rfl rfl ?_
  refine pm_aload_n dX9_does2_216 rfl rfl ?_
  refine pm_iload_n dX9_does2_217 rfl rfl ?_
  refine pm_aload_n dX9_does2_218 rfl rfl ?_
  refine pm_bipush (v := 6) dX9_does2_219 kb_6 ?_
  refine pm_iload_n dX9_does2_221 rfl rfl ?_
  refine pm_iconst (v := 4) dX9_does2_222 ki_4 ?_
  refine pm_irem dX9_does2_223 ?_
  refine pm_iadd dX9_does2_224 ?_
  refine pm_iald (y := zX9_does2) dX9_does2_225 (fun x23 => ?_)
  refine pm_iconst (v := 1) dX9_does2_226 ki_1 ?_
  refine pm_iadd dX9_does2_227 ?_
  refine pm_rcv (fun hb9 hc9 => ?_)
  refine pm_kV (d := d + 1) rfl (pm_V (y := zX9_does2) (z := zX9_changes) (As := [.ref a1, .int x2, .int (x23 + 1)]) zkX9_changes pm_q9 (by decide) tw_1751 tw_1753 tw_138 dX9_does2_228 rfl rfl (Nat.le_of_ble_eq_true rfl) hb9 hc9) (kcX9_changes (d := d + 0) hfl a0 a1 x2 (x23 + 1) m9) (fun m24 => ?_)
  refine pm_iload_n dX9_does2_231 rfl rfl ?_
  refine pm_iconst (v := 1) dX9_does2_232 ki_1 ?_
  refine pm_iadd dX9_does2_233 ?_
  exact pm_iret rfl dX9_does2_234
-- StruckPageModel.deed([I)Z
def X9_deed_j62 (t0 : Int32) (m : pmM) : pmR := pm_oI (vp_nar .boolean t0) m
def X9_deed_j50 (l2 : Int32) (t0 : Int32) (t1 : Int32) (t2 : Int32) (t3 : Nat) (m : pmM) : pmR := pm_st 100 t3 t2 (t1 + t0) m fun m10 => if l2 = (-1) then (X9_deed_j62 0 m10) else (X9_deed_j62 1 m10)
def X9_deed_j34 (l1 : Nat) (l2 : Int32) (t0 : Int32) (t1 : Int32) (t2 : Nat) (m : pmM) : pmR := pm_st 100 t2 t1 t0 m fun m8 => pm_ld 100 l1 13 m8 fun x9 => if l2 = (-1) then (X9_deed_j50 l2 0 x9 13 l1 m8) else (X9_deed_j50 l2 1 x9 13 l1 m8)
def X9_deed (a0 : Nat) (a1 : Nat) (m : pmM) : pmR := pm_rc 9 a0 m <| pm_cI (X9_lineNow a0 a1 m) fun x2 m1 => if x2 = (-1) then (pm_gI 9 a0 13 m1 fun x11 => X9_deed_j34 a1 x2 x11 11 a1 m1) else (pm_gI 9 a0 13 m1 fun x3 => pm_rc 9 a0 m1 <| pm_cI (X9_does2 a0 a1 x2 m1) fun x5 m4 => pm_cI (X9_less x3 x5 m4) fun x7 m6 => X9_deed_j34 a1 x2 x7 11 a1 m6)
set_option maxRecDepth 100000 in
set_option maxHeartbeats 4000000 in
theorem gX9_deed_j62 (hfl : l.flags = flags0) (t0 : Int32) (m : pmM) : pm_G l Γ zX9_deed (d + 3) 62 [pmU, pmU, pmU] [.int t0] m (X9_deed_j62 t0 m) := by
  unfold X9_deed_j62
  exact pm_nret (ty := .boolean) (w := vp_nar .boolean t0) rfl (by decide) rfl dX9_deed_62
set_option maxRecDepth 100000 in
set_option maxHeartbeats 4000000 in
theorem gX9_deed_j50 (hfl : l.flags = flags0) (l2 : Int32) (t0 : Int32) (t1 : Int32) (t2 : Int32) (t3 : Nat) (m : pmM) : pm_G l Γ zX9_deed (d + 3) 50 [pmU, pmU, .int l2] [.int t0, .int t1, .int t2, .ref t3] m (X9_deed_j50 l2 t0 t1 t2 t3 m) := by
  unfold X9_deed_j50
  refine pm_iadd dX9_deed_50 ?_
  refine pm_iast (y := zX9_deed) dX9_deed_51 (fun m10 => ?_)
  refine pm_iload_n dX9_deed_52 rfl rfl ?_
  refine pm_iconst (v := (-1)) dX9_deed_53 ki_n1 ?_
  refine pm_icmp_eq (tgt := 61) dX9_deed_54 rfl ?_ ?_
  · refine pm_iconst (v := 0) dX9_deed_61 ki_0 ?_
    refine pm_drop (ls2 := [pmU, pmU, pmU]) (Nat.le_refl _) (pm_le_spec (pm_le_u (pm_le_u (pm_le_u (pm_le_n))))) ?_
    exact gX9_deed_j62 hfl 0 m10
  · refine pm_iconst (v := 1) dX9_deed_57 ki_1 ?_
    refine pm_goto (tgt := 62) dX9_deed_58 rfl ?_
    refine pm_drop (ls2 := [pmU, pmU, pmU]) (Nat.le_refl _) (pm_le_spec (pm_le_u (pm_le_u (pm_le_u (pm_le_n))))) ?_
    exact gX9_deed_j62 hfl 1 m10
set_option maxRecDepth 100000 in
set_option maxHeartbeats 4000000 in
theorem gX9_deed_j34 (hfl : l.flags = flags0) (l1 : Nat) (l2 : Int32) (t0 : Int32) (t1 : Int32) (t2 : Nat) (m : pmM) : pm_G l Γ zX9_deed (d + 3) 34 [pmU, .ref l1, .int l2] [.int t0, .int t1, .ref t2] m (X9_deed_j34 l1 l2 t0 t1 t2 m) := by
  unfold X9_deed_j34
  refine pm_iast (y := zX9_deed) dX9_deed_34 (fun m8 => ?_)
  refine pm_aload_n dX9_deed_35 rfl rfl ?_
  refine pm_bipush (v := 13) dX9_deed_36 kb_13 ?_
  refine pm_dup2 dX9_deed_38 rfl rfl ?_
  refine pm_iald (y := zX9_deed) dX9_deed_39 (fun x9 => ?_)
  refine pm_iload_n dX9_deed_40 rfl rfl ?_
  refine pm_iconst (v := (-1)) dX9_deed_41 ki_n1 ?_
  refine pm_icmp_ne (tgt := 49) dX9_deed_42 rfl ?_ ?_
  · refine pm_iconst (v := 1) dX9_deed_49 ki_1 ?_
    refine pm_drop (ls2 := [pmU, pmU, .int l2]) (Nat.le_refl _) (pm_le_spec (pm_le_u (pm_le_u (pm_le_v (pm_le_n))))) ?_
    exact gX9_deed_j50 hfl l2 1 x9 13 l1 m8
  · refine pm_iconst (v := 0) dX9_deed_45 ki_0 ?_
    refine pm_goto (tgt := 50) dX9_deed_46 rfl ?_
    refine pm_drop (ls2 := [pmU, pmU, .int l2]) (Nat.le_refl _) (pm_le_spec (pm_le_u (pm_le_u (pm_le_v (pm_le_n))))) ?_
    exact gX9_deed_j50 hfl l2 0 x9 13 l1 m8
set_option maxRecDepth 100000 in
set_option maxHeartbeats 4000000 in
theorem kcX9_deed (hfl : l.flags = flags0) (a0 : Nat) (a1 : Nat) (m : pmM) : pm_C l Γ zX9_deed (d + 3) [.ref a0, .ref a1] m (X9_deed a0 a1 m) := by
  refine pm_enter (ls := [.ref a0, .ref a1, pmU]) hfl (by decide +kernel) rfl (Nat.le_of_ble_eq_true rfl) rfl (Nat.le_of_ble_eq_true rfl) ?_
  unfold X9_deed
  refine pm_aload_n dX9_deed_0 rfl rfl ?_
  refine pm_aload_n dX9_deed_1 rfl rfl ?_
  refine pm_rcv (fun hb9 hc9 => ?_)
  refine pm_kI (d := d + 2) rfl (pm_V (y := zX9_deed) (z := zX9_lineNow) (As := [.ref a1]) zkX9_lineNow pm_q9 (by decide) tw_1736 tw_1738 tw_135 dX9_deed_2 rfl rfl (Nat.le_of_ble_eq_true rfl) hb9 hc9) (kcX9_lineNow (d := d + 0) hfl a0 a1 m) (fun x2 m1 => ?_)
  refine pm_istore_n (ls2 := [.ref a0, .ref a1, .int x2]) dX9_deed_5 rfl rfl (Nat.le_of_ble_eq_true rfl) rfl ?_
  refine pm_aload_n dX9_deed_6 rfl rfl ?_
  refine pm_bipush (v := 11) dX9_deed_7 kb_11 ?_
  refine pm_iload_n dX9_deed_9 rfl rfl ?_
  refine pm_iconst (v := (-1)) dX9_deed_10 ki_n1 ?_
  refine pm_icmp_ne (tgt := 21) dX9_deed_11 rfl ?_ ?_
  · refine pm_aload_n dX9_deed_21 rfl rfl ?_
    refine fg_9_13 (y := zX9_deed) (Or.inl tw_1379) dX9_deed_22 (fun x3 => ?_)
    refine pm_aload_n dX9_deed_25 rfl rfl ?_
    refine pm_aload_n dX9_deed_26 rfl rfl ?_
    refine pm_iload_n dX9_deed_27 rfl rfl ?_
    refine pm_rcv (fun hb9 hc9 => ?_)
    refine pm_kI (d := d + 2) rfl (pm_V (y := zX9_deed) (z := zX9_does2) (As := [.ref a1, .int x2]) zkX9_does2 pm_q9 (by decide) tw_1740 tw_1742 tw_136 dX9_deed_28 rfl rfl (Nat.le_of_ble_eq_true rfl) hb9 hc9) (kcX9_does2 (d := d + 0) hfl a0 a1 x2 m1) (fun x5 m4 => ?_)
    refine pm_kI (d := d + 2) rfl (pm_S (y := zX9_deed) (z := zX9_less) (As := [.int x3, .int x5]) zkX9_less tw_1722 tw_1723 dX9_deed_31 rfl rfl (Nat.le_of_ble_eq_true rfl)) (kcX9_less (d := d + 2) hfl x3 x5 m4) (fun x7 m6 => ?_)
    refine pm_drop (ls2 := [pmU, .ref a1, .int x2]) (Nat.le_refl _) (pm_le_spec (pm_le_u (pm_le_v (pm_le_v (pm_le_n))))) ?_
    exact gX9_deed_j34 hfl a1 x2 x7 11 a1 m6
  · refine pm_aload_n dX9_deed_14 rfl rfl ?_
    refine fg_9_13 (y := zX9_deed) (Or.inl tw_1379) dX9_deed_15 (fun x11 => ?_)
    refine pm_goto (tgt := 34) dX9_deed_18 rfl ?_
    refine pm_drop (ls2 := [pmU, .ref a1, .int x2]) (Nat.le_refl _) (pm_le_spec (pm_le_u (pm_le_v (pm_le_v (pm_le_n))))) ?_
    exact gX9_deed_j34 hfl a1 x2 x11 11 a1 m1
-- StruckPageModel.runs([II)Z
def X9_runs_j43 (m : pmM) : pmR := pm_oI 1 m
def X9_runs_L15 (l0 : Nat) (l1 : Nat) (l2 : Int32) (again15 : (Int32 × pmM) → pmR) (s15 : Int32 × pmM) : pmR := if l2 ≤ s15.1 then (X9_runs_j43 s15.2) else (pm_ld 100 l1 11 s15.2 fun x3 => pm_gI 9 l0 13 s15.2 fun x4 => if x4 ≤ x3 then (X9_runs_j43 s15.2) else (pm_rc 9 l0 s15.2 <| pm_cI (X9_deed l0 l1 s15.2) fun x6 m5 => pm_bI (s15.1 + 1) fun x7 => again15 (x7, m5)))
def X9_runs (a0 : Nat) (a1 : Nat) (a2 : Int32) (m : pmM) : pmR := pm_ld 100 a1 11 m fun x1 => pm_gI 9 a0 13 m fun x2 => if x1 < x2 then (pm_lp pm_N (X9_runs_L15 a0 a1 a2) (0, m)) else (pm_oI 0 m)
set_option maxRecDepth 100000 in
set_option maxHeartbeats 4000000 in
theorem gX9_runs_j43 (hfl : l.flags = flags0) (m : pmM) : pm_G l Γ zX9_runs (d + 4) 43 [pmU, pmU, pmU, pmU] [] m (X9_runs_j43 m) := by
  unfold X9_runs_j43
  refine pm_iconst (v := 1) dX9_runs_43 ki_1 ?_
  exact pm_nret (ty := .boolean) (w := 1) rfl (by decide) (by decide) dX9_runs_44
set_option maxRecDepth 100000 in
set_option maxHeartbeats 4000000 in
theorem gX9_runs_L15 (hfl : l.flags = flags0) (l0 : Nat) (l1 : Nat) (l2 : Int32) : ∀ (n : Nat) (s : Int32 × pmM), pm_G l Γ zX9_runs (d + 4) 15 [.ref l0, .ref l1, .int l2, .int s.1] [] s.2 (pm_lp n (X9_runs_L15 l0 l1 l2) s) :=
  pm_loop (lsf := fun s : Int32 × pmM => [.ref l0, .ref l1, .int l2, .int s.1]) (mf := fun s : Int32 × pmM => s.2) (fun again15 hag15 s15 => by
    unfold X9_runs_L15
    refine pm_iload_n dX9_runs_15 rfl rfl ?_
    refine pm_iload_n dX9_runs_16 rfl rfl ?_
    refine pm_icmp_ge (tgt := 43) dX9_runs_17 rfl ?_ ?_
    · refine pm_drop (ls2 := [pmU, pmU, pmU, pmU]) (Nat.le_refl _) (pm_le_spec (pm_le_u (pm_le_u (pm_le_u (pm_le_u (pm_le_n)))))) ?_
      exact gX9_runs_j43 hfl s15.2
    · refine pm_aload_n dX9_runs_20 rfl rfl ?_
      refine pm_bipush (v := 11) dX9_runs_21 kb_11 ?_
      refine pm_iald (y := zX9_runs) dX9_runs_23 (fun x3 => ?_)
      refine pm_aload_n dX9_runs_24 rfl rfl ?_
      refine fg_9_13 (y := zX9_runs) (Or.inl tw_1379) dX9_runs_25 (fun x4 => ?_)
      refine pm_icmp_ge (tgt := 43) dX9_runs_28 rfl ?_ ?_
      · refine pm_drop (ls2 := [pmU, pmU, pmU, pmU]) (Nat.le_refl _) (pm_le_spec (pm_le_u (pm_le_u (pm_le_u (pm_le_u (pm_le_n)))))) ?_
        exact gX9_runs_j43 hfl s15.2
      · refine pm_aload_n dX9_runs_31 rfl rfl ?_
        refine pm_aload_n dX9_runs_32 rfl rfl ?_
        refine pm_rcv (fun hb9 hc9 => ?_)
        refine pm_kI (d := d + 3) rfl (pm_V (y := zX9_runs) (z := zX9_deed) (As := [.ref l1]) zkX9_deed pm_q9 (by decide) tw_1732 tw_1734 tw_134 dX9_runs_33 rfl rfl (Nat.le_of_ble_eq_true rfl) hb9 hc9) (kcX9_deed (d := d + 0) hfl l0 l1 s15.2) (fun x6 m5 => ?_)
        refine pm_pop dX9_runs_36 rfl ?_
        refine pm_iincn (y := zX9_runs) dX9_runs_37 rfl ki_1 rfl (Nat.le_of_ble_eq_true rfl) (fun x7 => ?_)
        refine pm_eqls (ls2 := [.ref l0, .ref l1, .int l2, .int x7]) rfl ?_
        refine pm_goto (tgt := 15) dX9_runs_40 rfl ?_
        exact hag15 (x7, m5))
set_option maxRecDepth 100000 in
set_option maxHeartbeats 4000000 in
theorem kcX9_runs (hfl : l.flags = flags0) (a0 : Nat) (a1 : Nat) (a2 : Int32) (m : pmM) : pm_C l Γ zX9_runs (d + 4) [.ref a0, .ref a1, .int a2] m (X9_runs a0 a1 a2 m) := by
  refine pm_enter (ls := [.ref a0, .ref a1, .int a2, pmU]) hfl (by decide +kernel) rfl (Nat.le_of_ble_eq_true rfl) rfl (Nat.le_of_ble_eq_true rfl) ?_
  unfold X9_runs
  refine pm_aload_n dX9_runs_0 rfl rfl ?_
  refine pm_bipush (v := 11) dX9_runs_1 kb_11 ?_
  refine pm_iald (y := zX9_runs) dX9_runs_3 (fun x1 => ?_)
  refine pm_aload_n dX9_runs_4 rfl rfl ?_
  refine fg_9_13 (y := zX9_runs) (Or.inl tw_1379) dX9_runs_5 (fun x2 => ?_)
  refine pm_icmp_lt (tgt := 13) dX9_runs_8 rfl ?_ ?_
  · refine pm_iconst (v := 0) dX9_runs_13 ki_0 ?_
    refine pm_istore_n (ls2 := [.ref a0, .ref a1, .int a2, .int 0]) dX9_runs_14 rfl rfl (Nat.le_of_ble_eq_true rfl) rfl ?_
    exact gX9_runs_L15 hfl a0 a1 a2 pm_N (0, m)
  · refine pm_iconst (v := 0) dX9_runs_11 ki_0 ?_
    exact pm_nret (ty := .boolean) (w := 0) rfl (by decide) (by decide) dX9_runs_12
-- StruckPageModel.begins([I)Z
def X9_begins_j14 (m : pmM) : pmR := pm_oI 0 m
def X9_begins (a0 : Nat) (a1 : Nat) (m : pmM) : pmR := pm_ld 100 a1 11 m fun x1 => if x1 = 0 then (X9_begins_j14 m) else (pm_gI 9 a0 13 m fun x2 => if x2 = 0 then (X9_begins_j14 m) else (pm_st 100 a1 11 0 m fun m3 => pm_oI 1 m3))
set_option maxRecDepth 100000 in
set_option maxHeartbeats 4000000 in
theorem gX9_begins_j14 (hfl : l.flags = flags0) (m : pmM) : pm_G l Γ zX9_begins (d + 0) 14 [pmU, pmU] [] m (X9_begins_j14 m) := by
  unfold X9_begins_j14
  refine pm_iconst (v := 0) dX9_begins_14 ki_0 ?_
  exact pm_nret (ty := .boolean) (w := 0) rfl (by decide) (by decide) dX9_begins_15
set_option maxRecDepth 100000 in
set_option maxHeartbeats 4000000 in
theorem kcX9_begins (hfl : l.flags = flags0) (a0 : Nat) (a1 : Nat) (m : pmM) : pm_C l Γ zX9_begins (d + 0) [.ref a0, .ref a1] m (X9_begins a0 a1 m) := by
  refine pm_enter (ls := [.ref a0, .ref a1]) hfl (by decide +kernel) rfl (Nat.le_of_ble_eq_true rfl) rfl (Nat.le_of_ble_eq_true rfl) ?_
  unfold X9_begins
  refine pm_aload_n dX9_begins_0 rfl rfl ?_
  refine pm_bipush (v := 11) dX9_begins_1 kb_11 ?_
  refine pm_iald (y := zX9_begins) dX9_begins_3 (fun x1 => ?_)
  refine pm_if_eq (tgt := 14) dX9_begins_4 rfl ?_ ?_
  · refine pm_drop (ls2 := [pmU, pmU]) (Nat.le_refl _) (pm_le_spec (pm_le_u (pm_le_u (pm_le_n)))) ?_
    exact gX9_begins_j14 hfl m
  · refine pm_aload_n dX9_begins_7 rfl rfl ?_
    refine fg_9_13 (y := zX9_begins) (Or.inl tw_1379) dX9_begins_8 (fun x2 => ?_)
    refine pm_if_ne (tgt := 16) dX9_begins_11 rfl ?_ ?_
    · refine pm_aload_n dX9_begins_16 rfl rfl ?_
      refine pm_bipush (v := 11) dX9_begins_17 kb_11 ?_
      refine pm_iconst (v := 0) dX9_begins_19 ki_0 ?_
      refine pm_iast (y := zX9_begins) dX9_begins_20 (fun m3 => ?_)
      refine pm_iconst (v := 1) dX9_begins_21 ki_1 ?_
      exact pm_nret (ty := .boolean) (w := 1) rfl (by decide) (by decide) dX9_begins_22
    · refine pm_drop (ls2 := [pmU, pmU]) (Nat.le_refl _) (pm_le_spec (pm_le_u (pm_le_u (pm_le_n)))) ?_
      exact gX9_begins_j14 hfl m
-- StruckPageModel.wipes([I)Z
def X9_wipes_j26 (again4 : (Int32 × Int32 × pmM) → pmR) (l0 : Nat) (l1 : Nat) (l3 : Int32) (t0 : Int32) (t1 : Int32) (m : pmM) : pmR := pm_bI (t1 ||| t0) fun x3 => pm_st 100 l1 ((0 : Int32) + l3) 0 m fun m4 => pm_bI (l3 + 1) fun x5 => again4 (x3, x5, m4)
def X9_wipes_L4 (l0 : Nat) (l1 : Nat) (again4 : (Int32 × Int32 × pmM) → pmR) (s4 : Int32 × Int32 × pmM) : pmR := pm_gI 9 l0 13 s4.2.2 fun x1 => if x1 ≤ s4.2.1 then (pm_oI (vp_nar .boolean s4.1) s4.2.2) else (pm_ld 100 l1 ((0 : Int32) + s4.2.1) s4.2.2 fun x2 => if x2 = 0 then (X9_wipes_j26 again4 l0 l1 s4.2.1 0 s4.1 s4.2.2) else (X9_wipes_j26 again4 l0 l1 s4.2.1 1 s4.1 s4.2.2))
def X9_wipes (a0 : Nat) (a1 : Nat) (m : pmM) : pmR := pm_lp pm_N (X9_wipes_L4 a0 a1) (0, 0, m)
set_option maxRecDepth 100000 in
set_option maxHeartbeats 4000000 in
theorem gX9_wipes_j26 (hfl : l.flags = flags0) (again4 : (Int32 × Int32 × pmM) → pmR) (l0 : Nat) (l1 : Nat) (l3 : Int32) (t0 : Int32) (t1 : Int32) (m : pmM) (hag4 : ∀ s : Int32 × Int32 × pmM, pm_G l Γ zX9_wipes (d + 0) 4 [.ref l0, .ref l1, .int s.1, .int s.2.1] [] s.2.2 (again4 s)) : pm_G l Γ zX9_wipes (d + 0) 26 [.ref l0, .ref l1, pmU, .int l3] [.int t0, .int t1] m (X9_wipes_j26 again4 l0 l1 l3 t0 t1 m) := by
  unfold X9_wipes_j26
  refine pm_ior dX9_wipes_26 ?_
  refine pm_bIn (fun x3 => ?_)
  refine pm_istore_n (ls2 := [.ref l0, .ref l1, .int x3, .int l3]) dX9_wipes_27 rfl rfl (Nat.le_of_ble_eq_true rfl) rfl ?_
  refine pm_aload_n dX9_wipes_28 rfl rfl ?_
  refine pm_iconst (v := 0) dX9_wipes_29 ki_0 ?_
  refine pm_iload_n dX9_wipes_30 rfl rfl ?_
  refine pm_iadd dX9_wipes_31 ?_
  refine pm_iconst (v := 0) dX9_wipes_32 ki_0 ?_
  refine pm_iast (y := zX9_wipes) dX9_wipes_33 (fun m4 => ?_)
  refine pm_iincn (y := zX9_wipes) dX9_wipes_34 rfl ki_1 rfl (Nat.le_of_ble_eq_true rfl) (fun x5 => ?_)
  refine pm_eqls (ls2 := [.ref l0, .ref l1, .int x3, .int x5]) rfl ?_
  refine pm_goto (tgt := 4) dX9_wipes_37 rfl ?_
  exact hag4 (x3, x5, m4)
set_option maxRecDepth 100000 in
set_option maxHeartbeats 4000000 in
theorem gX9_wipes_L4 (hfl : l.flags = flags0) (l0 : Nat) (l1 : Nat) : ∀ (n : Nat) (s : Int32 × Int32 × pmM), pm_G l Γ zX9_wipes (d + 0) 4 [.ref l0, .ref l1, .int s.1, .int s.2.1] [] s.2.2 (pm_lp n (X9_wipes_L4 l0 l1) s) :=
  pm_loop (lsf := fun s : Int32 × Int32 × pmM => [.ref l0, .ref l1, .int s.1, .int s.2.1]) (mf := fun s : Int32 × Int32 × pmM => s.2.2) (fun again4 hag4 s4 => by
    unfold X9_wipes_L4
    refine pm_iload_n dX9_wipes_4 rfl rfl ?_
    refine pm_aload_n dX9_wipes_5 rfl rfl ?_
    refine fg_9_13 (y := zX9_wipes) (Or.inl tw_1379) dX9_wipes_6 (fun x1 => ?_)
    refine pm_icmp_ge (tgt := 40) dX9_wipes_9 rfl ?_ ?_
    · refine pm_iload_n dX9_wipes_40 rfl rfl ?_
      exact pm_nret (ty := .boolean) (w := vp_nar .boolean s4.1) rfl (by decide) rfl dX9_wipes_41
    · refine pm_iload_n dX9_wipes_12 rfl rfl ?_
      refine pm_aload_n dX9_wipes_13 rfl rfl ?_
      refine pm_iconst (v := 0) dX9_wipes_14 ki_0 ?_
      refine pm_iload_n dX9_wipes_15 rfl rfl ?_
      refine pm_iadd dX9_wipes_16 ?_
      refine pm_iald (y := zX9_wipes) dX9_wipes_17 (fun x2 => ?_)
      refine pm_if_eq (tgt := 25) dX9_wipes_18 rfl ?_ ?_
      · refine pm_iconst (v := 0) dX9_wipes_25 ki_0 ?_
        refine pm_drop (ls2 := [.ref l0, .ref l1, pmU, .int s4.2.1]) (Nat.le_refl _) (pm_le_spec (pm_le_v (pm_le_v (pm_le_u (pm_le_v (pm_le_n)))))) ?_
        exact gX9_wipes_j26 hfl again4 l0 l1 s4.2.1 0 s4.1 s4.2.2 hag4
      · refine pm_iconst (v := 1) dX9_wipes_21 ki_1 ?_
        refine pm_goto (tgt := 26) dX9_wipes_22 rfl ?_
        refine pm_drop (ls2 := [.ref l0, .ref l1, pmU, .int s4.2.1]) (Nat.le_refl _) (pm_le_spec (pm_le_v (pm_le_v (pm_le_u (pm_le_v (pm_le_n)))))) ?_
        exact gX9_wipes_j26 hfl again4 l0 l1 s4.2.1 1 s4.1 s4.2.2 hag4)
set_option maxRecDepth 100000 in
set_option maxHeartbeats 4000000 in
theorem kcX9_wipes (hfl : l.flags = flags0) (a0 : Nat) (a1 : Nat) (m : pmM) : pm_C l Γ zX9_wipes (d + 0) [.ref a0, .ref a1] m (X9_wipes a0 a1 m) := by
  refine pm_enter (ls := [.ref a0, .ref a1, pmU, pmU]) hfl (by decide +kernel) rfl (Nat.le_of_ble_eq_true rfl) rfl (Nat.le_of_ble_eq_true rfl) ?_
  unfold X9_wipes
  refine pm_iconst (v := 0) dX9_wipes_0 ki_0 ?_
  refine pm_istore_n (ls2 := [.ref a0, .ref a1, .int 0, pmU]) dX9_wipes_1 rfl rfl (Nat.le_of_ble_eq_true rfl) rfl ?_
  refine pm_iconst (v := 0) dX9_wipes_2 ki_0 ?_
  refine pm_istore_n (ls2 := [.ref a0, .ref a1, .int 0, .int 0]) dX9_wipes_3 rfl rfl (Nat.le_of_ble_eq_true rfl) rfl ?_
  exact gX9_wipes_L4 hfl a0 a1 pm_N (0, 0, m)
-- StruckPageModel.becomes([III)Z
def X9_becomes (a0 : Nat) (a1 : Int32) (a2 : Int32) (m : pmM) : pmR := pm_ld 100 a0 a1 m fun x1 => if x1 = a2 then (pm_oI 0 m) else (pm_st 100 a0 a1 a2 m fun m2 => pm_oI 1 m2)
set_option maxRecDepth 100000 in
set_option maxHeartbeats 4000000 in
theorem kcX9_becomes (hfl : l.flags = flags0) (a0 : Nat) (a1 : Int32) (a2 : Int32) (m : pmM) : pm_C l Γ zX9_becomes (d + 0) [.ref a0, .int a1, .int a2] m (X9_becomes a0 a1 a2 m) := by
  refine pm_enter (ls := [.ref a0, .int a1, .int a2]) hfl (by decide +kernel) rfl (Nat.le_of_ble_eq_true rfl) rfl (Nat.le_of_ble_eq_true rfl) ?_
  unfold X9_becomes
  refine pm_aload_n dX9_becomes_0 rfl rfl ?_
  refine pm_iload_n dX9_becomes_1 rfl rfl ?_
  refine pm_iald (y := zX9_becomes) dX9_becomes_2 (fun x1 => ?_)
  refine pm_iload_n dX9_becomes_3 rfl rfl ?_
  refine pm_icmp_ne (tgt := 9) dX9_becomes_4 rfl ?_ ?_
  · refine pm_aload_n dX9_becomes_9 rfl rfl ?_
    refine pm_iload_n dX9_becomes_10 rfl rfl ?_
    refine pm_iload_n dX9_becomes_11 rfl rfl ?_
    refine pm_iast (y := zX9_becomes) dX9_becomes_12 (fun m2 => ?_)
    refine pm_iconst (v := 1) dX9_becomes_13 ki_1 ?_
    exact pm_nret (ty := .boolean) (w := 1) rfl (by decide) (by decide) dX9_becomes_14
  · refine pm_iconst (v := 0) dX9_becomes_7 ki_0 ?_
    exact pm_nret (ty := .boolean) (w := 0) rfl (by decide) (by decide) dX9_becomes_8
end GEN19
