section GEN1
variable {l : Launch} {Γ : pmG} {d : Nat}
-- StruckPage$Desk.timesSaid(I)I
def X0_timesSaid_j67 (again4 : (Int32 × Int32 × pmM) → pmR) (again25 : (Int32 × Int32 × pmM) → pmR) (l0 : Nat) (l1 : Int32) (l2 : Int32) (l3 : Int32) (l4 : Int32) (l5 : Int32) (m : pmM) : pmR := pm_bI (l5 + 1) fun x9 => again25 (l2, x9, m)
def X0_timesSaid_L25 (again4 : (Int32 × Int32 × pmM) → pmR) (l0 : Nat) (l1 : Int32) (l3 : Int32) (l4 : Int32) (again25 : (Int32 × Int32 × pmM) → pmR) (s25 : Int32 × Int32 × pmM) : pmR := pm_gR 0 l0 0 s25.2.2 fun r5 => pm_gR 2 r5 0 s25.2.2 fun r6 => pm_ld 100 r6 l3 s25.2.2 fun x7 => if x7 ≤ s25.2.1 then (pm_bI (l3 + 1) fun x8 => again4 (s25.1, x8, s25.2.2)) else (if ((l4 >>> (s25.2.1 &&& 31)) &&& 1) = 1 then (pm_gR 0 l0 0 s25.2.2 fun r10 => pm_rc 2 r10 s25.2.2 <| pm_cI (X2_wordAt r10 l3 s25.2.1 s25.2.2) fun x12 m11 => if x12 = l1 then (pm_bI (s25.1 + 1) fun x13 => X0_timesSaid_j67 again4 again25 l0 l1 x13 l3 l4 s25.2.1 m11) else (X0_timesSaid_j67 again4 again25 l0 l1 s25.1 l3 l4 s25.2.1 m11)) else (X0_timesSaid_j67 again4 again25 l0 l1 s25.1 l3 l4 s25.2.1 s25.2.2))
def X0_timesSaid_L4 (l0 : Nat) (l1 : Int32) (again4 : (Int32 × Int32 × pmM) → pmR) (s4 : Int32 × Int32 × pmM) : pmR := pm_gR 0 l0 0 s4.2.2 fun r1 => pm_gI 2 r1 3 s4.2.2 fun x2 => if x2 ≤ s4.2.1 then (pm_oI s4.1 s4.2.2) else (pm_rc 0 l0 s4.2.2 <| pm_cI (X0_leftBits l0 s4.2.1 s4.2.2) fun x4 m3 => pm_lp pm_N (X0_timesSaid_L25 again4 l0 l1 s4.2.1 x4) (s4.1, 0, m3))
def X0_timesSaid (a0 : Nat) (a1 : Int32) (m : pmM) : pmR := pm_lp pm_N (X0_timesSaid_L4 a0 a1) (0, 0, m)
set_option maxRecDepth 100000 in
set_option maxHeartbeats 4000000 in
theorem gX0_timesSaid_j67 (hfl : l.flags = flags0) (again4 : (Int32 × Int32 × pmM) → pmR) (again25 : (Int32 × Int32 × pmM) → pmR) (l0 : Nat) (l1 : Int32) (l2 : Int32) (l3 : Int32) (l4 : Int32) (l5 : Int32) (m : pmM) (hag4 : ∀ s : Int32 × Int32 × pmM, pm_G l Γ zX0_timesSaid (d + 2) 4 [.ref l0, .int l1, .int s.1, .int s.2.1, pmU, pmU] [] s.2.2 (again4 s)) (hag25 : ∀ s : Int32 × Int32 × pmM, pm_G l Γ zX0_timesSaid (d + 2) 25 [.ref l0, .int l1, .int s.1, .int l3, .int l4, .int s.2.1] [] s.2.2 (again25 s)) : pm_G l Γ zX0_timesSaid (d + 2) 67 [.ref l0, .int l1, .int l2, .int l3, .int l4, .int l5] [] m (X0_timesSaid_j67 again4 again25 l0 l1 l2 l3 l4 l5 m) := by
  unfold X0_timesSaid_j67
  refine pm_iincn (y := zX0_timesSaid) dX0_timesSaid_67 rfl ki_1 rfl (Nat.le_of_ble_eq_true rfl) (fun x9 => ?_)
  refine pm_eqls (ls2 := [.ref l0, .int l1, .int l2, .int l3, .int l4, .int x9]) rfl ?_
  refine pm_goto (tgt := 25) dX0_timesSaid_70 rfl ?_
  exact hag25 (l2, x9, m)
set_option maxRecDepth 100000 in
set_option maxHeartbeats 4000000 in
theorem gX0_timesSaid_L25 (hfl : l.flags = flags0) (again4 : (Int32 × Int32 × pmM) → pmR) (l0 : Nat) (l1 : Int32) (l3 : Int32) (l4 : Int32) (hag4 : ∀ s : Int32 × Int32 × pmM, pm_G l Γ zX0_timesSaid (d + 2) 4 [.ref l0, .int l1, .int s.1, .int s.2.1, pmU, pmU] [] s.2.2 (again4 s)) : ∀ (n : Nat) (s : Int32 × Int32 × pmM), pm_G l Γ zX0_timesSaid (d + 2) 25 [.ref l0, .int l1, .int s.1, .int l3, .int l4, .int s.2.1] [] s.2.2 (pm_lp n (X0_timesSaid_L25 again4 l0 l1 l3 l4) s) :=
  pm_loop (lsf := fun s : Int32 × Int32 × pmM => [.ref l0, .int l1, .int s.1, .int l3, .int l4, .int s.2.1]) (mf := fun s : Int32 × Int32 × pmM => s.2.2) (fun again25 hag25 s25 => by
    unfold X0_timesSaid_L25
    refine pm_iload dX0_timesSaid_25 rfl ?_
    refine pm_aload_n dX0_timesSaid_27 rfl rfl ?_
    refine fg_0_0 (y := zX0_timesSaid) (Or.inl tw_358) dX0_timesSaid_28 (fun r5 => ?_)
    refine fg_2_0 (y := zX0_timesSaid) (Or.inr tw_239) dX0_timesSaid_31 (fun r6 => ?_)
    refine pm_iload_n dX0_timesSaid_34 rfl rfl ?_
    refine pm_iald (y := zX0_timesSaid) dX0_timesSaid_35 (fun x7 => ?_)
    refine pm_icmp_ge (tgt := 73) dX0_timesSaid_36 rfl ?_ ?_
    · refine pm_iincn (y := zX0_timesSaid) dX0_timesSaid_73 rfl ki_1 rfl (Nat.le_of_ble_eq_true rfl) (fun x8 => ?_)
      refine pm_eqls (ls2 := [.ref l0, .int l1, .int s25.1, .int x8, .int l4, .int s25.2.1]) rfl ?_
      refine pm_goto (tgt := 4) dX0_timesSaid_76 rfl ?_
      refine pm_drop (ls2 := [.ref l0, .int l1, .int s25.1, .int x8, pmU, pmU]) (Nat.le_refl _) (pm_le_spec (pm_le_v (pm_le_v (pm_le_v (pm_le_v (pm_le_u (pm_le_u (pm_le_n)))))))) ?_
      exact hag4 (s25.1, x8, s25.2.2)
    · refine pm_iload dX0_timesSaid_39 rfl ?_
      refine pm_iload dX0_timesSaid_41 rfl ?_
      refine pm_ishr dX0_timesSaid_43 ?_
      refine pm_iconst (v := 1) dX0_timesSaid_44 ki_1 ?_
      refine pm_iand dX0_timesSaid_45 ?_
      refine pm_iconst (v := 1) dX0_timesSaid_46 ki_1 ?_
      refine pm_icmp_ne (tgt := 67) dX0_timesSaid_47 rfl ?_ ?_
      · exact gX0_timesSaid_j67 hfl again4 again25 l0 l1 s25.1 l3 l4 s25.2.1 s25.2.2 hag4 hag25
      · refine pm_aload_n dX0_timesSaid_50 rfl rfl ?_
        refine fg_0_0 (y := zX0_timesSaid) (Or.inl tw_358) dX0_timesSaid_51 (fun r10 => ?_)
        refine pm_iload_n dX0_timesSaid_54 rfl rfl ?_
        refine pm_iload dX0_timesSaid_55 rfl ?_
        refine pm_rcv (fun hb9 hc9 => ?_)
        refine pm_kI (d := d + 1) rfl (pm_VN (y := zX0_timesSaid) (z := zX2_wordAt) (As := [.int l3, .int s25.2.1]) zkX2_wordAt pm_q2 (by decide) tw_577 tw_579 tw_13 dX0_timesSaid_57 rfl rfl (Nat.le_of_ble_eq_true rfl) hb9 hc9) (kcX2_wordAt (d := d + 1) hfl r10 l3 s25.2.1 s25.2.2) (fun x12 m11 => ?_)
        refine pm_iload_n dX0_timesSaid_60 rfl rfl ?_
        refine pm_icmp_ne (tgt := 67) dX0_timesSaid_61 rfl ?_ ?_
        · exact gX0_timesSaid_j67 hfl again4 again25 l0 l1 s25.1 l3 l4 s25.2.1 m11 hag4 hag25
        · refine pm_iincn (y := zX0_timesSaid) dX0_timesSaid_64 rfl ki_1 rfl (Nat.le_of_ble_eq_true rfl) (fun x13 => ?_)
          refine pm_eqls (ls2 := [.ref l0, .int l1, .int x13, .int l3, .int l4, .int s25.2.1]) rfl ?_
          exact gX0_timesSaid_j67 hfl again4 again25 l0 l1 x13 l3 l4 s25.2.1 m11 hag4 hag25)
set_option maxRecDepth 100000 in
set_option maxHeartbeats 4000000 in
theorem gX0_timesSaid_L4 (hfl : l.flags = flags0) (l0 : Nat) (l1 : Int32) : ∀ (n : Nat) (s : Int32 × Int32 × pmM), pm_G l Γ zX0_timesSaid (d + 2) 4 [.ref l0, .int l1, .int s.1, .int s.2.1, pmU, pmU] [] s.2.2 (pm_lp n (X0_timesSaid_L4 l0 l1) s) :=
  pm_loop (lsf := fun s : Int32 × Int32 × pmM => [.ref l0, .int l1, .int s.1, .int s.2.1, pmU, pmU]) (mf := fun s : Int32 × Int32 × pmM => s.2.2) (fun again4 hag4 s4 => by
    unfold X0_timesSaid_L4
    refine pm_iload_n dX0_timesSaid_4 rfl rfl ?_
    refine pm_aload_n dX0_timesSaid_5 rfl rfl ?_
    refine fg_0_0 (y := zX0_timesSaid) (Or.inl tw_358) dX0_timesSaid_6 (fun r1 => ?_)
    refine fg_2_3 (y := zX0_timesSaid) (Or.inr tw_247) dX0_timesSaid_9 (fun x2 => ?_)
    refine pm_icmp_ge (tgt := 79) dX0_timesSaid_12 rfl ?_ ?_
    · refine pm_iload_n dX0_timesSaid_79 rfl rfl ?_
      exact pm_iret rfl dX0_timesSaid_80
    · refine pm_aload_n dX0_timesSaid_15 rfl rfl ?_
      refine pm_iload_n dX0_timesSaid_16 rfl rfl ?_
      refine pm_rcv (fun hb9 hc9 => ?_)
      refine pm_kI (d := d + 1) rfl (pm_V (y := zX0_timesSaid) (z := zX0_leftBits) (As := [.int s4.2.1]) zkX0_leftBits pm_q0 (by decide) tw_564 tw_566 tw_10 dX0_timesSaid_17 rfl rfl (Nat.le_of_ble_eq_true rfl) hb9 hc9) (kcX0_leftBits (d := d + 0) hfl l0 s4.2.1 s4.2.2) (fun x4 m3 => ?_)
      refine pm_istore (ls2 := [.ref l0, .int l1, .int s4.1, .int s4.2.1, .int x4, pmU]) dX0_timesSaid_20 rfl (Nat.le_of_ble_eq_true rfl) rfl ?_
      refine pm_iconst (v := 0) dX0_timesSaid_22 ki_0 ?_
      refine pm_istore (ls2 := [.ref l0, .int l1, .int s4.1, .int s4.2.1, .int x4, .int 0]) dX0_timesSaid_23 rfl (Nat.le_of_ble_eq_true rfl) rfl ?_
      exact gX0_timesSaid_L25 hfl again4 l0 l1 s4.2.1 x4 hag4 pm_N (s4.1, 0, m3))
set_option maxRecDepth 100000 in
set_option maxHeartbeats 4000000 in
theorem kcX0_timesSaid (hfl : l.flags = flags0) (a0 : Nat) (a1 : Int32) (m : pmM) : pm_C l Γ zX0_timesSaid (d + 2) [.ref a0, .int a1] m (X0_timesSaid a0 a1 m) := by
  refine pm_enter (ls := [.ref a0, .int a1, pmU, pmU, pmU, pmU]) hfl (by decide +kernel) rfl (Nat.le_of_ble_eq_true rfl) rfl (Nat.le_of_ble_eq_true rfl) ?_
  unfold X0_timesSaid
  refine pm_iconst (v := 0) dX0_timesSaid_0 ki_0 ?_
  refine pm_istore_n (ls2 := [.ref a0, .int a1, .int 0, pmU, pmU, pmU]) dX0_timesSaid_1 rfl rfl (Nat.le_of_ble_eq_true rfl) rfl ?_
  refine pm_iconst (v := 0) dX0_timesSaid_2 ki_0 ?_
  refine pm_istore_n (ls2 := [.ref a0, .int a1, .int 0, .int 0, pmU, pmU]) dX0_timesSaid_3 rfl rfl (Nat.le_of_ble_eq_true rfl) rfl ?_
  exact gX0_timesSaid_L4 hfl a0 a1 pm_N (0, 0, m)
-- StruckPage$Desk.inAllCells()I
def X0_inAllCells_L4 (l0 : Nat) (again4 : (Int32 × Int32 × pmM) → pmR) (s4 : Int32 × Int32 × pmM) : pmR := if (4 : Int32) ≤ s4.2.1 then (pm_oI s4.1 s4.2.2) else (pm_gR 0 l0 3 s4.2.2 fun r1 => pm_ld 100 r1 s4.2.1 s4.2.2 fun x2 => pm_bI (s4.1 + x2) fun x3 => pm_bI (s4.2.1 + 1) fun x4 => again4 (x3, x4, s4.2.2))
def X0_inAllCells (a0 : Nat) (m : pmM) : pmR := pm_lp pm_N (X0_inAllCells_L4 a0) (0, 0, m)
set_option maxRecDepth 100000 in
set_option maxHeartbeats 4000000 in
theorem gX0_inAllCells_L4 (hfl : l.flags = flags0) (l0 : Nat) : ∀ (n : Nat) (s : Int32 × Int32 × pmM), pm_G l Γ zX0_inAllCells (d + 0) 4 [.ref l0, .int s.1, .int s.2.1] [] s.2.2 (pm_lp n (X0_inAllCells_L4 l0) s) :=
  pm_loop (lsf := fun s : Int32 × Int32 × pmM => [.ref l0, .int s.1, .int s.2.1]) (mf := fun s : Int32 × Int32 × pmM => s.2.2) (fun again4 hag4 s4 => by
    unfold X0_inAllCells_L4
    refine pm_iload_n dX0_inAllCells_4 rfl rfl ?_
    refine pm_iconst (v := 4) dX0_inAllCells_5 ki_4 ?_
    refine pm_icmp_ge (tgt := 24) dX0_inAllCells_6 rfl ?_ ?_
    · refine pm_iload_n dX0_inAllCells_24 rfl rfl ?_
      exact pm_iret rfl dX0_inAllCells_25
    · refine pm_iload_n dX0_inAllCells_9 rfl rfl ?_
      refine pm_aload_n dX0_inAllCells_10 rfl rfl ?_
      refine fg_0_3 (y := zX0_inAllCells) (Or.inl tw_362) dX0_inAllCells_11 (fun r1 => ?_)
      refine pm_iload_n dX0_inAllCells_14 rfl rfl ?_
      refine pm_iald (y := zX0_inAllCells) dX0_inAllCells_15 (fun x2 => ?_)
      refine pm_iadd dX0_inAllCells_16 ?_
      refine pm_bIn (fun x3 => ?_)
      refine pm_istore_n (ls2 := [.ref l0, .int x3, .int s4.2.1]) dX0_inAllCells_17 rfl rfl (Nat.le_of_ble_eq_true rfl) rfl ?_
      refine pm_iincn (y := zX0_inAllCells) dX0_inAllCells_18 rfl ki_1 rfl (Nat.le_of_ble_eq_true rfl) (fun x4 => ?_)
      refine pm_eqls (ls2 := [.ref l0, .int x3, .int x4]) rfl ?_
      refine pm_goto (tgt := 4) dX0_inAllCells_21 rfl ?_
      exact hag4 (x3, x4, s4.2.2))
set_option maxRecDepth 100000 in
set_option maxHeartbeats 4000000 in
theorem kcX0_inAllCells (hfl : l.flags = flags0) (a0 : Nat) (m : pmM) : pm_C l Γ zX0_inAllCells (d + 0) [.ref a0] m (X0_inAllCells a0 m) := by
  refine pm_enter (ls := [.ref a0, pmU, pmU]) hfl (by decide +kernel) rfl (Nat.le_of_ble_eq_true rfl) rfl (Nat.le_of_ble_eq_true rfl) ?_
  unfold X0_inAllCells
  refine pm_iconst (v := 0) dX0_inAllCells_0 ki_0 ?_
  refine pm_istore_n (ls2 := [.ref a0, .int 0, pmU]) dX0_inAllCells_1 rfl rfl (Nat.le_of_ble_eq_true rfl) rfl ?_
  refine pm_iconst (v := 0) dX0_inAllCells_2 ki_0 ?_
  refine pm_istore_n (ls2 := [.ref a0, .int 0, .int 0]) dX0_inAllCells_3 rfl rfl (Nat.le_of_ble_eq_true rfl) rfl ?_
  exact gX0_inAllCells_L4 hfl a0 pm_N (0, 0, m)
-- StruckPage$Desk.speaks(LStruckPage$Saying;)Z
def X0_speaks_j101 (again17 : (Int32 × Int32 × pmM) → pmR) (l0 : Nat) (l1 : Nat) (l2 : Int32) (l3 : Int32) (m : pmM) : pmR := pm_bI (l3 + 1) fun x11 => again17 (l2, x11, m)
def X0_speaks_j95 (again17 : (Int32 × Int32 × pmM) → pmR) (again38 : (Int32 × Int32 × pmM) → pmR) (l0 : Nat) (l1 : Nat) (l2 : Int32) (l3 : Int32) (l4 : Int32) (l5 : Int32) (m : pmM) : pmR := pm_bI (l5 + 1) fun x13 => again38 (l2, x13, m)
def X0_speaks_L38 (again17 : (Int32 × Int32 × pmM) → pmR) (l0 : Nat) (l1 : Nat) (l3 : Int32) (l4 : Int32) (again38 : (Int32 × Int32 × pmM) → pmR) (s38 : Int32 × Int32 × pmM) : pmR := pm_gR 0 l0 0 s38.2.2 fun r8 => pm_gR 2 r8 0 s38.2.2 fun r9 => pm_ld 100 r9 l3 s38.2.2 fun x10 => if x10 ≤ s38.2.1 then (X0_speaks_j101 again17 l0 l1 s38.1 l3 s38.2.2) else (pm_gI 3 l1 1 s38.2.2 fun x12 => if x12 ≤ s38.1 then (X0_speaks_j101 again17 l0 l1 s38.1 l3 s38.2.2) else (if ((l4 >>> (s38.2.1 &&& 31)) &&& 1) = 1 then (pm_gR 3 l1 0 s38.2.2 fun r14 => pm_ld 100 r14 s38.1 s38.2.2 fun x15 => pm_gR 0 l0 0 s38.2.2 fun r16 => pm_rc 2 r16 s38.2.2 <| pm_cI (X2_wordAt r16 l3 s38.2.1 s38.2.2) fun x18 m17 => if x15 = x18 then (pm_bI (s38.1 + 1) fun x19 => X0_speaks_j95 again17 again38 l0 l1 x19 l3 l4 s38.2.1 m17) else (pm_oI 0 m17)) else (X0_speaks_j95 again17 again38 l0 l1 s38.1 l3 l4 s38.2.1 s38.2.2)))
def X0_speaks_L17 (l0 : Nat) (l1 : Nat) (again17 : (Int32 × Int32 × pmM) → pmR) (s17 : Int32 × Int32 × pmM) : pmR := pm_gR 0 l0 0 s17.2.2 fun r4 => pm_gI 2 r4 3 s17.2.2 fun x5 => if x5 ≤ s17.2.1 then (pm_oI 1 s17.2.2) else (pm_rc 0 l0 s17.2.2 <| pm_cI (X0_leftBits l0 s17.2.1 s17.2.2) fun x7 m6 => pm_lp pm_N (X0_speaks_L38 again17 l0 l1 s17.2.1 x7) (s17.1, 0, m6))
def X0_speaks (a0 : Nat) (a1 : Nat) (m : pmM) : pmR := pm_rc 0 a0 m <| pm_cI (X0_leftInAll a0 m) fun x2 m1 => pm_gI 3 a1 1 m1 fun x3 => if x2 = x3 then (pm_lp pm_N (X0_speaks_L17 a0 a1) (0, 0, m1)) else (pm_oI 0 m1)
set_option maxRecDepth 100000 in
set_option maxHeartbeats 4000000 in
theorem gX0_speaks_j101 (hfl : l.flags = flags0) (again17 : (Int32 × Int32 × pmM) → pmR) (l0 : Nat) (l1 : Nat) (l2 : Int32) (l3 : Int32) (m : pmM) (hag17 : ∀ s : Int32 × Int32 × pmM, pm_G l Γ zX0_speaks (d + 2) 17 [.ref l0, .ref l1, .int s.1, .int s.2.1, pmU, pmU] [] s.2.2 (again17 s)) : pm_G l Γ zX0_speaks (d + 2) 101 [.ref l0, .ref l1, .int l2, .int l3, pmU, pmU] [] m (X0_speaks_j101 again17 l0 l1 l2 l3 m) := by
  unfold X0_speaks_j101
  refine pm_iincn (y := zX0_speaks) dX0_speaks_101 rfl ki_1 rfl (Nat.le_of_ble_eq_true rfl) (fun x11 => ?_)
  refine pm_eqls (ls2 := [.ref l0, .ref l1, .int l2, .int x11, pmU, pmU]) rfl ?_
  refine pm_goto (tgt := 17) dX0_speaks_104 rfl ?_
  exact hag17 (l2, x11, m)
set_option maxRecDepth 100000 in
set_option maxHeartbeats 4000000 in
theorem gX0_speaks_j95 (hfl : l.flags = flags0) (again17 : (Int32 × Int32 × pmM) → pmR) (again38 : (Int32 × Int32 × pmM) → pmR) (l0 : Nat) (l1 : Nat) (l2 : Int32) (l3 : Int32) (l4 : Int32) (l5 : Int32) (m : pmM) (hag17 : ∀ s : Int32 × Int32 × pmM, pm_G l Γ zX0_speaks (d + 2) 17 [.ref l0, .ref l1, .int s.1, .int s.2.1, pmU, pmU] [] s.2.2 (again17 s)) (hag38 : ∀ s : Int32 × Int32 × pmM, pm_G l Γ zX0_speaks (d + 2) 38 [.ref l0, .ref l1, .int s.1, .int l3, .int l4, .int s.2.1] [] s.2.2 (again38 s)) : pm_G l Γ zX0_speaks (d + 2) 95 [.ref l0, .ref l1, .int l2, .int l3, .int l4, .int l5] [] m (X0_speaks_j95 again17 again38 l0 l1 l2 l3 l4 l5 m) := by
  unfold X0_speaks_j95
  refine pm_iincn (y := zX0_speaks) dX0_speaks_95 rfl ki_1 rfl (Nat.le_of_ble_eq_true rfl) (fun x13 => ?_)
  refine pm_eqls (ls2 := [.ref l0, .ref l1, .int l2, .int l3, .int l4, .int x13]) rfl ?_
  refine pm_goto (tgt := 38) dX0_speaks_98 rfl ?_
  exact hag38 (l2, x13, m)
set_option maxRecDepth 100000 in
set_option maxHeartbeats 4000000 in
theorem gX0_speaks_L38 (hfl : l.flags = flags0) (again17 : (Int32 × Int32 × pmM) → pmR) (l0 : Nat) (l1 : Nat) (l3 : Int32) (l4 : Int32) (hag17 : ∀ s : Int32 × Int32 × pmM, pm_G l Γ zX0_speaks (d + 2) 17 [.ref l0, .ref l1, .int s.1, .int s.2.1, pmU, pmU] [] s.2.2 (again17 s)) : ∀ (n : Nat) (s : Int32 × Int32 × pmM), pm_G l Γ zX0_speaks (d + 2) 38 [.ref l0, .ref l1, .int s.1, .int l3, .int l4, .int s.2.1] [] s.2.2 (pm_lp n (X0_speaks_L38 again17 l0 l1 l3 l4) s) :=
  pm_loop (lsf := fun s : Int32 × Int32 × pmM => [.ref l0, .ref l1, .int s.1, .int l3, .int l4, .int s.2.1]) (mf := fun s : Int32 × Int32 × pmM => s.2.2) (fun again38 hag38 s38 => by
    unfold X0_speaks_L38
    refine pm_iload dX0_speaks_38 rfl ?_
    refine pm_aload_n dX0_speaks_40 rfl rfl ?_
    refine fg_0_0 (y := zX0_speaks) (Or.inl tw_358) dX0_speaks_41 (fun r8 => ?_)
    refine fg_2_0 (y := zX0_speaks) (Or.inr tw_239) dX0_speaks_44 (fun r9 => ?_)
    refine pm_iload_n dX0_speaks_47 rfl rfl ?_
    refine pm_iald (y := zX0_speaks) dX0_speaks_48 (fun x10 => ?_)
    refine pm_icmp_ge (tgt := 101) dX0_speaks_49 rfl ?_ ?_
    · refine pm_drop (ls2 := [.ref l0, .ref l1, .int s38.1, .int l3, pmU, pmU]) (Nat.le_refl _) (pm_le_spec (pm_le_v (pm_le_v (pm_le_v (pm_le_v (pm_le_u (pm_le_u (pm_le_n)))))))) ?_
      exact gX0_speaks_j101 hfl again17 l0 l1 s38.1 l3 s38.2.2 hag17
    · refine pm_iload_n dX0_speaks_52 rfl rfl ?_
      refine pm_aload_n dX0_speaks_53 rfl rfl ?_
      refine fg_3_1 (y := zX0_speaks) (Or.inr tw_306) dX0_speaks_54 (fun x12 => ?_)
      refine pm_icmp_ge (tgt := 101) dX0_speaks_57 rfl ?_ ?_
      · refine pm_drop (ls2 := [.ref l0, .ref l1, .int s38.1, .int l3, pmU, pmU]) (Nat.le_refl _) (pm_le_spec (pm_le_v (pm_le_v (pm_le_v (pm_le_v (pm_le_u (pm_le_u (pm_le_n)))))))) ?_
        exact gX0_speaks_j101 hfl again17 l0 l1 s38.1 l3 s38.2.2 hag17
      · refine pm_iload dX0_speaks_60 rfl ?_
        refine pm_iload dX0_speaks_62 rfl ?_
        refine pm_ishr dX0_speaks_64 ?_
        refine pm_iconst (v := 1) dX0_speaks_65 ki_1 ?_
        refine pm_iand dX0_speaks_66 ?_
        refine pm_iconst (v := 1) dX0_speaks_67 ki_1 ?_
        refine pm_icmp_ne (tgt := 95) dX0_speaks_68 rfl ?_ ?_
        · exact gX0_speaks_j95 hfl again17 again38 l0 l1 s38.1 l3 l4 s38.2.1 s38.2.2 hag17 hag38
        · refine pm_aload_n dX0_speaks_71 rfl rfl ?_
          refine fg_3_0 (y := zX0_speaks) (Or.inr tw_302) dX0_speaks_72 (fun r14 => ?_)
          refine pm_iload_n dX0_speaks_75 rfl rfl ?_
          refine pm_iald (y := zX0_speaks) dX0_speaks_76 (fun x15 => ?_)
          refine pm_aload_n dX0_speaks_77 rfl rfl ?_
          refine fg_0_0 (y := zX0_speaks) (Or.inl tw_358) dX0_speaks_78 (fun r16 => ?_)
          refine pm_iload_n dX0_speaks_81 rfl rfl ?_
          refine pm_iload dX0_speaks_82 rfl ?_
          refine pm_rcv (fun hb9 hc9 => ?_)
          refine pm_kI (d := d + 1) rfl (pm_VN (y := zX0_speaks) (z := zX2_wordAt) (As := [.int l3, .int s38.2.1]) zkX2_wordAt pm_q2 (by decide) tw_577 tw_579 tw_13 dX0_speaks_84 rfl rfl (Nat.le_of_ble_eq_true rfl) hb9 hc9) (kcX2_wordAt (d := d + 1) hfl r16 l3 s38.2.1 s38.2.2) (fun x18 m17 => ?_)
          refine pm_icmp_eq (tgt := 92) dX0_speaks_87 rfl ?_ ?_
          · refine pm_iincn (y := zX0_speaks) dX0_speaks_92 rfl ki_1 rfl (Nat.le_of_ble_eq_true rfl) (fun x19 => ?_)
            refine pm_eqls (ls2 := [.ref l0, .ref l1, .int x19, .int l3, .int l4, .int s38.2.1]) rfl ?_
            exact gX0_speaks_j95 hfl again17 again38 l0 l1 x19 l3 l4 s38.2.1 m17 hag17 hag38
          · refine pm_iconst (v := 0) dX0_speaks_90 ki_0 ?_
            exact pm_nret (ty := .boolean) (w := 0) rfl (by decide) (by decide) dX0_speaks_91)
set_option maxRecDepth 100000 in
set_option maxHeartbeats 4000000 in
theorem gX0_speaks_L17 (hfl : l.flags = flags0) (l0 : Nat) (l1 : Nat) : ∀ (n : Nat) (s : Int32 × Int32 × pmM), pm_G l Γ zX0_speaks (d + 2) 17 [.ref l0, .ref l1, .int s.1, .int s.2.1, pmU, pmU] [] s.2.2 (pm_lp n (X0_speaks_L17 l0 l1) s) :=
  pm_loop (lsf := fun s : Int32 × Int32 × pmM => [.ref l0, .ref l1, .int s.1, .int s.2.1, pmU, pmU]) (mf := fun s : Int32 × Int32 × pmM => s.2.2) (fun again17 hag17 s17 => by
    unfold X0_speaks_L17
    refine pm_iload_n dX0_speaks_17 rfl rfl ?_
    refine pm_aload_n dX0_speaks_18 rfl rfl ?_
    refine fg_0_0 (y := zX0_speaks) (Or.inl tw_358) dX0_speaks_19 (fun r4 => ?_)
    refine fg_2_3 (y := zX0_speaks) (Or.inr tw_247) dX0_speaks_22 (fun x5 => ?_)
    refine pm_icmp_ge (tgt := 107) dX0_speaks_25 rfl ?_ ?_
    · refine pm_iconst (v := 1) dX0_speaks_107 ki_1 ?_
      exact pm_nret (ty := .boolean) (w := 1) rfl (by decide) (by decide) dX0_speaks_108
    · refine pm_aload_n dX0_speaks_28 rfl rfl ?_
      refine pm_iload_n dX0_speaks_29 rfl rfl ?_
      refine pm_rcv (fun hb9 hc9 => ?_)
      refine pm_kI (d := d + 1) rfl (pm_V (y := zX0_speaks) (z := zX0_leftBits) (As := [.int s17.2.1]) zkX0_leftBits pm_q0 (by decide) tw_564 tw_566 tw_10 dX0_speaks_30 rfl rfl (Nat.le_of_ble_eq_true rfl) hb9 hc9) (kcX0_leftBits (d := d + 0) hfl l0 s17.2.1 s17.2.2) (fun x7 m6 => ?_)
      refine pm_istore (ls2 := [.ref l0, .ref l1, .int s17.1, .int s17.2.1, .int x7, pmU]) dX0_speaks_33 rfl (Nat.le_of_ble_eq_true rfl) rfl ?_
      refine pm_iconst (v := 0) dX0_speaks_35 ki_0 ?_
      refine pm_istore (ls2 := [.ref l0, .ref l1, .int s17.1, .int s17.2.1, .int x7, .int 0]) dX0_speaks_36 rfl (Nat.le_of_ble_eq_true rfl) rfl ?_
      exact gX0_speaks_L38 hfl again17 l0 l1 s17.2.1 x7 hag17 pm_N (s17.1, 0, m6))
set_option maxRecDepth 100000 in
set_option maxHeartbeats 4000000 in
theorem kcX0_speaks (hfl : l.flags = flags0) (a0 : Nat) (a1 : Nat) (m : pmM) : pm_C l Γ zX0_speaks (d + 2) [.ref a0, .ref a1] m (X0_speaks a0 a1 m) := by
  refine pm_enter (ls := [.ref a0, .ref a1, pmU, pmU, pmU, pmU]) hfl (by decide +kernel) rfl (Nat.le_of_ble_eq_true rfl) rfl (Nat.le_of_ble_eq_true rfl) ?_
  unfold X0_speaks
  refine pm_aload_n dX0_speaks_0 rfl rfl ?_
  refine pm_rcv (fun hb9 hc9 => ?_)
  refine pm_kI (d := d + 1) rfl (pm_V (y := zX0_speaks) (z := zX0_leftInAll) (As := []) zkX0_leftInAll pm_q0 (by decide) tw_611 tw_613 tw_19 dX0_speaks_1 rfl rfl (Nat.le_of_ble_eq_true rfl) hb9 hc9) (kcX0_leftInAll (d := d + 0) hfl a0 m) (fun x2 m1 => ?_)
  refine pm_aload_n dX0_speaks_4 rfl rfl ?_
  refine fg_3_1 (y := zX0_speaks) (Or.inr tw_306) dX0_speaks_5 (fun x3 => ?_)
  refine pm_icmp_eq (tgt := 13) dX0_speaks_8 rfl ?_ ?_
  · refine pm_iconst (v := 0) dX0_speaks_13 ki_0 ?_
    refine pm_istore_n (ls2 := [.ref a0, .ref a1, .int 0, pmU, pmU, pmU]) dX0_speaks_14 rfl rfl (Nat.le_of_ble_eq_true rfl) rfl ?_
    refine pm_iconst (v := 0) dX0_speaks_15 ki_0 ?_
    refine pm_istore_n (ls2 := [.ref a0, .ref a1, .int 0, .int 0, pmU, pmU]) dX0_speaks_16 rfl rfl (Nat.le_of_ble_eq_true rfl) rfl ?_
    exact gX0_speaks_L17 hfl a0 a1 pm_N (0, 0, m1)
  · refine pm_iconst (v := 0) dX0_speaks_11 ki_0 ?_
    exact pm_nret (ty := .boolean) (w := 0) rfl (by decide) (by decide) dX0_speaks_12
-- StruckPage$Desk.speaksBehind(LStruckPage$Saying;II)Z
def X0_speaksBehind (a0 : Nat) (a1 : Nat) (a2 : Int32) (a3 : Int32) (m : pmM) : pmR := pm_gR 0 a0 2 m fun r1 => pm_ld 100 r1 a2 m fun x2 => pm_st 100 r1 a2 (x2 ^^^ a3) m fun m3 => pm_rc 0 a0 m3 <| pm_cI (X0_speaks a0 a1 m3) fun x5 m4 => pm_gR 0 a0 2 m4 fun r6 => pm_ld 100 r6 a2 m4 fun x7 => pm_st 100 r6 a2 (x7 ^^^ a3) m4 fun m8 => pm_oI (vp_nar .boolean x5) m8
set_option maxRecDepth 100000 in
set_option maxHeartbeats 4000000 in
theorem kcX0_speaksBehind (hfl : l.flags = flags0) (a0 : Nat) (a1 : Nat) (a2 : Int32) (a3 : Int32) (m : pmM) : pm_C l Γ zX0_speaksBehind (d + 3) [.ref a0, .ref a1, .int a2, .int a3] m (X0_speaksBehind a0 a1 a2 a3 m) := by
  refine pm_enter (ls := [.ref a0, .ref a1, .int a2, .int a3, pmU]) hfl (by decide +kernel) rfl (Nat.le_of_ble_eq_true rfl) rfl (Nat.le_of_ble_eq_true rfl) ?_
  unfold X0_speaksBehind
  refine pm_aload_n dX0_speaksBehind_0 rfl rfl ?_
  refine fg_0_2 (y := zX0_speaksBehind) (Or.inl tw_360) dX0_speaksBehind_1 (fun r1 => ?_)
  refine pm_iload_n dX0_speaksBehind_4 rfl rfl ?_
  refine pm_dup2 dX0_speaksBehind_5 rfl rfl ?_
  refine pm_iald (y := zX0_speaksBehind) dX0_speaksBehind_6 (fun x2 => ?_)
  refine pm_iload_n dX0_speaksBehind_7 rfl rfl ?_
  refine pm_ixor dX0_speaksBehind_8 ?_
  refine pm_iast (y := zX0_speaksBehind) dX0_speaksBehind_9 (fun m3 => ?_)
  refine pm_aload_n dX0_speaksBehind_10 rfl rfl ?_
  refine pm_aload_n dX0_speaksBehind_11 rfl rfl ?_
  refine pm_rcv (fun hb9 hc9 => ?_)
  refine pm_kI (d := d + 2) rfl (pm_V (y := zX0_speaksBehind) (z := zX0_speaks) (As := [.ref a1]) zkX0_speaks pm_q0 (by decide) tw_1205 tw_609 tw_18 dX0_speaksBehind_12 rfl rfl (Nat.le_of_ble_eq_true rfl) hb9 hc9) (kcX0_speaks (d := d + 0) hfl a0 a1 m3) (fun x5 m4 => ?_)
  refine pm_istore (ls2 := [.ref a0, .ref a1, .int a2, .int a3, .int x5]) dX0_speaksBehind_15 rfl (Nat.le_of_ble_eq_true rfl) rfl ?_
  refine pm_aload_n dX0_speaksBehind_17 rfl rfl ?_
  refine fg_0_2 (y := zX0_speaksBehind) (Or.inl tw_360) dX0_speaksBehind_18 (fun r6 => ?_)
  refine pm_iload_n dX0_speaksBehind_21 rfl rfl ?_
  refine pm_dup2 dX0_speaksBehind_22 rfl rfl ?_
  refine pm_iald (y := zX0_speaksBehind) dX0_speaksBehind_23 (fun x7 => ?_)
  refine pm_iload_n dX0_speaksBehind_24 rfl rfl ?_
  refine pm_ixor dX0_speaksBehind_25 ?_
  refine pm_iast (y := zX0_speaksBehind) dX0_speaksBehind_26 (fun m8 => ?_)
  refine pm_iload dX0_speaksBehind_27 rfl ?_
  exact pm_nret (ty := .boolean) (w := vp_nar .boolean x5) rfl (by decide) rfl dX0_speaksBehind_29
-- StruckPage.bitsOf(II)I
def X8_bitsOf (a0 : Int32) (a1 : Int32) (m : pmM) : pmR := pm_oI ((((1 : Int32) <<< (((a1 - a0) + 1) &&& 31)) - 1) <<< (a0 &&& 31)) m
set_option maxRecDepth 100000 in
set_option maxHeartbeats 4000000 in
theorem kcX8_bitsOf (hfl : l.flags = flags0) (a0 : Int32) (a1 : Int32) (m : pmM) : pm_C l Γ zX8_bitsOf (d + 0) [.int a0, .int a1] m (X8_bitsOf a0 a1 m) := by
  refine pm_enter (ls := [.int a0, .int a1]) hfl (by decide +kernel) rfl (Nat.le_of_ble_eq_true rfl) rfl (Nat.le_of_ble_eq_true rfl) ?_
  unfold X8_bitsOf
  refine pm_iconst (v := 1) dX8_bitsOf_0 ki_1 ?_
  refine pm_iload_n dX8_bitsOf_1 rfl rfl ?_
  refine pm_iload_n dX8_bitsOf_2 rfl rfl ?_
  refine pm_isub dX8_bitsOf_3 ?_
  refine pm_iconst (v := 1) dX8_bitsOf_4 ki_1 ?_
  refine pm_iadd dX8_bitsOf_5 ?_
  refine pm_ishl dX8_bitsOf_6 ?_
  refine pm_iconst (v := 1) dX8_bitsOf_7 ki_1 ?_
  refine pm_isub dX8_bitsOf_8 ?_
  refine pm_iload_n dX8_bitsOf_9 rfl rfl ?_
  refine pm_ishl dX8_bitsOf_10 ?_
  exact pm_iret rfl dX8_bitsOf_11
-- StruckPage$Law.joined(III)I
def X1_joined_j75 (t0 : Int32) (m : pmM) : pmR := pm_oI t0 m
def X1_joined_j63 (t0 : Int32) (m : pmM) : pmR := pm_oI t0 m
def X1_joined (a0 : Int32) (a1 : Int32) (a2 : Int32) (m : pmM) : pmR := if a0 = (-13 : Int32) then (pm_oI (if a2 < a1 then a2 else a1) m) else if a0 = (-12 : Int32) then (if a2 = 0 then (X1_joined_j75 0 m) else (if a2 = 0 then none else X1_joined_j75 (a1 - a1 / a2 * a2) m)) else if a0 = (-11 : Int32) then (if a2 = 0 then (X1_joined_j63 0 m) else (if a2 = 0 then none else X1_joined_j63 (a1 / a2) m)) else if a0 = (-10 : Int32) then (pm_oI (a1 * a2) m) else if a0 = (-9 : Int32) then (pm_oI (a1 - a2) m) else if a0 = (-8 : Int32) then (pm_oI (a1 + a2) m) else (pm_oI (if a1 < a2 then a2 else a1) m)
set_option maxRecDepth 100000 in
set_option maxHeartbeats 4000000 in
theorem gX1_joined_j75 (hfl : l.flags = flags0) (t0 : Int32) (m : pmM) : pm_G l Γ zX1_joined (d + 0) 75 [pmU, pmU, pmU] [.int t0] m (X1_joined_j75 t0 m) := by
  unfold X1_joined_j75
  exact pm_iret rfl dX1_joined_75
set_option maxRecDepth 100000 in
set_option maxHeartbeats 4000000 in
theorem gX1_joined_j63 (hfl : l.flags = flags0) (t0 : Int32) (m : pmM) : pm_G l Γ zX1_joined (d + 0) 63 [pmU, pmU, pmU] [.int t0] m (X1_joined_j63 t0 m) := by
  unfold X1_joined_j63
  exact pm_iret rfl dX1_joined_63
set_option maxRecDepth 100000 in
set_option maxHeartbeats 4000000 in
theorem kcX1_joined (hfl : l.flags = flags0) (a0 : Int32) (a1 : Int32) (a2 : Int32) (m : pmM) : pm_C l Γ zX1_joined (d + 0) [.int a0, .int a1, .int a2] m (X1_joined a0 a1 a2 m) := by
  refine pm_enter (ls := [.int a0, .int a1, .int a2]) hfl (by decide +kernel) rfl (Nat.le_of_ble_eq_true rfl) rfl (Nat.le_of_ble_eq_true rfl) ?_
  unfold X1_joined
  refine pm_iload_n dX1_joined_0 rfl rfl ?_
  refine pm_case (c := (-13 : Int32)) (fun h9 => ?_) (fun h9_0 => ?_)
  · refine pm_swIn (off := (75)) (tgt := 76) dX1_joined_1 (by rw [h9]; decide) (by rw [h9]; decide) (by rw [h9]; decide) (by decide) ?_
    refine pm_iload_n dX1_joined_76 rfl rfl ?_
    refine pm_iload_n dX1_joined_77 rfl rfl ?_
    refine pm_min (y := zX1_joined) tw_1019 tw_590 tw_171 tw_591 dX1_joined_78 (Nat.le_of_ble_eq_true rfl) ?_
    exact pm_iret rfl dX1_joined_81
  refine pm_case (c := (-12 : Int32)) (fun h9 => ?_) (fun h9_1 => ?_)
  · refine pm_swIn (off := (63)) (tgt := 64) dX1_joined_1 (by rw [h9]; decide) (by rw [h9]; decide) (by rw [h9]; decide) (by decide) ?_
    refine pm_iload_n dX1_joined_64 rfl rfl ?_
    refine pm_if_ne (tgt := 72) dX1_joined_65 rfl ?_ ?_
    · refine pm_iload_n dX1_joined_72 rfl rfl ?_
      refine pm_iload_n dX1_joined_73 rfl rfl ?_
      refine pm_irem dX1_joined_74 ?_
      refine pm_drop (ls2 := [pmU, pmU, pmU]) (Nat.le_refl _) (pm_le_spec (pm_le_u (pm_le_u (pm_le_u (pm_le_n))))) ?_
      exact gX1_joined_j75 hfl (a1 - a1 / a2 * a2) m
    · refine pm_iconst (v := 0) dX1_joined_68 ki_0 ?_
      refine pm_goto (tgt := 75) dX1_joined_69 rfl ?_
      refine pm_drop (ls2 := [pmU, pmU, pmU]) (Nat.le_refl _) (pm_le_spec (pm_le_u (pm_le_u (pm_le_u (pm_le_n))))) ?_
      exact gX1_joined_j75 hfl 0 m
  refine pm_case (c := (-11 : Int32)) (fun h9 => ?_) (fun h9_2 => ?_)
  · refine pm_swIn (off := (51)) (tgt := 52) dX1_joined_1 (by rw [h9]; decide) (by rw [h9]; decide) (by rw [h9]; decide) (by decide) ?_
    refine pm_iload_n dX1_joined_52 rfl rfl ?_
    refine pm_if_ne (tgt := 60) dX1_joined_53 rfl ?_ ?_
    · refine pm_iload_n dX1_joined_60 rfl rfl ?_
      refine pm_iload_n dX1_joined_61 rfl rfl ?_
      refine pm_idiv dX1_joined_62 ?_
      refine pm_drop (ls2 := [pmU, pmU, pmU]) (Nat.le_refl _) (pm_le_spec (pm_le_u (pm_le_u (pm_le_u (pm_le_n))))) ?_
      exact gX1_joined_j63 hfl (a1 / a2) m
    · refine pm_iconst (v := 0) dX1_joined_56 ki_0 ?_
      refine pm_goto (tgt := 63) dX1_joined_57 rfl ?_
      refine pm_drop (ls2 := [pmU, pmU, pmU]) (Nat.le_refl _) (pm_le_spec (pm_le_u (pm_le_u (pm_le_u (pm_le_n))))) ?_
      exact gX1_joined_j63 hfl 0 m
  refine pm_case (c := (-10 : Int32)) (fun h9 => ?_) (fun h9_3 => ?_)
  · refine pm_swIn (off := (47)) (tgt := 48) dX1_joined_1 (by rw [h9]; decide) (by rw [h9]; decide) (by rw [h9]; decide) (by decide) ?_
    refine pm_iload_n dX1_joined_48 rfl rfl ?_
    refine pm_iload_n dX1_joined_49 rfl rfl ?_
    refine pm_imul dX1_joined_50 ?_
    exact pm_iret rfl dX1_joined_51
  refine pm_case (c := (-9 : Int32)) (fun h9 => ?_) (fun h9_4 => ?_)
  · refine pm_swIn (off := (43)) (tgt := 44) dX1_joined_1 (by rw [h9]; decide) (by rw [h9]; decide) (by rw [h9]; decide) (by decide) ?_
    refine pm_iload_n dX1_joined_44 rfl rfl ?_
    refine pm_iload_n dX1_joined_45 rfl rfl ?_
    refine pm_isub dX1_joined_46 ?_
    exact pm_iret rfl dX1_joined_47
  refine pm_case (c := (-8 : Int32)) (fun h9 => ?_) (fun h9_5 => ?_)
  · refine pm_swIn (off := (39)) (tgt := 40) dX1_joined_1 (by rw [h9]; decide) (by rw [h9]; decide) (by rw [h9]; decide) (by decide) ?_
    refine pm_iload_n dX1_joined_40 rfl rfl ?_
    refine pm_iload_n dX1_joined_41 rfl rfl ?_
    refine pm_iadd dX1_joined_42 ?_
    exact pm_iret rfl dX1_joined_43
  refine pm_swOut (tgt := 82) dX1_joined_1 (pm_swx a0 (-13) 6 (lt_s (lt_s (lt_s (lt_s (lt_s (lt_s (lt_0) (pm_ne h9_0 (by decide))) (pm_ne h9_1 (by decide))) (pm_ne h9_2 (by decide))) (pm_ne h9_3 (by decide))) (pm_ne h9_4 (by decide))) (pm_ne h9_5 (by decide)))) (by decide) ?_
  refine pm_iload_n dX1_joined_82 rfl rfl ?_
  refine pm_iload_n dX1_joined_83 rfl rfl ?_
  refine pm_max (y := zX1_joined) tw_1020 tw_593 tw_171 tw_594 dX1_joined_84 (Nat.le_of_ble_eq_true rfl) ?_
  exact pm_iret rfl dX1_joined_87
-- StruckPage$Law.priceFor(IIIIIII)I
def X1_priceFor_j170 (again60 : (Int32 × Int32 × pmM) → pmR) (l0 : Nat) (l8 : Int32) (l9 : Int32) (m : pmM) : pmR := pm_bI (l9 + 1) fun x20 => again60 (l8, x20, m)
def X1_priceFor_j166 (again60 : (Int32 × Int32 × pmM) → pmR) (l0 : Nat) (l8 : Int32) (l9 : Int32) (t0 : Int32) (t1 : Int32) (t2 : Nat) (m : pmM) : pmR := pm_st 100 t2 t1 t0 m fun m24 => pm_bI (l8 + 1) fun x25 => X1_priceFor_j170 again60 l0 x25 l9 m24
def X1_priceFor_j127 (again60 : (Int32 × Int32 × pmM) → pmR) (l0 : Nat) (l8 : Int32) (l9 : Int32) (l10 : Int32) (m : pmM) : pmR := if l10 < (-7) then (X1_priceFor_j170 again60 l0 l8 l9 m) else (if (22 : Int32) ≤ l8 then (X1_priceFor_j170 again60 l0 l8 l9 m) else (pm_gR 1 l0 1 m fun r21 => if l10 < 0 then (pm_gR 1 l0 2 m fun r22 => pm_ld 100 r22 ((-1 : Int32) - l10) m fun x23 => X1_priceFor_j166 again60 l0 l8 l9 x23 l8 r21 m) else (X1_priceFor_j166 again60 l0 l8 l9 l10 l8 r21 m)))
def X1_priceFor_L60 (l0 : Nat) (again60 : (Int32 × Int32 × pmM) → pmR) (s60 : Int32 × Int32 × pmM) : pmR := pm_gI 1 l0 3 s60.2.2 fun x15 => if x15 ≤ s60.2.1 then (pm_gR 1 l0 1 s60.2.2 fun r16 => pm_ld 100 r16 0 s60.2.2 fun x17 => pm_oI (if (0 : Int32) < (if x17 < 60 then x17 else 60) then (if x17 < 60 then x17 else 60) else 0) s60.2.2) else (pm_gR 1 l0 0 s60.2.2 fun r18 => pm_ld 100 r18 s60.2.1 s60.2.2 fun x19 => if (-7 : Int32) ≤ x19 then (X1_priceFor_j127 again60 l0 s60.1 s60.2.1 x19 s60.2.2) else (if s60.1 < 2 then (X1_priceFor_j127 again60 l0 s60.1 s60.2.1 x19 s60.2.2) else (pm_bI (s60.1 + (-1)) fun x26 => pm_gR 1 l0 1 s60.2.2 fun r27 => pm_gR 1 l0 1 s60.2.2 fun r28 => pm_ld 100 r28 (x26 - 1) s60.2.2 fun x29 => pm_gR 1 l0 1 s60.2.2 fun r30 => pm_ld 100 r30 x26 s60.2.2 fun x31 => pm_cI (X1_joined x19 x29 x31 s60.2.2) fun x33 m32 => pm_st 100 r27 (x26 - 1) x33 m32 fun m34 => X1_priceFor_j170 again60 l0 x26 s60.2.1 m34)))
def X1_priceFor (a0 : Nat) (a1 : Int32) (a2 : Int32) (a3 : Int32) (a4 : Int32) (a5 : Int32) (a6 : Int32) (a7 : Int32) (m : pmM) : pmR := pm_gR 1 a0 2 m fun r1 => pm_st 100 r1 0 a1 m fun m2 => pm_gR 1 a0 2 m2 fun r3 => pm_st 100 r3 1 a2 m2 fun m4 => pm_gR 1 a0 2 m4 fun r5 => pm_st 100 r5 2 a3 m4 fun m6 => pm_gR 1 a0 2 m6 fun r7 => pm_st 100 r7 3 a4 m6 fun m8 => pm_gR 1 a0 2 m8 fun r9 => pm_st 100 r9 4 a5 m8 fun m10 => pm_gR 1 a0 2 m10 fun r11 => pm_st 100 r11 5 a6 m10 fun m12 => pm_gR 1 a0 2 m12 fun r13 => pm_st 100 r13 6 a7 m12 fun m14 => pm_lp pm_N (X1_priceFor_L60 a0) (0, 0, m14)
set_option maxRecDepth 100000 in
set_option maxHeartbeats 4000000 in
theorem gX1_priceFor_j170 (hfl : l.flags = flags0) (again60 : (Int32 × Int32 × pmM) → pmR) (l0 : Nat) (l8 : Int32) (l9 : Int32) (m : pmM) (hag60 : ∀ s : Int32 × Int32 × pmM, pm_G l Γ zX1_priceFor (d + 1) 60 [.ref l0, pmU, pmU, pmU, pmU, pmU, pmU, pmU, .int s.1, .int s.2.1, pmU] [] s.2.2 (again60 s)) : pm_G l Γ zX1_priceFor (d + 1) 170 [.ref l0, pmU, pmU, pmU, pmU, pmU, pmU, pmU, .int l8, .int l9, pmU] [] m (X1_priceFor_j170 again60 l0 l8 l9 m) := by
  unfold X1_priceFor_j170
  refine pm_iincn (y := zX1_priceFor) dX1_priceFor_170 rfl ki_1 rfl (Nat.le_of_ble_eq_true rfl) (fun x20 => ?_)
  refine pm_eqls (ls2 := [.ref l0, pmU, pmU, pmU, pmU, pmU, pmU, pmU, .int l8, .int x20, pmU]) rfl ?_
  refine pm_goto (tgt := 60) dX1_priceFor_173 rfl ?_
  exact hag60 (l8, x20, m)
set_option maxRecDepth 100000 in
set_option maxHeartbeats 4000000 in
theorem gX1_priceFor_j166 (hfl : l.flags = flags0) (again60 : (Int32 × Int32 × pmM) → pmR) (l0 : Nat) (l8 : Int32) (l9 : Int32) (t0 : Int32) (t1 : Int32) (t2 : Nat) (m : pmM) (hag60 : ∀ s : Int32 × Int32 × pmM, pm_G l Γ zX1_priceFor (d + 1) 60 [.ref l0, pmU, pmU, pmU, pmU, pmU, pmU, pmU, .int s.1, .int s.2.1, pmU] [] s.2.2 (again60 s)) : pm_G l Γ zX1_priceFor (d + 1) 166 [.ref l0, pmU, pmU, pmU, pmU, pmU, pmU, pmU, .int l8, .int l9, pmU] [.int t0, .int t1, .ref t2] m (X1_priceFor_j166 again60 l0 l8 l9 t0 t1 t2 m) := by
  unfold X1_priceFor_j166
  refine pm_iast (y := zX1_priceFor) dX1_priceFor_166 (fun m24 => ?_)
  refine pm_iincn (y := zX1_priceFor) dX1_priceFor_167 rfl ki_1 rfl (Nat.le_of_ble_eq_true rfl) (fun x25 => ?_)
  refine pm_eqls (ls2 := [.ref l0, pmU, pmU, pmU, pmU, pmU, pmU, pmU, .int x25, .int l9, pmU]) rfl ?_
  exact gX1_priceFor_j170 hfl again60 l0 x25 l9 m24 hag60
set_option maxRecDepth 100000 in
set_option maxHeartbeats 4000000 in
theorem gX1_priceFor_j127 (hfl : l.flags = flags0) (again60 : (Int32 × Int32 × pmM) → pmR) (l0 : Nat) (l8 : Int32) (l9 : Int32) (l10 : Int32) (m : pmM) (hag60 : ∀ s : Int32 × Int32 × pmM, pm_G l Γ zX1_priceFor (d + 1) 60 [.ref l0, pmU, pmU, pmU, pmU, pmU, pmU, pmU, .int s.1, .int s.2.1, pmU] [] s.2.2 (again60 s)) : pm_G l Γ zX1_priceFor (d + 1) 127 [.ref l0, pmU, pmU, pmU, pmU, pmU, pmU, pmU, .int l8, .int l9, .int l10] [] m (X1_priceFor_j127 again60 l0 l8 l9 l10 m) := by
  unfold X1_priceFor_j127
  refine pm_iload dX1_priceFor_127 rfl ?_
  refine pm_bipush (v := (-7)) dX1_priceFor_129 kb_n7 ?_
  refine pm_icmp_lt (tgt := 170) dX1_priceFor_131 rfl ?_ ?_
  · refine pm_drop (ls2 := [.ref l0, pmU, pmU, pmU, pmU, pmU, pmU, pmU, .int l8, .int l9, pmU]) (Nat.le_refl _) (pm_le_spec (pm_le_v (pm_le_u (pm_le_u (pm_le_u (pm_le_u (pm_le_u (pm_le_u (pm_le_u (pm_le_v (pm_le_v (pm_le_u (pm_le_n))))))))))))) ?_
    exact gX1_priceFor_j170 hfl again60 l0 l8 l9 m hag60
  · refine pm_iload dX1_priceFor_134 rfl ?_
    refine pm_bipush (v := 22) dX1_priceFor_136 kb_22 ?_
    refine pm_icmp_ge (tgt := 170) dX1_priceFor_138 rfl ?_ ?_
    · refine pm_drop (ls2 := [.ref l0, pmU, pmU, pmU, pmU, pmU, pmU, pmU, .int l8, .int l9, pmU]) (Nat.le_refl _) (pm_le_spec (pm_le_v (pm_le_u (pm_le_u (pm_le_u (pm_le_u (pm_le_u (pm_le_u (pm_le_u (pm_le_v (pm_le_v (pm_le_u (pm_le_n))))))))))))) ?_
      exact gX1_priceFor_j170 hfl again60 l0 l8 l9 m hag60
    · refine pm_aload_n dX1_priceFor_141 rfl rfl ?_
      refine fg_1_1 (y := zX1_priceFor) (Or.inl tw_282) dX1_priceFor_142 (fun r21 => ?_)
      refine pm_iload dX1_priceFor_145 rfl ?_
      refine pm_iload dX1_priceFor_147 rfl ?_
      refine pm_if_lt (tgt := 157) dX1_priceFor_149 rfl ?_ ?_
      · refine pm_aload_n dX1_priceFor_157 rfl rfl ?_
        refine fg_1_2 (y := zX1_priceFor) (Or.inl tw_283) dX1_priceFor_158 (fun r22 => ?_)
        refine pm_iconst (v := (-1)) dX1_priceFor_161 ki_n1 ?_
        refine pm_iload dX1_priceFor_162 rfl ?_
        refine pm_isub dX1_priceFor_164 ?_
        refine pm_iald (y := zX1_priceFor) dX1_priceFor_165 (fun x23 => ?_)
        refine pm_drop (ls2 := [.ref l0, pmU, pmU, pmU, pmU, pmU, pmU, pmU, .int l8, .int l9, pmU]) (Nat.le_refl _) (pm_le_spec (pm_le_v (pm_le_u (pm_le_u (pm_le_u (pm_le_u (pm_le_u (pm_le_u (pm_le_u (pm_le_v (pm_le_v (pm_le_u (pm_le_n))))))))))))) ?_
        exact gX1_priceFor_j166 hfl again60 l0 l8 l9 x23 l8 r21 m hag60
      · refine pm_iload dX1_priceFor_152 rfl ?_
        refine pm_goto (tgt := 166) dX1_priceFor_154 rfl ?_
        refine pm_drop (ls2 := [.ref l0, pmU, pmU, pmU, pmU, pmU, pmU, pmU, .int l8, .int l9, pmU]) (Nat.le_refl _) (pm_le_spec (pm_le_v (pm_le_u (pm_le_u (pm_le_u (pm_le_u (pm_le_u (pm_le_u (pm_le_u (pm_le_v (pm_le_v (pm_le_u (pm_le_n))))))))))))) ?_
        exact gX1_priceFor_j166 hfl again60 l0 l8 l9 l10 l8 r21 m hag60
set_option maxRecDepth 100000 in
set_option maxHeartbeats 4000000 in
theorem gX1_priceFor_L60 (hfl : l.flags = flags0) (l0 : Nat) : ∀ (n : Nat) (s : Int32 × Int32 × pmM), pm_G l Γ zX1_priceFor (d + 1) 60 [.ref l0, pmU, pmU, pmU, pmU, pmU, pmU, pmU, .int s.1, .int s.2.1, pmU] [] s.2.2 (pm_lp n (X1_priceFor_L60 l0) s) :=
  pm_loop (lsf := fun s : Int32 × Int32 × pmM => [.ref l0, pmU, pmU, pmU, pmU, pmU, pmU, pmU, .int s.1, .int s.2.1, pmU]) (mf := fun s : Int32 × Int32 × pmM => s.2.2) (fun again60 hag60 s60 => by
    unfold X1_priceFor_L60
    refine pm_iload dX1_priceFor_60 rfl ?_
    refine pm_aload_n dX1_priceFor_62 rfl rfl ?_
    refine fg_1_3 (y := zX1_priceFor) (Or.inl tw_284) dX1_priceFor_63 (fun x15 => ?_)
    refine pm_icmp_ge (tgt := 176) dX1_priceFor_66 rfl ?_ ?_
    · refine pm_iconst (v := 0) dX1_priceFor_176 ki_0 ?_
      refine pm_bipush (v := 60) dX1_priceFor_177 kb_60 ?_
      refine pm_aload_n dX1_priceFor_179 rfl rfl ?_
      refine fg_1_1 (y := zX1_priceFor) (Or.inl tw_282) dX1_priceFor_180 (fun r16 => ?_)
      refine pm_iconst (v := 0) dX1_priceFor_183 ki_0 ?_
      refine pm_iald (y := zX1_priceFor) dX1_priceFor_184 (fun x17 => ?_)
      refine pm_min (y := zX1_priceFor) tw_1019 tw_590 tw_171 tw_591 dX1_priceFor_185 (Nat.le_of_ble_eq_true rfl) ?_
      refine pm_max (y := zX1_priceFor) tw_1020 tw_593 tw_171 tw_594 dX1_priceFor_188 (Nat.le_of_ble_eq_true rfl) ?_
      exact pm_iret rfl dX1_priceFor_191
    · refine pm_aload_n dX1_priceFor_69 rfl rfl ?_
      refine fg_1_0 (y := zX1_priceFor) (Or.inl tw_281) dX1_priceFor_70 (fun r18 => ?_)
      refine pm_iload dX1_priceFor_73 rfl ?_
      refine pm_iald (y := zX1_priceFor) dX1_priceFor_75 (fun x19 => ?_)
      refine pm_istore (ls2 := [.ref l0, pmU, pmU, pmU, pmU, pmU, pmU, pmU, .int s60.1, .int s60.2.1, .int x19]) dX1_priceFor_76 rfl (Nat.le_of_ble_eq_true rfl) rfl ?_
      refine pm_iload dX1_priceFor_78 rfl ?_
      refine pm_bipush (v := (-7)) dX1_priceFor_80 kb_n7 ?_
      refine pm_icmp_ge (tgt := 127) dX1_priceFor_82 rfl ?_ ?_
      · exact gX1_priceFor_j127 hfl again60 l0 s60.1 s60.2.1 x19 s60.2.2 hag60
      · refine pm_iload dX1_priceFor_85 rfl ?_
        refine pm_iconst (v := 2) dX1_priceFor_87 ki_2 ?_
        refine pm_icmp_lt (tgt := 127) dX1_priceFor_88 rfl ?_ ?_
        · exact gX1_priceFor_j127 hfl again60 l0 s60.1 s60.2.1 x19 s60.2.2 hag60
        · refine pm_iincn (y := zX1_priceFor) dX1_priceFor_91 rfl ki_n1 rfl (Nat.le_of_ble_eq_true rfl) (fun x26 => ?_)
          refine pm_eqls (ls2 := [.ref l0, pmU, pmU, pmU, pmU, pmU, pmU, pmU, .int x26, .int s60.2.1, .int x19]) rfl ?_
          refine pm_aload_n dX1_priceFor_94 rfl rfl ?_
          refine fg_1_1 (y := zX1_priceFor) (Or.inl tw_282) dX1_priceFor_95 (fun r27 => ?_)
          refine pm_iload dX1_priceFor_98 rfl ?_
          refine pm_iconst (v := 1) dX1_priceFor_100 ki_1 ?_
          refine pm_isub dX1_priceFor_101 ?_
          refine pm_iload dX1_priceFor_102 rfl ?_
          refine pm_aload_n dX1_priceFor_104 rfl rfl ?_
          refine fg_1_1 (y := zX1_priceFor) (Or.inl tw_282) dX1_priceFor_105 (fun r28 => ?_)
          refine pm_iload dX1_priceFor_108 rfl ?_
          refine pm_iconst (v := 1) dX1_priceFor_110 ki_1 ?_
          refine pm_isub dX1_priceFor_111 ?_
          refine pm_iald (y := zX1_priceFor) dX1_priceFor_112 (fun x29 => ?_)
          refine pm_aload_n dX1_priceFor_113 rfl rfl ?_
          refine fg_1_1 (y := zX1_priceFor) (Or.inl tw_282) dX1_priceFor_114 (fun r30 => ?_)
          refine pm_iload dX1_priceFor_117 rfl ?_
          refine pm_iald (y := zX1_priceFor) dX1_priceFor_119 (fun x31 => ?_)
          refine pm_kI (d := d + 0) rfl (pm_S (y := zX1_priceFor) (z := zX1_joined) (As := [.int x19, .int x29, .int x31]) zkX1_joined tw_1016 tw_1017 dX1_priceFor_120 rfl rfl (Nat.le_of_ble_eq_true rfl)) (kcX1_joined (d := d + 0) hfl x19 x29 x31 s60.2.2) (fun x33 m32 => ?_)
          refine pm_iast (y := zX1_priceFor) dX1_priceFor_123 (fun m34 => ?_)
          refine pm_goto (tgt := 170) dX1_priceFor_124 rfl ?_
          refine pm_drop (ls2 := [.ref l0, pmU, pmU, pmU, pmU, pmU, pmU, pmU, .int x26, .int s60.2.1, pmU]) (Nat.le_refl _) (pm_le_spec (pm_le_v (pm_le_u (pm_le_u (pm_le_u (pm_le_u (pm_le_u (pm_le_u (pm_le_u (pm_le_v (pm_le_v (pm_le_u (pm_le_n))))))))))))) ?_
          exact gX1_priceFor_j170 hfl again60 l0 x26 s60.2.1 m34 hag60)
set_option maxRecDepth 100000 in
set_option maxHeartbeats 4000000 in
theorem kcX1_priceFor (hfl : l.flags = flags0) (a0 : Nat) (a1 : Int32) (a2 : Int32) (a3 : Int32) (a4 : Int32) (a5 : Int32) (a6 : Int32) (a7 : Int32) (m : pmM) : pm_C l Γ zX1_priceFor (d + 1) [.ref a0, .int a1, .int a2, .int a3, .int a4, .int a5, .int a6, .int a7] m (X1_priceFor a0 a1 a2 a3 a4 a5 a6 a7 m) := by
  refine pm_enter (ls := [.ref a0, .int a1, .int a2, .int a3, .int a4, .int a5, .int a6, .int a7, pmU, pmU, pmU]) hfl (by decide +kernel) rfl (Nat.le_of_ble_eq_true rfl) rfl (Nat.le_of_ble_eq_true rfl) ?_
  unfold X1_priceFor
  refine pm_aload_n dX1_priceFor_0 rfl rfl ?_
  refine fg_1_2 (y := zX1_priceFor) (Or.inl tw_283) dX1_priceFor_1 (fun r1 => ?_)
  refine pm_iconst (v := 0) dX1_priceFor_4 ki_0 ?_
  refine pm_iload_n dX1_priceFor_5 rfl rfl ?_
  refine pm_iast (y := zX1_priceFor) dX1_priceFor_6 (fun m2 => ?_)
  refine pm_aload_n dX1_priceFor_7 rfl rfl ?_
  refine fg_1_2 (y := zX1_priceFor) (Or.inl tw_283) dX1_priceFor_8 (fun r3 => ?_)
  refine pm_iconst (v := 1) dX1_priceFor_11 ki_1 ?_
  refine pm_iload_n dX1_priceFor_12 rfl rfl ?_
  refine pm_iast (y := zX1_priceFor) dX1_priceFor_13 (fun m4 => ?_)
  refine pm_aload_n dX1_priceFor_14 rfl rfl ?_
  refine fg_1_2 (y := zX1_priceFor) (Or.inl tw_283) dX1_priceFor_15 (fun r5 => ?_)
  refine pm_iconst (v := 2) dX1_priceFor_18 ki_2 ?_
  refine pm_iload_n dX1_priceFor_19 rfl rfl ?_
  refine pm_iast (y := zX1_priceFor) dX1_priceFor_20 (fun m6 => ?_)
  refine pm_aload_n dX1_priceFor_21 rfl rfl ?_
  refine fg_1_2 (y := zX1_priceFor) (Or.inl tw_283) dX1_priceFor_22 (fun r7 => ?_)
  refine pm_iconst (v := 3) dX1_priceFor_25 ki_3 ?_
  refine pm_iload dX1_priceFor_26 rfl ?_
  refine pm_iast (y := zX1_priceFor) dX1_priceFor_28 (fun m8 => ?_)
  refine pm_aload_n dX1_priceFor_29 rfl rfl ?_
  refine fg_1_2 (y := zX1_priceFor) (Or.inl tw_283) dX1_priceFor_30 (fun r9 => ?_)
  refine pm_iconst (v := 4) dX1_priceFor_33 ki_4 ?_
  refine pm_iload dX1_priceFor_34 rfl ?_
  refine pm_iast (y := zX1_priceFor) dX1_priceFor_36 (fun m10 => ?_)
  refine pm_aload_n dX1_priceFor_37 rfl rfl ?_
  refine fg_1_2 (y := zX1_priceFor) (Or.inl tw_283) dX1_priceFor_38 (fun r11 => ?_)
  refine pm_iconst (v := 5) dX1_priceFor_41 ki_5 ?_
  refine pm_iload dX1_priceFor_42 rfl ?_
  refine pm_iast (y := zX1_priceFor) dX1_priceFor_44 (fun m12 => ?_)
  refine pm_aload_n dX1_priceFor_45 rfl rfl ?_
  refine fg_1_2 (y := zX1_priceFor) (Or.inl tw_283) dX1_priceFor_46 (fun r13 => ?_)
  refine pm_bipush (v := 6) dX1_priceFor_49 kb_6 ?_
  refine pm_iload dX1_priceFor_51 rfl ?_
  refine pm_iast (y := zX1_priceFor) dX1_priceFor_53 (fun m14 => ?_)
  refine pm_iconst (v := 0) dX1_priceFor_54 ki_0 ?_
  refine pm_istore (ls2 := [.ref a0, .int a1, .int a2, .int a3, .int a4, .int a5, .int a6, .int a7, .int 0, pmU, pmU]) dX1_priceFor_55 rfl (Nat.le_of_ble_eq_true rfl) rfl ?_
  refine pm_iconst (v := 0) dX1_priceFor_57 ki_0 ?_
  refine pm_istore (ls2 := [.ref a0, .int a1, .int a2, .int a3, .int a4, .int a5, .int a6, .int a7, .int 0, .int 0, pmU]) dX1_priceFor_58 rfl (Nat.le_of_ble_eq_true rfl) rfl ?_
  refine pm_drop (ls2 := [.ref a0, pmU, pmU, pmU, pmU, pmU, pmU, pmU, .int 0, .int 0, pmU]) (Nat.le_refl _) (pm_le_spec (pm_le_v (pm_le_u (pm_le_u (pm_le_u (pm_le_u (pm_le_u (pm_le_u (pm_le_u (pm_le_v (pm_le_v (pm_le_u (pm_le_n))))))))))))) ?_
  exact gX1_priceFor_L60 hfl a0 pm_N (0, 0, m14)
-- StruckPage$Desk.priceOf(III)I
def X0_priceOf (a0 : Nat) (a1 : Int32) (a2 : Int32) (a3 : Int32) (m : pmM) : pmR := pm_gR 0 a0 2 m fun r1 => pm_ld 100 r1 a1 m fun x2 => pm_cI (X8_bitsOf a2 a3 m) fun x4 m3 => pm_cI (J6_bitCount_0f7a4 (x2 &&& x4) m3) fun x6 m5 => pm_gR 0 a0 1 m5 fun r7 => pm_rc 0 a0 m5 <| pm_cI (X0_leftInAll a0 m5) fun x9 m8 => pm_gI 0 a0 5 m8 fun x10 => pm_gR 0 a0 3 m8 fun r11 => pm_ld 100 r11 0 m8 fun x12 => pm_rc 1 r7 m8 <| pm_cI (X1_priceFor r7 ((a3 - a2) + 1) x6 a2 a1 x9 x10 x12 m8) fun x14 m13 => pm_oI x14 m13
set_option maxRecDepth 100000 in
set_option maxHeartbeats 4000000 in
theorem kcX0_priceOf (hfl : l.flags = flags0) (a0 : Nat) (a1 : Int32) (a2 : Int32) (a3 : Int32) (m : pmM) : pm_C l Γ zX0_priceOf (d + 2) [.ref a0, .int a1, .int a2, .int a3] m (X0_priceOf a0 a1 a2 a3 m) := by
  refine pm_enter (ls := [.ref a0, .int a1, .int a2, .int a3, pmU]) hfl (by decide +kernel) rfl (Nat.le_of_ble_eq_true rfl) rfl (Nat.le_of_ble_eq_true rfl) ?_
  unfold X0_priceOf
  refine pm_aload_n dX0_priceOf_0 rfl rfl ?_
  refine fg_0_2 (y := zX0_priceOf) (Or.inl tw_360) dX0_priceOf_1 (fun r1 => ?_)
  refine pm_iload_n dX0_priceOf_4 rfl rfl ?_
  refine pm_iald (y := zX0_priceOf) dX0_priceOf_5 (fun x2 => ?_)
  refine pm_iload_n dX0_priceOf_6 rfl rfl ?_
  refine pm_iload_n dX0_priceOf_7 rfl rfl ?_
  refine pm_kI (d := d + 1) rfl (pm_SN (y := zX0_priceOf) (z := zX8_bitsOf) (As := [.int a2, .int a3]) zkX8_bitsOf tw_1009 tw_1010 dX0_priceOf_8 rfl rfl (Nat.le_of_ble_eq_true rfl)) (kcX8_bitsOf (d := d + 1) hfl a2 a3 m) (fun x4 m3 => ?_)
  refine pm_iand dX0_priceOf_11 ?_
  refine pm_kI (d := d + 1) rfl (pm_S (y := zX0_priceOf) (z := zJ6_bitCount_0f7a4) (As := [.int (x2 &&& x4)]) zkJ6_bitCount_0f7a4 tw_576 tw_543 dX0_priceOf_12 rfl rfl (Nat.le_of_ble_eq_true rfl)) (kcJ6_bitCount_0f7a4 (d := d + 1) hfl (x2 &&& x4) m3) (fun x6 m5 => ?_)
  refine pm_istore (ls2 := [.ref a0, .int a1, .int a2, .int a3, .int x6]) dX0_priceOf_15 rfl (Nat.le_of_ble_eq_true rfl) rfl ?_
  refine pm_aload_n dX0_priceOf_17 rfl rfl ?_
  refine fg_0_1 (y := zX0_priceOf) (Or.inl tw_359) dX0_priceOf_18 (fun r7 => ?_)
  refine pm_iload_n dX0_priceOf_21 rfl rfl ?_
  refine pm_iload_n dX0_priceOf_22 rfl rfl ?_
  refine pm_isub dX0_priceOf_23 ?_
  refine pm_iconst (v := 1) dX0_priceOf_24 ki_1 ?_
  refine pm_iadd dX0_priceOf_25 ?_
  refine pm_iload dX0_priceOf_26 rfl ?_
  refine pm_iload_n dX0_priceOf_28 rfl rfl ?_
  refine pm_iload_n dX0_priceOf_29 rfl rfl ?_
  refine pm_aload_n dX0_priceOf_30 rfl rfl ?_
  refine pm_rcv (fun hb9 hc9 => ?_)
  refine pm_kI (d := d + 1) rfl (pm_V (y := zX0_priceOf) (z := zX0_leftInAll) (As := []) zkX0_leftInAll pm_q0 (by decide) tw_611 tw_613 tw_19 dX0_priceOf_31 rfl rfl (Nat.le_of_ble_eq_true rfl) hb9 hc9) (kcX0_leftInAll (d := d + 0) hfl a0 m5) (fun x9 m8 => ?_)
  refine pm_aload_n dX0_priceOf_34 rfl rfl ?_
  refine fg_0_5 (y := zX0_priceOf) (Or.inl tw_366) dX0_priceOf_35 (fun x10 => ?_)
  refine pm_aload_n dX0_priceOf_38 rfl rfl ?_
  refine fg_0_3 (y := zX0_priceOf) (Or.inl tw_362) dX0_priceOf_39 (fun r11 => ?_)
  refine pm_iconst (v := 0) dX0_priceOf_42 ki_0 ?_
  refine pm_iald (y := zX0_priceOf) dX0_priceOf_43 (fun x12 => ?_)
  refine pm_rcv (fun hb9 hc9 => ?_)
  refine pm_kI (d := d + 1) rfl (pm_VN (y := zX0_priceOf) (z := zX1_priceFor) (As := [.int ((a3 - a2) + 1), .int x6, .int a2, .int a1, .int x9, .int x10, .int x12]) zkX1_priceFor pm_q1 (by decide) tw_1012 tw_1014 tw_69 dX0_priceOf_44 rfl rfl (Nat.le_of_ble_eq_true rfl) hb9 hc9) (kcX1_priceFor (d := d + 0) hfl r7 ((a3 - a2) + 1) x6 a2 a1 x9 x10 x12 m8) (fun x14 m13 => ?_)
  exact pm_iret rfl dX0_priceOf_47
-- StruckPage$Desk.strike(III)Z
def X0_strike_j21 (m : pmM) : pmR := pm_oI 0 m
def X0_strike (a0 : Nat) (a1 : Int32) (a2 : Int32) (a3 : Int32) (m : pmM) : pmR := if a2 < 0 then (X0_strike_j21 m) else (if a3 < a2 then (X0_strike_j21 m) else (pm_gR 0 a0 0 m fun r1 => pm_rc 2 r1 m <| pm_cI (X2_hasWord r1 a1 a3 m) fun x3 m2 => if x3 = 0 then (X0_strike_j21 m2) else (pm_rc 0 a0 m2 <| pm_cI (X0_priceOf a0 a1 a2 a3 m2) fun x5 m4 => pm_gI 0 a0 5 m4 fun x6 => if x5 ≤ x6 then (pm_gR 0 a0 2 m4 fun r7 => pm_ld 100 r7 a1 m4 fun x8 => pm_cI (X8_bitsOf a2 a3 m4) fun x10 m9 => pm_st 100 r7 a1 (x8 ^^^ x10) m9 fun m11 => pm_gI 0 a0 5 m11 fun x12 => pm_pI 0 a0 5 (x12 - x5) m11 fun m13 => pm_gI 0 a0 6 m13 fun x14 => pm_pI 0 a0 6 (x14 + 1) m13 fun m15 => pm_oI 1 m15) else (pm_oI 0 m4))))
set_option maxRecDepth 100000 in
set_option maxHeartbeats 4000000 in
theorem gX0_strike_j21 (hfl : l.flags = flags0) (m : pmM) : pm_G l Γ zX0_strike (d + 3) 21 [pmU, pmU, pmU, pmU, pmU] [] m (X0_strike_j21 m) := by
  unfold X0_strike_j21
  refine pm_iconst (v := 0) dX0_strike_21 ki_0 ?_
  exact pm_nret (ty := .boolean) (w := 0) rfl (by decide) (by decide) dX0_strike_22
set_option maxRecDepth 100000 in
set_option maxHeartbeats 4000000 in
theorem kcX0_strike (hfl : l.flags = flags0) (a0 : Nat) (a1 : Int32) (a2 : Int32) (a3 : Int32) (m : pmM) : pm_C l Γ zX0_strike (d + 3) [.ref a0, .int a1, .int a2, .int a3] m (X0_strike a0 a1 a2 a3 m) := by
  refine pm_enter (ls := [.ref a0, .int a1, .int a2, .int a3, pmU]) hfl (by decide +kernel) rfl (Nat.le_of_ble_eq_true rfl) rfl (Nat.le_of_ble_eq_true rfl) ?_
  unfold X0_strike
  refine pm_iload_n dX0_strike_0 rfl rfl ?_
  refine pm_if_lt (tgt := 21) dX0_strike_1 rfl ?_ ?_
  · refine pm_drop (ls2 := [pmU, pmU, pmU, pmU, pmU]) (Nat.le_refl _) (pm_le_spec (pm_le_u (pm_le_u (pm_le_u (pm_le_u (pm_le_u (pm_le_n))))))) ?_
    exact gX0_strike_j21 hfl m
  · refine pm_iload_n dX0_strike_4 rfl rfl ?_
    refine pm_iload_n dX0_strike_5 rfl rfl ?_
    refine pm_icmp_gt (tgt := 21) dX0_strike_6 rfl ?_ ?_
    · refine pm_drop (ls2 := [pmU, pmU, pmU, pmU, pmU]) (Nat.le_refl _) (pm_le_spec (pm_le_u (pm_le_u (pm_le_u (pm_le_u (pm_le_u (pm_le_n))))))) ?_
      exact gX0_strike_j21 hfl m
    · refine pm_aload_n dX0_strike_9 rfl rfl ?_
      refine fg_0_0 (y := zX0_strike) (Or.inl tw_358) dX0_strike_10 (fun r1 => ?_)
      refine pm_iload_n dX0_strike_13 rfl rfl ?_
      refine pm_iload_n dX0_strike_14 rfl rfl ?_
      refine pm_rcv (fun hb9 hc9 => ?_)
      refine pm_kI (d := d + 2) rfl (pm_VN (y := zX0_strike) (z := zX2_hasWord) (As := [.int a1, .int a3]) zkX2_hasWord pm_q2 (by decide) tw_599 tw_601 tw_17 dX0_strike_15 rfl rfl (Nat.le_of_ble_eq_true rfl) hb9 hc9) (kcX2_hasWord (d := d + 2) hfl r1 a1 a3 m) (fun x3 m2 => ?_)
      refine pm_if_ne (tgt := 23) dX0_strike_18 rfl ?_ ?_
      · refine pm_aload_n dX0_strike_23 rfl rfl ?_
        refine pm_iload_n dX0_strike_24 rfl rfl ?_
        refine pm_iload_n dX0_strike_25 rfl rfl ?_
        refine pm_iload_n dX0_strike_26 rfl rfl ?_
        refine pm_rcv (fun hb9 hc9 => ?_)
        refine pm_kI (d := d + 2) rfl (pm_V (y := zX0_strike) (z := zX0_priceOf) (As := [.int a1, .int a2, .int a3]) zkX0_priceOf pm_q0 (by decide) tw_1005 tw_1007 tw_68 dX0_strike_27 rfl rfl (Nat.le_of_ble_eq_true rfl) hb9 hc9) (kcX0_priceOf (d := d + 0) hfl a0 a1 a2 a3 m2) (fun x5 m4 => ?_)
        refine pm_istore (ls2 := [.ref a0, .int a1, .int a2, .int a3, .int x5]) dX0_strike_30 rfl (Nat.le_of_ble_eq_true rfl) rfl ?_
        refine pm_iload dX0_strike_32 rfl ?_
        refine pm_aload_n dX0_strike_34 rfl rfl ?_
        refine fg_0_5 (y := zX0_strike) (Or.inl tw_366) dX0_strike_35 (fun x6 => ?_)
        refine pm_icmp_le (tgt := 43) dX0_strike_38 rfl ?_ ?_
        · refine pm_aload_n dX0_strike_43 rfl rfl ?_
          refine fg_0_2 (y := zX0_strike) (Or.inl tw_360) dX0_strike_44 (fun r7 => ?_)
          refine pm_iload_n dX0_strike_47 rfl rfl ?_
          refine pm_dup2 dX0_strike_48 rfl rfl ?_
          refine pm_iald (y := zX0_strike) dX0_strike_49 (fun x8 => ?_)
          refine pm_iload_n dX0_strike_50 rfl rfl ?_
          refine pm_iload_n dX0_strike_51 rfl rfl ?_
          refine pm_kI (d := d + 2) rfl (pm_SN (y := zX0_strike) (z := zX8_bitsOf) (As := [.int a2, .int a3]) zkX8_bitsOf tw_1009 tw_1010 dX0_strike_52 rfl rfl (Nat.le_of_ble_eq_true rfl)) (kcX8_bitsOf (d := d + 2) hfl a2 a3 m4) (fun x10 m9 => ?_)
          refine pm_ixor dX0_strike_55 ?_
          refine pm_iast (y := zX0_strike) dX0_strike_56 (fun m11 => ?_)
          refine pm_aload_n dX0_strike_57 rfl rfl ?_
          refine pm_dup dX0_strike_58 rfl ?_
          refine fg_0_5 (y := zX0_strike) (Or.inl tw_366) dX0_strike_59 (fun x12 => ?_)
          refine pm_iload dX0_strike_62 rfl ?_
          refine pm_isub dX0_strike_64 ?_
          refine fp_0_5 (y := zX0_strike) (Or.inl tw_366) dX0_strike_65 (fun m13 => ?_)
          refine pm_aload_n dX0_strike_68 rfl rfl ?_
          refine pm_dup dX0_strike_69 rfl ?_
          refine fg_0_6 (y := zX0_strike) (Or.inl tw_368) dX0_strike_70 (fun x14 => ?_)
          refine pm_iconst (v := 1) dX0_strike_73 ki_1 ?_
          refine pm_iadd dX0_strike_74 ?_
          refine fp_0_6 (y := zX0_strike) (Or.inl tw_368) dX0_strike_75 (fun m15 => ?_)
          refine pm_iconst (v := 1) dX0_strike_78 ki_1 ?_
          exact pm_nret (ty := .boolean) (w := 1) rfl (by decide) (by decide) dX0_strike_79
        · refine pm_iconst (v := 0) dX0_strike_41 ki_0 ?_
          exact pm_nret (ty := .boolean) (w := 0) rfl (by decide) (by decide) dX0_strike_42
      · refine pm_drop (ls2 := [pmU, pmU, pmU, pmU, pmU]) (Nat.le_refl _) (pm_le_spec (pm_le_u (pm_le_u (pm_le_u (pm_le_u (pm_le_u (pm_le_n))))))) ?_
        exact gX0_strike_j21 hfl m2
-- StruckPage$Desk.addTo(II)V
def X0_addTo (a0 : Nat) (a1 : Int32) (a2 : Int32) (m : pmM) : pmR := if (4 : Int32) = 0 then none else pm_bI (a1 - a1 / 4 * 4) fun x1 => pm_gR 0 a0 3 m fun r2 => pm_gR 0 a0 3 m fun r3 => pm_ld 100 r3 x1 m fun x4 => pm_st 100 r2 x1 (if (x4 + a2) < 999 then (x4 + a2) else 999) m fun m5 => pm_oV m5
set_option maxRecDepth 100000 in
set_option maxHeartbeats 4000000 in
theorem kcX0_addTo (hfl : l.flags = flags0) (a0 : Nat) (a1 : Int32) (a2 : Int32) (m : pmM) : pm_C l Γ zX0_addTo (d + 0) [.ref a0, .int a1, .int a2] m (X0_addTo a0 a1 a2 m) := by
  refine pm_enter (ls := [.ref a0, .int a1, .int a2, pmU]) hfl (by decide +kernel) rfl (Nat.le_of_ble_eq_true rfl) rfl (Nat.le_of_ble_eq_true rfl) ?_
  unfold X0_addTo
  refine pm_iload_n dX0_addTo_0 rfl rfl ?_
  refine pm_iconst (v := 4) dX0_addTo_1 ki_4 ?_
  refine pm_irem dX0_addTo_2 ?_
  refine pm_bIn (fun x1 => ?_)
  refine pm_istore_n (ls2 := [.ref a0, .int a1, .int a2, .int x1]) dX0_addTo_3 rfl rfl (Nat.le_of_ble_eq_true rfl) rfl ?_
  refine pm_aload_n dX0_addTo_4 rfl rfl ?_
  refine fg_0_3 (y := zX0_addTo) (Or.inl tw_362) dX0_addTo_5 (fun r2 => ?_)
  refine pm_iload_n dX0_addTo_8 rfl rfl ?_
  refine pm_sipush (v := 999) dX0_addTo_9 ks_999 ?_
  refine pm_aload_n dX0_addTo_12 rfl rfl ?_
  refine fg_0_3 (y := zX0_addTo) (Or.inl tw_362) dX0_addTo_13 (fun r3 => ?_)
  refine pm_iload_n dX0_addTo_16 rfl rfl ?_
  refine pm_iald (y := zX0_addTo) dX0_addTo_17 (fun x4 => ?_)
  refine pm_iload_n dX0_addTo_18 rfl rfl ?_
  refine pm_iadd dX0_addTo_19 ?_
  refine pm_min (y := zX0_addTo) tw_589 tw_590 tw_171 tw_591 dX0_addTo_20 (Nat.le_of_ble_eq_true rfl) ?_
  refine pm_iast (y := zX0_addTo) dX0_addTo_23 (fun m5 => ?_)
  exact pm_vret rfl dX0_addTo_24
-- StruckPage$Desk.goTo(I)V
def X0_goTo (a0 : Nat) (a1 : Int32) (m : pmM) : pmR := pm_gR 0 a0 0 m fun r1 => pm_gI 2 r1 3 m fun x2 => pm_pI 0 a0 4 (if x2 < a1 then x2 else a1) m fun m3 => pm_oV m3
set_option maxRecDepth 100000 in
set_option maxHeartbeats 4000000 in
theorem kcX0_goTo (hfl : l.flags = flags0) (a0 : Nat) (a1 : Int32) (m : pmM) : pm_C l Γ zX0_goTo (d + 0) [.ref a0, .int a1] m (X0_goTo a0 a1 m) := by
  refine pm_enter (ls := [.ref a0, .int a1]) hfl (by decide +kernel) rfl (Nat.le_of_ble_eq_true rfl) rfl (Nat.le_of_ble_eq_true rfl) ?_
  unfold X0_goTo
  refine pm_aload_n dX0_goTo_0 rfl rfl ?_
  refine pm_iload_n dX0_goTo_1 rfl rfl ?_
  refine pm_aload_n dX0_goTo_2 rfl rfl ?_
  refine fg_0_0 (y := zX0_goTo) (Or.inl tw_358) dX0_goTo_3 (fun r1 => ?_)
  refine fg_2_3 (y := zX0_goTo) (Or.inr tw_247) dX0_goTo_6 (fun x2 => ?_)
  refine pm_min (y := zX0_goTo) tw_589 tw_590 tw_171 tw_591 dX0_goTo_9 (Nat.le_of_ble_eq_true rfl) ?_
  refine fp_0_4 (y := zX0_goTo) (Or.inl tw_364) dX0_goTo_12 (fun m3 => ?_)
  exact pm_vret rfl dX0_goTo_15
end GEN1
