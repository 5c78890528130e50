section GEN12
variable {l : Launch} {Γ : pmG} {d : Nat}
-- StruckPage.firstWinning(II)I
def X8_firstWinning_j118 (again2 : (Int32 × pmM) → pmR) (again48 : (Int32 × pmM) → pmR) (again66 : (Int32 × pmM) → pmR) (l0 : Nat) (l1 : Int32) (l2 : Int32) (l3 : Int32) (l4 : Int32) (l5 : Int32) (l6 : Int32) (l7 : Int32) (m : pmM) : pmR := pm_bI (l7 + 1) fun x13 => again66 (x13, m)
def X8_firstWinning_L66 (again2 : (Int32 × pmM) → pmR) (again48 : (Int32 × pmM) → pmR) (l0 : Nat) (l1 : Int32) (l2 : Int32) (l3 : Int32) (l4 : Int32) (l5 : Int32) (l6 : Int32) (again66 : (Int32 × pmM) → pmR) (s66 : Int32 × pmM) : pmR := if (l6 + 1) < s66.1 then (pm_bI (l6 + 1) fun x10 => again48 (x10, s66.2)) else (pm_cI (X8_bitsOf l6 s66.1 s66.2) fun x12 m11 => if (l4 &&& x12) = x12 then (pm_cI (X4_valueOf (l4 &&& (x12 ^^^ (-1))) m11) fun x15 m14 => if x15 = l5 then (pm_cI (X8_named l3 l6 s66.1 m14) fun x17 m16 => pm_oI x17 m16) else (X8_firstWinning_j118 again2 again48 again66 l0 l1 l2 l3 l4 l5 l6 s66.1 m14)) else (X8_firstWinning_j118 again2 again48 again66 l0 l1 l2 l3 l4 l5 l6 s66.1 m11))
def X8_firstWinning_L48 (again2 : (Int32 × pmM) → pmR) (l0 : Nat) (l1 : Int32) (l2 : Int32) (l3 : Int32) (l4 : Int32) (l5 : Int32) (again48 : (Int32 × pmM) → pmR) (s48 : Int32 × pmM) : pmR := pm_gR 8 l0 1 s48.2 fun r6 => pm_gR 2 r6 0 s48.2 fun r7 => pm_ld 100 r7 l3 s48.2 fun x8 => if x8 ≤ s48.1 then (pm_bI (l3 + 1) fun x9 => again2 (x9, s48.2)) else (pm_lp pm_N (X8_firstWinning_L66 again2 again48 l0 l1 l2 l3 l4 l5 s48.1) (s48.1, s48.2))
def X8_firstWinning_j34 (again2 : (Int32 × pmM) → pmR) (l0 : Nat) (l1 : Int32) (l2 : Int32) (l3 : Int32) (t0 : Int32) (m : pmM) : pmR := pm_cI (X4_valueOf t0 m) fun x4 m3 => pm_bI (l2 ^^^ x4) fun x5 => pm_lp pm_N (X8_firstWinning_L48 again2 l0 l1 l2 l3 t0 x5) (0, m3)
def X8_firstWinning_L2 (l0 : Nat) (l1 : Int32) (l2 : Int32) (again2 : (Int32 × pmM) → pmR) (s2 : Int32 × pmM) : pmR := pm_gR 8 l0 1 s2.2 fun r1 => pm_gI 2 r1 3 s2.2 fun x2 => if x2 ≤ s2.1 then (pm_oI (-1) s2.2) else (if ((l1 >>> (s2.1 &&& 31)) &&& 1) = 1 then (pm_gR 8 l0 8 s2.2 fun r18 => pm_rc 0 r18 s2.2 <| pm_cI (X0_leftBits r18 s2.1 s2.2) fun x20 m19 => X8_firstWinning_j34 again2 l0 l1 l2 s2.1 x20 m19) else (X8_firstWinning_j34 again2 l0 l1 l2 s2.1 0 s2.2))
def X8_firstWinning (a0 : Nat) (a1 : Int32) (a2 : Int32) (m : pmM) : pmR := pm_lp pm_N (X8_firstWinning_L2 a0 a1 a2) (0, m)
set_option maxRecDepth 100000 in
set_option maxHeartbeats 4000000 in
theorem gX8_firstWinning_j118 (hfl : l.flags = flags0) (again2 : (Int32 × pmM) → pmR) (again48 : (Int32 × pmM) → pmR) (again66 : (Int32 × pmM) → pmR) (l0 : Nat) (l1 : Int32) (l2 : Int32) (l3 : Int32) (l4 : Int32) (l5 : Int32) (l6 : Int32) (l7 : Int32) (m : pmM) (hag2 : ∀ s : Int32 × pmM, pm_G l Γ zX8_firstWinning (d + 2) 2 [.ref l0, .int l1, .int l2, .int s.1, pmU, pmU, pmU, pmU, pmU] [] s.2 (again2 s)) (hag48 : ∀ s : Int32 × pmM, pm_G l Γ zX8_firstWinning (d + 2) 48 [.ref l0, .int l1, .int l2, .int l3, .int l4, .int l5, .int s.1, pmU, pmU] [] s.2 (again48 s)) (hag66 : ∀ s : Int32 × pmM, pm_G l Γ zX8_firstWinning (d + 2) 66 [.ref l0, .int l1, .int l2, .int l3, .int l4, .int l5, .int l6, .int s.1, pmU] [] s.2 (again66 s)) : pm_G l Γ zX8_firstWinning (d + 2) 118 [.ref l0, .int l1, .int l2, .int l3, .int l4, .int l5, .int l6, .int l7, pmU] [] m (X8_firstWinning_j118 again2 again48 again66 l0 l1 l2 l3 l4 l5 l6 l7 m) := by
  unfold X8_firstWinning_j118
  refine pm_iincn (y := zX8_firstWinning) dX8_firstWinning_118 rfl ki_1 rfl (Nat.le_of_ble_eq_true rfl) (fun x13 => ?_)
  refine pm_eqls (ls2 := [.ref l0, .int l1, .int l2, .int l3, .int l4, .int l5, .int l6, .int x13, pmU]) rfl ?_
  refine pm_goto (tgt := 66) dX8_firstWinning_121 rfl ?_
  exact hag66 (x13, m)
set_option maxRecDepth 100000 in
set_option maxHeartbeats 4000000 in
theorem gX8_firstWinning_L66 (hfl : l.flags = flags0) (again2 : (Int32 × pmM) → pmR) (again48 : (Int32 × pmM) → pmR) (l0 : Nat) (l1 : Int32) (l2 : Int32) (l3 : Int32) (l4 : Int32) (l5 : Int32) (l6 : Int32) (hag2 : ∀ s : Int32 × pmM, pm_G l Γ zX8_firstWinning (d + 2) 2 [.ref l0, .int l1, .int l2, .int s.1, pmU, pmU, pmU, pmU, pmU] [] s.2 (again2 s)) (hag48 : ∀ s : Int32 × pmM, pm_G l Γ zX8_firstWinning (d + 2) 48 [.ref l0, .int l1, .int l2, .int l3, .int l4, .int l5, .int s.1, pmU, pmU] [] s.2 (again48 s)) : ∀ (n : Nat) (s : Int32 × pmM), pm_G l Γ zX8_firstWinning (d + 2) 66 [.ref l0, .int l1, .int l2, .int l3, .int l4, .int l5, .int l6, .int s.1, pmU] [] s.2 (pm_lp n (X8_firstWinning_L66 again2 again48 l0 l1 l2 l3 l4 l5 l6) s) :=
  pm_loop (lsf := fun s : Int32 × pmM => [.ref l0, .int l1, .int l2, .int l3, .int l4, .int l5, .int l6, .int s.1, pmU]) (mf := fun s : Int32 × pmM => s.2) (fun again66 hag66 s66 => by
    unfold X8_firstWinning_L66
    refine pm_iload dX8_firstWinning_66 rfl ?_
    refine pm_iload dX8_firstWinning_68 rfl ?_
    refine pm_iconst (v := 1) dX8_firstWinning_70 ki_1 ?_
    refine pm_iadd dX8_firstWinning_71 ?_
    refine pm_icmp_gt (tgt := 124) dX8_firstWinning_72 rfl ?_ ?_
    · refine pm_iincn (y := zX8_firstWinning) dX8_firstWinning_124 rfl ki_1 rfl (Nat.le_of_ble_eq_true rfl) (fun x10 => ?_)
      refine pm_eqls (ls2 := [.ref l0, .int l1, .int l2, .int l3, .int l4, .int l5, .int x10, .int s66.1, pmU]) rfl ?_
      refine pm_goto (tgt := 48) dX8_firstWinning_127 rfl ?_
      refine pm_drop (ls2 := [.ref l0, .int l1, .int l2, .int l3, .int l4, .int l5, .int x10, pmU, pmU]) (Nat.le_refl _) (pm_le_spec (pm_le_v (pm_le_v (pm_le_v (pm_le_v (pm_le_v (pm_le_v (pm_le_v (pm_le_u (pm_le_u (pm_le_n))))))))))) ?_
      exact hag48 (x10, s66.2)
    · refine pm_iload dX8_firstWinning_75 rfl ?_
      refine pm_iload dX8_firstWinning_77 rfl ?_
      refine pm_kI (d := d + 1) rfl (pm_S (y := zX8_firstWinning) (z := zX8_bitsOf) (As := [.int l6, .int s66.1]) zkX8_bitsOf tw_1200 tw_1010 dX8_firstWinning_79 rfl rfl (Nat.le_of_ble_eq_true rfl)) (kcX8_bitsOf (d := d + 1) hfl l6 s66.1 s66.2) (fun x12 m11 => ?_)
      refine pm_istore (ls2 := [.ref l0, .int l1, .int l2, .int l3, .int l4, .int l5, .int l6, .int s66.1, .int x12]) dX8_firstWinning_82 rfl (Nat.le_of_ble_eq_true rfl) rfl ?_
      refine pm_iload dX8_firstWinning_84 rfl ?_
      refine pm_iload dX8_firstWinning_86 rfl ?_
      refine pm_iand dX8_firstWinning_88 ?_
      refine pm_iload dX8_firstWinning_89 rfl ?_
      refine pm_icmp_ne (tgt := 118) dX8_firstWinning_91 rfl ?_ ?_
      · refine pm_drop (ls2 := [.ref l0, .int l1, .int l2, .int l3, .int l4, .int l5, .int l6, .int s66.1, pmU]) (Nat.le_refl _) (pm_le_spec (pm_le_v (pm_le_v (pm_le_v (pm_le_v (pm_le_v (pm_le_v (pm_le_v (pm_le_v (pm_le_u (pm_le_n))))))))))) ?_
        exact gX8_firstWinning_j118 hfl again2 again48 again66 l0 l1 l2 l3 l4 l5 l6 s66.1 m11 hag2 hag48 hag66
      · refine pm_iload dX8_firstWinning_94 rfl ?_
        refine pm_iload dX8_firstWinning_96 rfl ?_
        refine pm_iconst (v := (-1)) dX8_firstWinning_98 ki_n1 ?_
        refine pm_ixor dX8_firstWinning_99 ?_
        refine pm_iand dX8_firstWinning_100 ?_
        refine pm_kI (d := d + 1) rfl (pm_SN (y := zX8_firstWinning) (z := zX4_valueOf) (As := [.int (l4 &&& (x12 ^^^ (-1)))]) zkX4_valueOf tw_1217 tw_1218 dX8_firstWinning_101 rfl rfl (Nat.le_of_ble_eq_true rfl)) (kcX4_valueOf (d := d + 1) hfl (l4 &&& (x12 ^^^ (-1))) m11) (fun x15 m14 => ?_)
        refine pm_iload dX8_firstWinning_104 rfl ?_
        refine pm_icmp_ne (tgt := 118) dX8_firstWinning_106 rfl ?_ ?_
        · refine pm_drop (ls2 := [.ref l0, .int l1, .int l2, .int l3, .int l4, .int l5, .int l6, .int s66.1, pmU]) (Nat.le_refl _) (pm_le_spec (pm_le_v (pm_le_v (pm_le_v (pm_le_v (pm_le_v (pm_le_v (pm_le_v (pm_le_v (pm_le_u (pm_le_n))))))))))) ?_
          exact gX8_firstWinning_j118 hfl again2 again48 again66 l0 l1 l2 l3 l4 l5 l6 s66.1 m14 hag2 hag48 hag66
        · refine pm_iload_n dX8_firstWinning_109 rfl rfl ?_
          refine pm_iload dX8_firstWinning_110 rfl ?_
          refine pm_iload dX8_firstWinning_112 rfl ?_
          refine pm_kI (d := d + 1) rfl (pm_S (y := zX8_firstWinning) (z := zX8_named) (As := [.int l3, .int l6, .int s66.1]) zkX8_named tw_1206 tw_1207 dX8_firstWinning_114 rfl rfl (Nat.le_of_ble_eq_true rfl)) (kcX8_named (d := d + 1) hfl l3 l6 s66.1 m14) (fun x17 m16 => ?_)
          exact pm_iret rfl dX8_firstWinning_117)
set_option maxRecDepth 100000 in
set_option maxHeartbeats 4000000 in
theorem gX8_firstWinning_L48 (hfl : l.flags = flags0) (again2 : (Int32 × pmM) → pmR) (l0 : Nat) (l1 : Int32) (l2 : Int32) (l3 : Int32) (l4 : Int32) (l5 : Int32) (hag2 : ∀ s : Int32 × pmM, pm_G l Γ zX8_firstWinning (d + 2) 2 [.ref l0, .int l1, .int l2, .int s.1, pmU, pmU, pmU, pmU, pmU] [] s.2 (again2 s)) : ∀ (n : Nat) (s : Int32 × pmM), pm_G l Γ zX8_firstWinning (d + 2) 48 [.ref l0, .int l1, .int l2, .int l3, .int l4, .int l5, .int s.1, pmU, pmU] [] s.2 (pm_lp n (X8_firstWinning_L48 again2 l0 l1 l2 l3 l4 l5) s) :=
  pm_loop (lsf := fun s : Int32 × pmM => [.ref l0, .int l1, .int l2, .int l3, .int l4, .int l5, .int s.1, pmU, pmU]) (mf := fun s : Int32 × pmM => s.2) (fun again48 hag48 s48 => by
    unfold X8_firstWinning_L48
    refine pm_iload dX8_firstWinning_48 rfl ?_
    refine pm_aload_n dX8_firstWinning_50 rfl rfl ?_
    refine fg_8_1 (y := zX8_firstWinning) (Or.inl tw_440) dX8_firstWinning_51 (fun r6 => ?_)
    refine fg_2_0 (y := zX8_firstWinning) (Or.inr tw_240) dX8_firstWinning_54 (fun r7 => ?_)
    refine pm_iload_n dX8_firstWinning_57 rfl rfl ?_
    refine pm_iald (y := zX8_firstWinning) dX8_firstWinning_58 (fun x8 => ?_)
    refine pm_icmp_ge (tgt := 130) dX8_firstWinning_59 rfl ?_ ?_
    · refine pm_iincn (y := zX8_firstWinning) dX8_firstWinning_130 rfl ki_1 rfl (Nat.le_of_ble_eq_true rfl) (fun x9 => ?_)
      refine pm_eqls (ls2 := [.ref l0, .int l1, .int l2, .int x9, .int l4, .int l5, .int s48.1, pmU, pmU]) rfl ?_
      refine pm_goto (tgt := 2) dX8_firstWinning_133 rfl ?_
      refine pm_drop (ls2 := [.ref l0, .int l1, .int l2, .int x9, pmU, pmU, pmU, pmU, pmU]) (Nat.le_refl _) (pm_le_spec (pm_le_v (pm_le_v (pm_le_v (pm_le_v (pm_le_u (pm_le_u (pm_le_u (pm_le_u (pm_le_u (pm_le_n))))))))))) ?_
      exact hag2 (x9, s48.2)
    · refine pm_iload dX8_firstWinning_62 rfl ?_
      refine pm_istore (ls2 := [.ref l0, .int l1, .int l2, .int l3, .int l4, .int l5, .int s48.1, .int s48.1, pmU]) dX8_firstWinning_64 rfl (Nat.le_of_ble_eq_true rfl) rfl ?_
      exact gX8_firstWinning_L66 hfl again2 again48 l0 l1 l2 l3 l4 l5 s48.1 hag2 hag48 pm_N (s48.1, s48.2))
set_option maxRecDepth 100000 in
set_option maxHeartbeats 4000000 in
theorem gX8_firstWinning_j34 (hfl : l.flags = flags0) (again2 : (Int32 × pmM) → pmR) (l0 : Nat) (l1 : Int32) (l2 : Int32) (l3 : Int32) (t0 : Int32) (m : pmM) (hag2 : ∀ s : Int32 × pmM, pm_G l Γ zX8_firstWinning (d + 2) 2 [.ref l0, .int l1, .int l2, .int s.1, pmU, pmU, pmU, pmU, pmU] [] s.2 (again2 s)) : pm_G l Γ zX8_firstWinning (d + 2) 34 [.ref l0, .int l1, .int l2, .int l3, pmU, pmU, pmU, pmU, pmU] [.int t0] m (X8_firstWinning_j34 again2 l0 l1 l2 l3 t0 m) := by
  unfold X8_firstWinning_j34
  refine pm_istore (ls2 := [.ref l0, .int l1, .int l2, .int l3, .int t0, pmU, pmU, pmU, pmU]) dX8_firstWinning_34 rfl (Nat.le_of_ble_eq_true rfl) rfl ?_
  refine pm_iload_n dX8_firstWinning_36 rfl rfl ?_
  refine pm_iload dX8_firstWinning_37 rfl ?_
  refine pm_kI (d := d + 1) rfl (pm_SN (y := zX8_firstWinning) (z := zX4_valueOf) (As := [.int t0]) zkX4_valueOf tw_1217 tw_1218 dX8_firstWinning_39 rfl rfl (Nat.le_of_ble_eq_true rfl)) (kcX4_valueOf (d := d + 1) hfl t0 m) (fun x4 m3 => ?_)
  refine pm_ixor dX8_firstWinning_42 ?_
  refine pm_bIn (fun x5 => ?_)
  refine pm_istore (ls2 := [.ref l0, .int l1, .int l2, .int l3, .int t0, .int x5, pmU, pmU, pmU]) dX8_firstWinning_43 rfl (Nat.le_of_ble_eq_true rfl) rfl ?_
  refine pm_iconst (v := 0) dX8_firstWinning_45 ki_0 ?_
  refine pm_istore (ls2 := [.ref l0, .int l1, .int l2, .int l3, .int t0, .int x5, .int 0, pmU, pmU]) dX8_firstWinning_46 rfl (Nat.le_of_ble_eq_true rfl) rfl ?_
  exact gX8_firstWinning_L48 hfl again2 l0 l1 l2 l3 t0 x5 hag2 pm_N (0, m3)
set_option maxRecDepth 100000 in
set_option maxHeartbeats 4000000 in
theorem gX8_firstWinning_L2 (hfl : l.flags = flags0) (l0 : Nat) (l1 : Int32) (l2 : Int32) : ∀ (n : Nat) (s : Int32 × pmM), pm_G l Γ zX8_firstWinning (d + 2) 2 [.ref l0, .int l1, .int l2, .int s.1, pmU, pmU, pmU, pmU, pmU] [] s.2 (pm_lp n (X8_firstWinning_L2 l0 l1 l2) s) :=
  pm_loop (lsf := fun s : Int32 × pmM => [.ref l0, .int l1, .int l2, .int s.1, pmU, pmU, pmU, pmU, pmU]) (mf := fun s : Int32 × pmM => s.2) (fun again2 hag2 s2 => by
    unfold X8_firstWinning_L2
    refine pm_iload_n dX8_firstWinning_2 rfl rfl ?_
    refine pm_aload_n dX8_firstWinning_3 rfl rfl ?_
    refine fg_8_1 (y := zX8_firstWinning) (Or.inl tw_440) dX8_firstWinning_4 (fun r1 => ?_)
    refine fg_2_3 (y := zX8_firstWinning) (Or.inr tw_246) dX8_firstWinning_7 (fun x2 => ?_)
    refine pm_icmp_ge (tgt := 136) dX8_firstWinning_10 rfl ?_ ?_
    · refine pm_iconst (v := (-1)) dX8_firstWinning_136 ki_n1 ?_
      exact pm_iret rfl dX8_firstWinning_137
    · refine pm_iload_n dX8_firstWinning_13 rfl rfl ?_
      refine pm_iload_n dX8_firstWinning_14 rfl rfl ?_
      refine pm_ishr dX8_firstWinning_15 ?_
      refine pm_iconst (v := 1) dX8_firstWinning_16 ki_1 ?_
      refine pm_iand dX8_firstWinning_17 ?_
      refine pm_iconst (v := 1) dX8_firstWinning_18 ki_1 ?_
      refine pm_icmp_ne (tgt := 33) dX8_firstWinning_19 rfl ?_ ?_
      · refine pm_iconst (v := 0) dX8_firstWinning_33 ki_0 ?_
        exact gX8_firstWinning_j34 hfl again2 l0 l1 l2 s2.1 0 s2.2 hag2
      · refine pm_aload_n dX8_firstWinning_22 rfl rfl ?_
        refine fg_8_8 (y := zX8_firstWinning) (Or.inl tw_447) dX8_firstWinning_23 (fun r18 => ?_)
        refine pm_iload_n dX8_firstWinning_26 rfl rfl ?_
        refine pm_rcv (fun hb9 hc9 => ?_)
        refine pm_kI (d := d + 1) rfl (pm_VN (y := zX8_firstWinning) (z := zX0_leftBits) (As := [.int s2.1]) zkX0_leftBits pm_q0 (by decide) tw_1216 tw_566 tw_10 dX8_firstWinning_27 rfl rfl (Nat.le_of_ble_eq_true rfl) hb9 hc9) (kcX0_leftBits (d := d + 0) hfl r18 s2.1 s2.2) (fun x20 m19 => ?_)
        refine pm_goto (tgt := 34) dX8_firstWinning_30 rfl ?_
        exact gX8_firstWinning_j34 hfl again2 l0 l1 l2 s2.1 x20 m19 hag2)
set_option maxRecDepth 100000 in
set_option maxHeartbeats 4000000 in
theorem kcX8_firstWinning (hfl : l.flags = flags0) (a0 : Nat) (a1 : Int32) (a2 : Int32) (m : pmM) : pm_C l Γ zX8_firstWinning (d + 2) [.ref a0, .int a1, .int a2] m (X8_firstWinning a0 a1 a2 m) := by
  refine pm_enter (ls := [.ref a0, .int a1, .int a2, pmU, pmU, pmU, pmU, pmU, pmU]) hfl (by decide +kernel) rfl (Nat.le_of_ble_eq_true rfl) rfl (Nat.le_of_ble_eq_true rfl) ?_
  unfold X8_firstWinning
  refine pm_iconst (v := 0) dX8_firstWinning_0 ki_0 ?_
  refine pm_istore_n (ls2 := [.ref a0, .int a1, .int a2, .int 0, pmU, pmU, pmU, pmU, pmU]) dX8_firstWinning_1 rfl rfl (Nat.le_of_ble_eq_true rfl) rfl ?_
  exact gX8_firstWinning_L2 hfl a0 a1 a2 pm_N (0, m)
-- StruckPage.argument(II)I
def X8_argument_j85 (t0 : Int32) (m : pmM) : pmR := pm_oI t0 m
def X8_argument_j65 (again28 : (Int32 × Int32 × pmM) → pmR) (l0 : Nat) (l1 : Int32) (l2 : Int32) (l3 : Int32) (l4 : Int32) (m : pmM) : pmR := pm_bI (l4 + 1) fun x7 => again28 (l3, x7, m)
def X8_argument_L28 (l0 : Nat) (l1 : Int32) (l2 : Int32) (again28 : (Int32 × Int32 × pmM) → pmR) (s28 : Int32 × Int32 × pmM) : pmR := pm_gR 8 l0 1 s28.2.2 fun r3 => pm_gI 2 r3 3 s28.2.2 fun x4 => if x4 ≤ s28.2.1 then (if l2 = 0 then (X8_argument_j85 s28.1 s28.2.2) else (pm_rc 8 l0 s28.2.2 <| pm_cI (X8_firstWinning l0 l1 s28.1 s28.2.2) fun x6 m5 => X8_argument_j85 x6 m5)) else (if ((l1 >>> (s28.2.1 &&& 31)) &&& 1) = 1 then (pm_gR 8 l0 8 s28.2.2 fun r8 => pm_rc 0 r8 s28.2.2 <| pm_cI (X0_leftBits r8 s28.2.1 s28.2.2) fun x10 m9 => pm_cI (X4_valueOf x10 m9) fun x12 m11 => pm_bI (s28.1 ^^^ x12) fun x13 => X8_argument_j65 again28 l0 l1 l2 x13 s28.2.1 m11) else (X8_argument_j65 again28 l0 l1 l2 s28.1 s28.2.1 s28.2.2))
def X8_argument_j20 (l0 : Nat) (l1 : Int32) (l2 : Int32) (t0 : Int32) (t1 : Nat) (m : pmM) : pmR := pm_rc 8 t1 m <| pm_cV (X8_must t1 t0 m) fun m2 => pm_lp pm_N (X8_argument_L28 l0 l1 l2) (0, 0, m2)
def X8_argument_j15 (l0 : Nat) (l1 : Int32) (l2 : Int32) (t0 : Nat) (m : pmM) : pmR := X8_argument_j20 l0 l1 l2 1 t0 m
def X8_argument (a0 : Nat) (a1 : Int32) (a2 : Int32) (m : pmM) : pmR := pm_rc 8 a0 m <| pm_cV (X8_mustBeBits a0 a1 m) fun m1 => if a2 = 0 then (X8_argument_j15 a0 a1 a2 a0 m1) else (if a2 = 1 then (X8_argument_j15 a0 a1 a2 a0 m1) else (X8_argument_j20 a0 a1 a2 0 a0 m1))
set_option maxRecDepth 100000 in
set_option maxHeartbeats 4000000 in
theorem gX8_argument_j85 (hfl : l.flags = flags0) (t0 : Int32) (m : pmM) : pm_G l Γ zX8_argument (d + 3) 85 [pmU, pmU, pmU, pmU, pmU] [.int t0] m (X8_argument_j85 t0 m) := by
  unfold X8_argument_j85
  exact pm_iret rfl dX8_argument_85
set_option maxRecDepth 100000 in
set_option maxHeartbeats 4000000 in
theorem gX8_argument_j65 (hfl : l.flags = flags0) (again28 : (Int32 × Int32 × pmM) → pmR) (l0 : Nat) (l1 : Int32) (l2 : Int32) (l3 : Int32) (l4 : Int32) (m : pmM) (hag28 : ∀ s : Int32 × Int32 × pmM, pm_G l Γ zX8_argument (d + 3) 28 [.ref l0, .int l1, .int l2, .int s.1, .int s.2.1] [] s.2.2 (again28 s)) : pm_G l Γ zX8_argument (d + 3) 65 [.ref l0, .int l1, .int l2, .int l3, .int l4] [] m (X8_argument_j65 again28 l0 l1 l2 l3 l4 m) := by
  unfold X8_argument_j65
  refine pm_iincn (y := zX8_argument) dX8_argument_65 rfl ki_1 rfl (Nat.le_of_ble_eq_true rfl) (fun x7 => ?_)
  refine pm_eqls (ls2 := [.ref l0, .int l1, .int l2, .int l3, .int x7]) rfl ?_
  refine pm_goto (tgt := 28) dX8_argument_68 rfl ?_
  exact hag28 (l3, x7, m)
set_option maxRecDepth 100000 in
set_option maxHeartbeats 4000000 in
theorem gX8_argument_L28 (hfl : l.flags = flags0) (l0 : Nat) (l1 : Int32) (l2 : Int32) : ∀ (n : Nat) (s : Int32 × Int32 × pmM), pm_G l Γ zX8_argument (d + 3) 28 [.ref l0, .int l1, .int l2, .int s.1, .int s.2.1] [] s.2.2 (pm_lp n (X8_argument_L28 l0 l1 l2) s) :=
  pm_loop (lsf := fun s : Int32 × Int32 × pmM => [.ref l0, .int l1, .int l2, .int s.1, .int s.2.1]) (mf := fun s : Int32 × Int32 × pmM => s.2.2) (fun again28 hag28 s28 => by
    unfold X8_argument_L28
    refine pm_iload dX8_argument_28 rfl ?_
    refine pm_aload_n dX8_argument_30 rfl rfl ?_
    refine fg_8_1 (y := zX8_argument) (Or.inl tw_440) dX8_argument_31 (fun r3 => ?_)
    refine fg_2_3 (y := zX8_argument) (Or.inr tw_246) dX8_argument_34 (fun x4 => ?_)
    refine pm_icmp_ge (tgt := 71) dX8_argument_37 rfl ?_ ?_
    · refine pm_iload_n dX8_argument_71 rfl rfl ?_
      refine pm_if_ne (tgt := 79) dX8_argument_72 rfl ?_ ?_
      · refine pm_aload_n dX8_argument_79 rfl rfl ?_
        refine pm_iload_n dX8_argument_80 rfl rfl ?_
        refine pm_iload_n dX8_argument_81 rfl rfl ?_
        refine pm_rcv (fun hb9 hc9 => ?_)
        refine pm_kI (d := d + 2) rfl (pm_V (y := zX8_argument) (z := zX8_firstWinning) (As := [.int l1, .int s28.1]) zkX8_firstWinning pm_q8 (by decide) tw_1233 tw_1235 tw_89 dX8_argument_82 rfl rfl (Nat.le_of_ble_eq_true rfl) hb9 hc9) (kcX8_firstWinning (d := d + 0) hfl l0 l1 s28.1 s28.2.2) (fun x6 m5 => ?_)
        refine pm_drop (ls2 := [pmU, pmU, pmU, pmU, pmU]) (Nat.le_refl _) (pm_le_spec (pm_le_u (pm_le_u (pm_le_u (pm_le_u (pm_le_u (pm_le_n))))))) ?_
        exact gX8_argument_j85 hfl x6 m5
      · refine pm_iload_n dX8_argument_75 rfl rfl ?_
        refine pm_goto (tgt := 85) dX8_argument_76 rfl ?_
        refine pm_drop (ls2 := [pmU, pmU, pmU, pmU, pmU]) (Nat.le_refl _) (pm_le_spec (pm_le_u (pm_le_u (pm_le_u (pm_le_u (pm_le_u (pm_le_n))))))) ?_
        exact gX8_argument_j85 hfl s28.1 s28.2.2
    · refine pm_iload_n dX8_argument_40 rfl rfl ?_
      refine pm_iload dX8_argument_41 rfl ?_
      refine pm_ishr dX8_argument_43 ?_
      refine pm_iconst (v := 1) dX8_argument_44 ki_1 ?_
      refine pm_iand dX8_argument_45 ?_
      refine pm_iconst (v := 1) dX8_argument_46 ki_1 ?_
      refine pm_icmp_ne (tgt := 65) dX8_argument_47 rfl ?_ ?_
      · exact gX8_argument_j65 hfl again28 l0 l1 l2 s28.1 s28.2.1 s28.2.2 hag28
      · refine pm_iload_n dX8_argument_50 rfl rfl ?_
        refine pm_aload_n dX8_argument_51 rfl rfl ?_
        refine fg_8_8 (y := zX8_argument) (Or.inl tw_447) dX8_argument_52 (fun r8 => ?_)
        refine pm_iload dX8_argument_55 rfl ?_
        refine pm_rcv (fun hb9 hc9 => ?_)
        refine pm_kI (d := d + 2) rfl (pm_VN (y := zX8_argument) (z := zX0_leftBits) (As := [.int s28.2.1]) zkX0_leftBits pm_q0 (by decide) tw_1216 tw_566 tw_10 dX8_argument_57 rfl rfl (Nat.le_of_ble_eq_true rfl) hb9 hc9) (kcX0_leftBits (d := d + 1) hfl r8 s28.2.1 s28.2.2) (fun x10 m9 => ?_)
        refine pm_kI (d := d + 2) rfl (pm_SN (y := zX8_argument) (z := zX4_valueOf) (As := [.int x10]) zkX4_valueOf tw_1217 tw_1218 dX8_argument_60 rfl rfl (Nat.le_of_ble_eq_true rfl)) (kcX4_valueOf (d := d + 2) hfl x10 m9) (fun x12 m11 => ?_)
        refine pm_ixor dX8_argument_63 ?_
        refine pm_bIn (fun x13 => ?_)
        refine pm_istore_n (ls2 := [.ref l0, .int l1, .int l2, .int x13, .int s28.2.1]) dX8_argument_64 rfl rfl (Nat.le_of_ble_eq_true rfl) rfl ?_
        exact gX8_argument_j65 hfl again28 l0 l1 l2 x13 s28.2.1 m11 hag28)
set_option maxRecDepth 100000 in
set_option maxHeartbeats 4000000 in
theorem gX8_argument_j20 (hfl : l.flags = flags0) (l0 : Nat) (l1 : Int32) (l2 : Int32) (t0 : Int32) (t1 : Nat) (m : pmM) : pm_G l Γ zX8_argument (d + 3) 20 [.ref l0, .int l1, .int l2, pmU, pmU] [.int t0, .ref t1] m (X8_argument_j20 l0 l1 l2 t0 t1 m) := by
  unfold X8_argument_j20
  refine pm_rcv (fun hb9 hc9 => ?_)
  refine pm_kV (d := d + 2) rfl (pm_V (y := zX8_argument) (z := zX8_must) (As := [.int t0]) zkX8_must pm_q8 (by decide) tw_684 tw_686 tw_30 dX8_argument_20 rfl rfl (Nat.le_of_ble_eq_true rfl) hb9 hc9) (kcX8_must (d := d + 2) hfl t1 t0 m) (fun m2 => ?_)
  refine pm_iconst (v := 0) dX8_argument_23 ki_0 ?_
  refine pm_istore_n (ls2 := [.ref l0, .int l1, .int l2, .int 0, pmU]) dX8_argument_24 rfl rfl (Nat.le_of_ble_eq_true rfl) rfl ?_
  refine pm_iconst (v := 0) dX8_argument_25 ki_0 ?_
  refine pm_istore (ls2 := [.ref l0, .int l1, .int l2, .int 0, .int 0]) dX8_argument_26 rfl (Nat.le_of_ble_eq_true rfl) rfl ?_
  exact gX8_argument_L28 hfl l0 l1 l2 pm_N (0, 0, m2)
set_option maxRecDepth 100000 in
set_option maxHeartbeats 4000000 in
theorem gX8_argument_j15 (hfl : l.flags = flags0) (l0 : Nat) (l1 : Int32) (l2 : Int32) (t0 : Nat) (m : pmM) : pm_G l Γ zX8_argument (d + 3) 15 [.ref l0, .int l1, .int l2, pmU, pmU] [.ref t0] m (X8_argument_j15 l0 l1 l2 t0 m) := by
  unfold X8_argument_j15
  refine pm_iconst (v := 1) dX8_argument_15 ki_1 ?_
  refine pm_goto (tgt := 20) dX8_argument_16 rfl ?_
  exact gX8_argument_j20 hfl l0 l1 l2 1 t0 m
set_option maxRecDepth 100000 in
set_option maxHeartbeats 4000000 in
theorem kcX8_argument (hfl : l.flags = flags0) (a0 : Nat) (a1 : Int32) (a2 : Int32) (m : pmM) : pm_C l Γ zX8_argument (d + 3) [.ref a0, .int a1, .int a2] m (X8_argument a0 a1 a2 m) := by
  refine pm_enter (ls := [.ref a0, .int a1, .int a2, pmU, pmU]) hfl (by decide +kernel) rfl (Nat.le_of_ble_eq_true rfl) rfl (Nat.le_of_ble_eq_true rfl) ?_
  unfold X8_argument
  refine pm_aload_n dX8_argument_0 rfl rfl ?_
  refine pm_iload_n dX8_argument_1 rfl rfl ?_
  refine pm_rcv (fun hb9 hc9 => ?_)
  refine pm_kV (d := d + 2) rfl (pm_V (y := zX8_argument) (z := zX8_mustBeBits) (As := [.int a1]) zkX8_mustBeBits pm_q8 (by decide) tw_1229 tw_1231 tw_88 dX8_argument_2 rfl rfl (Nat.le_of_ble_eq_true rfl) hb9 hc9) (kcX8_mustBeBits (d := d + 1) hfl a0 a1 m) (fun m1 => ?_)
  refine pm_aload_n dX8_argument_5 rfl rfl ?_
  refine pm_iload_n dX8_argument_6 rfl rfl ?_
  refine pm_if_eq (tgt := 15) dX8_argument_7 rfl ?_ ?_
  · exact gX8_argument_j15 hfl a0 a1 a2 a0 m1
  · refine pm_iload_n dX8_argument_10 rfl rfl ?_
    refine pm_iconst (v := 1) dX8_argument_11 ki_1 ?_
    refine pm_icmp_ne (tgt := 19) dX8_argument_12 rfl ?_ ?_
    · refine pm_iconst (v := 0) dX8_argument_19 ki_0 ?_
      exact gX8_argument_j20 hfl a0 a1 a2 0 a0 m1
    · exact gX8_argument_j15 hfl a0 a1 a2 a0 m1
-- StruckPage.common(II)I
def X8_common (a0 : Nat) (a1 : Int32) (a2 : Int32) (m : pmM) : pmR := pm_rc 8 a0 m <| pm_cV (X8_mustBeLine a0 a1 m) fun m1 => pm_rc 8 a0 m1 <| pm_cV (X8_mustBeLine a0 a2 m1) fun m2 => pm_gR 8 a0 11 m2 fun r3 => pm_gR 8 a0 8 m2 fun r4 => pm_rc 4 r3 m2 <| pm_cI (X4_longestInBoth r3 r4 a1 a2 m2) fun x6 m5 => pm_oI x6 m5
set_option maxRecDepth 100000 in
set_option maxHeartbeats 4000000 in
theorem kcX8_common (hfl : l.flags = flags0) (a0 : Nat) (a1 : Int32) (a2 : Int32) (m : pmM) : pm_C l Γ zX8_common (d + 4) [.ref a0, .int a1, .int a2] m (X8_common a0 a1 a2 m) := by
  refine pm_enter (ls := [.ref a0, .int a1, .int a2]) hfl (by decide +kernel) rfl (Nat.le_of_ble_eq_true rfl) rfl (Nat.le_of_ble_eq_true rfl) ?_
  unfold X8_common
  refine pm_aload_n dX8_common_0 rfl rfl ?_
  refine pm_iload_n dX8_common_1 rfl rfl ?_
  refine pm_rcv (fun hb9 hc9 => ?_)
  refine pm_kV (d := d + 3) rfl (pm_V (y := zX8_common) (z := zX8_mustBeLine) (As := [.int a1]) zkX8_mustBeLine pm_q8 (by decide) tw_1096 tw_1098 tw_81 dX8_common_2 rfl rfl (Nat.le_of_ble_eq_true rfl) hb9 hc9) (kcX8_mustBeLine (d := d + 2) hfl a0 a1 m) (fun m1 => ?_)
  refine pm_aload_n dX8_common_5 rfl rfl ?_
  refine pm_iload_n dX8_common_6 rfl rfl ?_
  refine pm_rcv (fun hb9 hc9 => ?_)
  refine pm_kV (d := d + 3) rfl (pm_V (y := zX8_common) (z := zX8_mustBeLine) (As := [.int a2]) zkX8_mustBeLine pm_q8 (by decide) tw_1096 tw_1098 tw_81 dX8_common_7 rfl rfl (Nat.le_of_ble_eq_true rfl) hb9 hc9) (kcX8_mustBeLine (d := d + 2) hfl a0 a2 m1) (fun m2 => ?_)
  refine pm_aload_n dX8_common_10 rfl rfl ?_
  refine fg_8_11 (y := zX8_common) (Or.inl tw_450) dX8_common_11 (fun r3 => ?_)
  refine pm_aload_n dX8_common_14 rfl rfl ?_
  refine fg_8_8 (y := zX8_common) (Or.inl tw_447) dX8_common_15 (fun r4 => ?_)
  refine pm_iload_n dX8_common_18 rfl rfl ?_
  refine pm_iload_n dX8_common_19 rfl rfl ?_
  refine pm_rcv (fun hb9 hc9 => ?_)
  refine pm_kI (d := d + 3) rfl (pm_VN (y := zX8_common) (z := zX4_longestInBoth) (As := [.ref r4, .int a1, .int a2]) zkX4_longestInBoth pm_q4 (by decide) tw_1244 tw_1246 tw_90 dX8_common_20 rfl rfl (Nat.le_of_ble_eq_true rfl) hb9 hc9) (kcX4_longestInBoth (d := d + 0) hfl r3 r4 a1 a2 m2) (fun x6 m5 => ?_)
  exact pm_iret rfl dX8_common_23
-- StruckPage.givenBy(II)I
def X8_givenBy_j43 (again5 : (Int32 × Int32 × pmM) → pmR) (l0 : Nat) (l1 : Int32) (l2 : Int32) (l3 : Int32) (l4 : Int32) (m : pmM) : pmR := pm_bI (l4 + 1) fun x3 => again5 (l3, x3, m)
def X8_givenBy_L5 (l0 : Nat) (l1 : Int32) (l2 : Int32) (again5 : (Int32 × Int32 × pmM) → pmR) (s5 : Int32 × Int32 × pmM) : pmR := pm_gR 8 l0 1 s5.2.2 fun r1 => pm_gI 2 r1 3 s5.2.2 fun x2 => if x2 ≤ s5.2.1 then (pm_oI s5.1 s5.2.2) else (if ((l1 >>> (s5.2.1 &&& 31)) &&& 1) = 1 then (pm_gR 8 l0 8 s5.2.2 fun r4 => pm_rc 0 r4 s5.2.2 <| pm_cI (X0_leftIn r4 s5.2.1 s5.2.2) fun x6 m5 => pm_bI (s5.1 + (if l2 < x6 then l2 else x6)) fun x7 => X8_givenBy_j43 again5 l0 l1 l2 x7 s5.2.1 m5) else (X8_givenBy_j43 again5 l0 l1 l2 s5.1 s5.2.1 s5.2.2))
def X8_givenBy (a0 : Nat) (a1 : Int32) (a2 : Int32) (m : pmM) : pmR := pm_lp pm_N (X8_givenBy_L5 a0 a1 a2) (0, 0, m)
set_option maxRecDepth 100000 in
set_option maxHeartbeats 4000000 in
theorem gX8_givenBy_j43 (hfl : l.flags = flags0) (again5 : (Int32 × Int32 × pmM) → pmR) (l0 : Nat) (l1 : Int32) (l2 : Int32) (l3 : Int32) (l4 : Int32) (m : pmM) (hag5 : ∀ s : Int32 × Int32 × pmM, pm_G l Γ zX8_givenBy (d + 2) 5 [.ref l0, .int l1, .int l2, .int s.1, .int s.2.1] [] s.2.2 (again5 s)) : pm_G l Γ zX8_givenBy (d + 2) 43 [.ref l0, .int l1, .int l2, .int l3, .int l4] [] m (X8_givenBy_j43 again5 l0 l1 l2 l3 l4 m) := by
  unfold X8_givenBy_j43
  refine pm_iincn (y := zX8_givenBy) dX8_givenBy_43 rfl ki_1 rfl (Nat.le_of_ble_eq_true rfl) (fun x3 => ?_)
  refine pm_eqls (ls2 := [.ref l0, .int l1, .int l2, .int l3, .int x3]) rfl ?_
  refine pm_goto (tgt := 5) dX8_givenBy_46 rfl ?_
  exact hag5 (l3, x3, m)
set_option maxRecDepth 100000 in
set_option maxHeartbeats 4000000 in
theorem gX8_givenBy_L5 (hfl : l.flags = flags0) (l0 : Nat) (l1 : Int32) (l2 : Int32) : ∀ (n : Nat) (s : Int32 × Int32 × pmM), pm_G l Γ zX8_givenBy (d + 2) 5 [.ref l0, .int l1, .int l2, .int s.1, .int s.2.1] [] s.2.2 (pm_lp n (X8_givenBy_L5 l0 l1 l2) s) :=
  pm_loop (lsf := fun s : Int32 × Int32 × pmM => [.ref l0, .int l1, .int l2, .int s.1, .int s.2.1]) (mf := fun s : Int32 × Int32 × pmM => s.2.2) (fun again5 hag5 s5 => by
    unfold X8_givenBy_L5
    refine pm_iload dX8_givenBy_5 rfl ?_
    refine pm_aload_n dX8_givenBy_7 rfl rfl ?_
    refine fg_8_1 (y := zX8_givenBy) (Or.inl tw_440) dX8_givenBy_8 (fun r1 => ?_)
    refine fg_2_3 (y := zX8_givenBy) (Or.inr tw_246) dX8_givenBy_11 (fun x2 => ?_)
    refine pm_icmp_ge (tgt := 49) dX8_givenBy_14 rfl ?_ ?_
    · refine pm_iload_n dX8_givenBy_49 rfl rfl ?_
      exact pm_iret rfl dX8_givenBy_50
    · refine pm_iload_n dX8_givenBy_17 rfl rfl ?_
      refine pm_iload dX8_givenBy_18 rfl ?_
      refine pm_ishr dX8_givenBy_20 ?_
      refine pm_iconst (v := 1) dX8_givenBy_21 ki_1 ?_
      refine pm_iand dX8_givenBy_22 ?_
      refine pm_iconst (v := 1) dX8_givenBy_23 ki_1 ?_
      refine pm_icmp_ne (tgt := 43) dX8_givenBy_24 rfl ?_ ?_
      · exact gX8_givenBy_j43 hfl again5 l0 l1 l2 s5.1 s5.2.1 s5.2.2 hag5
      · refine pm_iload_n dX8_givenBy_27 rfl rfl ?_
        refine pm_aload_n dX8_givenBy_28 rfl rfl ?_
        refine fg_8_8 (y := zX8_givenBy) (Or.inl tw_447) dX8_givenBy_29 (fun r4 => ?_)
        refine pm_iload dX8_givenBy_32 rfl ?_
        refine pm_rcv (fun hb9 hc9 => ?_)
        refine pm_kI (d := d + 1) rfl (pm_VN (y := zX8_givenBy) (z := zX0_leftIn) (As := [.int s5.2.1]) zkX0_leftIn pm_q0 (by decide) tw_1084 tw_1086 tw_80 dX8_givenBy_34 rfl rfl (Nat.le_of_ble_eq_true rfl) hb9 hc9) (kcX0_leftIn (d := d + 0) hfl r4 s5.2.1 s5.2.2) (fun x6 m5 => ?_)
        refine pm_iload_n dX8_givenBy_37 rfl rfl ?_
        refine pm_min (y := zX8_givenBy) tw_1288 tw_590 tw_171 tw_591 dX8_givenBy_38 (Nat.le_of_ble_eq_true rfl) ?_
        refine pm_iadd dX8_givenBy_41 ?_
        refine pm_bIn (fun x7 => ?_)
        refine pm_istore_n (ls2 := [.ref l0, .int l1, .int l2, .int x7, .int s5.2.1]) dX8_givenBy_42 rfl rfl (Nat.le_of_ble_eq_true rfl) rfl ?_
        exact gX8_givenBy_j43 hfl again5 l0 l1 l2 x7 s5.2.1 m5 hag5)
set_option maxRecDepth 100000 in
set_option maxHeartbeats 4000000 in
theorem kcX8_givenBy (hfl : l.flags = flags0) (a0 : Nat) (a1 : Int32) (a2 : Int32) (m : pmM) : pm_C l Γ zX8_givenBy (d + 2) [.ref a0, .int a1, .int a2] m (X8_givenBy a0 a1 a2 m) := by
  refine pm_enter (ls := [.ref a0, .int a1, .int a2, pmU, pmU]) hfl (by decide +kernel) rfl (Nat.le_of_ble_eq_true rfl) rfl (Nat.le_of_ble_eq_true rfl) ?_
  unfold X8_givenBy
  refine pm_iconst (v := 0) dX8_givenBy_0 ki_0 ?_
  refine pm_istore_n (ls2 := [.ref a0, .int a1, .int a2, .int 0, pmU]) dX8_givenBy_1 rfl rfl (Nat.le_of_ble_eq_true rfl) rfl ?_
  refine pm_iconst (v := 0) dX8_givenBy_2 ki_0 ?_
  refine pm_istore (ls2 := [.ref a0, .int a1, .int a2, .int 0, .int 0]) dX8_givenBy_3 rfl (Nat.le_of_ble_eq_true rfl) rfl ?_
  exact gX8_givenBy_L5 hfl a0 a1 a2 pm_N (0, 0, m)
-- StruckPage.share(III)I
def X8_share_j66 (l0 : Nat) (l1 : Int32) (l4 : Int32) (m : pmM) : pmR := pm_gR 8 l0 8 m fun r4 => pm_rc 0 r4 m <| pm_cI (X0_leftIn r4 l1 m) fun x6 m5 => pm_oI (if l4 < x6 then l4 else x6) m5
def X8_share_L44 (l0 : Nat) (l1 : Int32) (l2 : Int32) (l3 : Int32) (again44 : (Int32 × pmM) → pmR) (s44 : Int32 × pmM) : pmR := if s44.1 ≤ 0 then (X8_share_j66 l0 l1 s44.1 s44.2) else (pm_rc 8 l0 s44.2 <| pm_cI (X8_givenBy l0 l2 s44.1 s44.2) fun x8 m7 => if x8 ≤ l3 then (X8_share_j66 l0 l1 s44.1 m7) else (pm_bI (s44.1 + (-1)) fun x9 => again44 (x9, m7)))
def X8_share_j27 (l0 : Nat) (l1 : Int32) (l2 : Int32) (l3 : Int32) (t0 : Int32) (t1 : Nat) (m : pmM) : pmR := pm_rc 8 t1 m <| pm_cV (X8_must t1 t0 m) fun m3 => if ((l2 >>> (l1 &&& 31)) &&& 1) = 0 then (pm_oI 0 m3) else (pm_lp pm_N (X8_share_L44 l0 l1 l2 l3) (8, m3))
def X8_share_j26 (l0 : Nat) (l1 : Int32) (l2 : Int32) (l3 : Int32) (t0 : Nat) (m : pmM) : pmR := X8_share_j27 l0 l1 l2 l3 0 t0 m
def X8_share (a0 : Nat) (a1 : Int32) (a2 : Int32) (a3 : Int32) (m : pmM) : pmR := pm_rc 8 a0 m <| pm_cV (X8_mustBeLine a0 a1 m) fun m1 => pm_rc 8 a0 m1 <| pm_cV (X8_mustBeBits a0 a2 m1) fun m2 => if a3 < 0 then (X8_share_j26 a0 a1 a2 a3 a0 m2) else (if (200 : Int32) < a3 then (X8_share_j26 a0 a1 a2 a3 a0 m2) else (X8_share_j27 a0 a1 a2 a3 1 a0 m2))
set_option maxRecDepth 100000 in
set_option maxHeartbeats 4000000 in
theorem gX8_share_j66 (hfl : l.flags = flags0) (l0 : Nat) (l1 : Int32) (l4 : Int32) (m : pmM) : pm_G l Γ zX8_share (d + 3) 66 [.ref l0, .int l1, pmU, pmU, .int l4] [] m (X8_share_j66 l0 l1 l4 m) := by
  unfold X8_share_j66
  refine pm_aload_n dX8_share_66 rfl rfl ?_
  refine fg_8_8 (y := zX8_share) (Or.inl tw_447) dX8_share_67 (fun r4 => ?_)
  refine pm_iload_n dX8_share_70 rfl rfl ?_
  refine pm_rcv (fun hb9 hc9 => ?_)
  refine pm_kI (d := d + 2) rfl (pm_VN (y := zX8_share) (z := zX0_leftIn) (As := [.int l1]) zkX0_leftIn pm_q0 (by decide) tw_1084 tw_1086 tw_80 dX8_share_71 rfl rfl (Nat.le_of_ble_eq_true rfl) hb9 hc9) (kcX0_leftIn (d := d + 1) hfl r4 l1 m) (fun x6 m5 => ?_)
  refine pm_iload dX8_share_74 rfl ?_
  refine pm_min (y := zX8_share) tw_1288 tw_590 tw_171 tw_591 dX8_share_76 (Nat.le_of_ble_eq_true rfl) ?_
  exact pm_iret rfl dX8_share_79
set_option maxRecDepth 100000 in
set_option maxHeartbeats 4000000 in
theorem gX8_share_L44 (hfl : l.flags = flags0) (l0 : Nat) (l1 : Int32) (l2 : Int32) (l3 : Int32) : ∀ (n : Nat) (s : Int32 × pmM), pm_G l Γ zX8_share (d + 3) 44 [.ref l0, .int l1, .int l2, .int l3, .int s.1] [] s.2 (pm_lp n (X8_share_L44 l0 l1 l2 l3) s) :=
  pm_loop (lsf := fun s : Int32 × pmM => [.ref l0, .int l1, .int l2, .int l3, .int s.1]) (mf := fun s : Int32 × pmM => s.2) (fun again44 hag44 s44 => by
    unfold X8_share_L44
    refine pm_iload dX8_share_44 rfl ?_
    refine pm_if_le (tgt := 66) dX8_share_46 rfl ?_ ?_
    · refine pm_drop (ls2 := [.ref l0, .int l1, pmU, pmU, .int s44.1]) (Nat.le_refl _) (pm_le_spec (pm_le_v (pm_le_v (pm_le_u (pm_le_u (pm_le_v (pm_le_n))))))) ?_
      exact gX8_share_j66 hfl l0 l1 s44.1 s44.2
    · refine pm_aload_n dX8_share_49 rfl rfl ?_
      refine pm_iload_n dX8_share_50 rfl rfl ?_
      refine pm_iload dX8_share_51 rfl ?_
      refine pm_rcv (fun hb9 hc9 => ?_)
      refine pm_kI (d := d + 2) rfl (pm_V (y := zX8_share) (z := zX8_givenBy) (As := [.int l2, .int s44.1]) zkX8_givenBy pm_q8 (by decide) tw_1284 tw_1286 tw_92 dX8_share_53 rfl rfl (Nat.le_of_ble_eq_true rfl) hb9 hc9) (kcX8_givenBy (d := d + 0) hfl l0 l2 s44.1 s44.2) (fun x8 m7 => ?_)
      refine pm_iload_n dX8_share_56 rfl rfl ?_
      refine pm_icmp_le (tgt := 66) dX8_share_57 rfl ?_ ?_
      · refine pm_drop (ls2 := [.ref l0, .int l1, pmU, pmU, .int s44.1]) (Nat.le_refl _) (pm_le_spec (pm_le_v (pm_le_v (pm_le_u (pm_le_u (pm_le_v (pm_le_n))))))) ?_
        exact gX8_share_j66 hfl l0 l1 s44.1 m7
      · refine pm_iincn (y := zX8_share) dX8_share_60 rfl ki_n1 rfl (Nat.le_of_ble_eq_true rfl) (fun x9 => ?_)
        refine pm_eqls (ls2 := [.ref l0, .int l1, .int l2, .int l3, .int x9]) rfl ?_
        refine pm_goto (tgt := 44) dX8_share_63 rfl ?_
        exact hag44 (x9, m7))
set_option maxRecDepth 100000 in
set_option maxHeartbeats 4000000 in
theorem gX8_share_j27 (hfl : l.flags = flags0) (l0 : Nat) (l1 : Int32) (l2 : Int32) (l3 : Int32) (t0 : Int32) (t1 : Nat) (m : pmM) : pm_G l Γ zX8_share (d + 3) 27 [.ref l0, .int l1, .int l2, .int l3, pmU] [.int t0, .ref t1] m (X8_share_j27 l0 l1 l2 l3 t0 t1 m) := by
  unfold X8_share_j27
  refine pm_rcv (fun hb9 hc9 => ?_)
  refine pm_kV (d := d + 2) rfl (pm_V (y := zX8_share) (z := zX8_must) (As := [.int t0]) zkX8_must pm_q8 (by decide) tw_684 tw_686 tw_30 dX8_share_27 rfl rfl (Nat.le_of_ble_eq_true rfl) hb9 hc9) (kcX8_must (d := d + 2) hfl t1 t0 m) (fun m3 => ?_)
  refine pm_iload_n dX8_share_30 rfl rfl ?_
  refine pm_iload_n dX8_share_31 rfl rfl ?_
  refine pm_ishr dX8_share_32 ?_
  refine pm_iconst (v := 1) dX8_share_33 ki_1 ?_
  refine pm_iand dX8_share_34 ?_
  refine pm_if_ne (tgt := 40) dX8_share_35 rfl ?_ ?_
  · refine pm_bipush (v := 8) dX8_share_40 kb_8 ?_
    refine pm_istore (ls2 := [.ref l0, .int l1, .int l2, .int l3, .int 8]) dX8_share_42 rfl (Nat.le_of_ble_eq_true rfl) rfl ?_
    exact gX8_share_L44 hfl l0 l1 l2 l3 pm_N (8, m3)
  · refine pm_iconst (v := 0) dX8_share_38 ki_0 ?_
    exact pm_iret rfl dX8_share_39
set_option maxRecDepth 100000 in
set_option maxHeartbeats 4000000 in
theorem gX8_share_j26 (hfl : l.flags = flags0) (l0 : Nat) (l1 : Int32) (l2 : Int32) (l3 : Int32) (t0 : Nat) (m : pmM) : pm_G l Γ zX8_share (d + 3) 26 [.ref l0, .int l1, .int l2, .int l3, pmU] [.ref t0] m (X8_share_j26 l0 l1 l2 l3 t0 m) := by
  unfold X8_share_j26
  refine pm_iconst (v := 0) dX8_share_26 ki_0 ?_
  exact gX8_share_j27 hfl l0 l1 l2 l3 0 t0 m
set_option maxRecDepth 100000 in
set_option maxHeartbeats 4000000 in
theorem kcX8_share (hfl : l.flags = flags0) (a0 : Nat) (a1 : Int32) (a2 : Int32) (a3 : Int32) (m : pmM) : pm_C l Γ zX8_share (d + 3) [.ref a0, .int a1, .int a2, .int a3] m (X8_share a0 a1 a2 a3 m) := by
  refine pm_enter (ls := [.ref a0, .int a1, .int a2, .int a3, pmU]) hfl (by decide +kernel) rfl (Nat.le_of_ble_eq_true rfl) rfl (Nat.le_of_ble_eq_true rfl) ?_
  unfold X8_share
  refine pm_aload_n dX8_share_0 rfl rfl ?_
  refine pm_iload_n dX8_share_1 rfl rfl ?_
  refine pm_rcv (fun hb9 hc9 => ?_)
  refine pm_kV (d := d + 2) rfl (pm_V (y := zX8_share) (z := zX8_mustBeLine) (As := [.int a1]) zkX8_mustBeLine pm_q8 (by decide) tw_1096 tw_1098 tw_81 dX8_share_2 rfl rfl (Nat.le_of_ble_eq_true rfl) hb9 hc9) (kcX8_mustBeLine (d := d + 1) hfl a0 a1 m) (fun m1 => ?_)
  refine pm_aload_n dX8_share_5 rfl rfl ?_
  refine pm_iload_n dX8_share_6 rfl rfl ?_
  refine pm_rcv (fun hb9 hc9 => ?_)
  refine pm_kV (d := d + 2) rfl (pm_V (y := zX8_share) (z := zX8_mustBeBits) (As := [.int a2]) zkX8_mustBeBits pm_q8 (by decide) tw_1229 tw_1231 tw_88 dX8_share_7 rfl rfl (Nat.le_of_ble_eq_true rfl) hb9 hc9) (kcX8_mustBeBits (d := d + 1) hfl a0 a2 m1) (fun m2 => ?_)
  refine pm_aload_n dX8_share_10 rfl rfl ?_
  refine pm_iload_n dX8_share_11 rfl rfl ?_
  refine pm_if_lt (tgt := 26) dX8_share_12 rfl ?_ ?_
  · exact gX8_share_j26 hfl a0 a1 a2 a3 a0 m2
  · refine pm_iload_n dX8_share_15 rfl rfl ?_
    refine pm_sipush (v := 200) dX8_share_16 ks_200 ?_
    refine pm_icmp_gt (tgt := 26) dX8_share_19 rfl ?_ ?_
    · exact gX8_share_j26 hfl a0 a1 a2 a3 a0 m2
    · refine pm_iconst (v := 1) dX8_share_22 ki_1 ?_
      refine pm_goto (tgt := 27) dX8_share_23 rfl ?_
      exact gX8_share_j27 hfl a0 a1 a2 a3 1 a0 m2
-- StruckPage.hadBy(IIII)I
def X8_hadBy_j24 (t0 : Int32) (m : pmM) : pmR := pm_oI t0 m
def X8_hadBy_j14 (t0 : Int32) (m : pmM) : pmR := pm_oI t0 m
def X8_hadBy (a0 : Int32) (a1 : Int32) (a2 : Int32) (a3 : Int32) (m : pmM) : pmR := if a2 = 0 then (if a3 = 0 then (X8_hadBy_j14 (-a1) m) else (X8_hadBy_j14 a0 m)) else (if a3 = 0 then (X8_hadBy_j24 0 m) else (X8_hadBy_j24 a1 m))
set_option maxRecDepth 100000 in
set_option maxHeartbeats 4000000 in
theorem gX8_hadBy_j24 (hfl : l.flags = flags0) (t0 : Int32) (m : pmM) : pm_G l Γ zX8_hadBy (d + 0) 24 [pmU, pmU, pmU, pmU] [.int t0] m (X8_hadBy_j24 t0 m) := by
  unfold X8_hadBy_j24
  exact pm_iret rfl dX8_hadBy_24
set_option maxRecDepth 100000 in
set_option maxHeartbeats 4000000 in
theorem gX8_hadBy_j14 (hfl : l.flags = flags0) (t0 : Int32) (m : pmM) : pm_G l Γ zX8_hadBy (d + 0) 14 [pmU, pmU, pmU, pmU] [.int t0] m (X8_hadBy_j14 t0 m) := by
  unfold X8_hadBy_j14
  exact pm_iret rfl dX8_hadBy_14
set_option maxRecDepth 100000 in
set_option maxHeartbeats 4000000 in
theorem kcX8_hadBy (hfl : l.flags = flags0) (a0 : Int32) (a1 : Int32) (a2 : Int32) (a3 : Int32) (m : pmM) : pm_C l Γ zX8_hadBy (d + 0) [.int a0, .int a1, .int a2, .int a3] m (X8_hadBy a0 a1 a2 a3 m) := by
  refine pm_enter (ls := [.int a0, .int a1, .int a2, .int a3]) hfl (by decide +kernel) rfl (Nat.le_of_ble_eq_true rfl) rfl (Nat.le_of_ble_eq_true rfl) ?_
  unfold X8_hadBy
  refine pm_iload_n dX8_hadBy_0 rfl rfl ?_
  refine pm_if_ne (tgt := 15) dX8_hadBy_1 rfl ?_ ?_
  · refine pm_iload_n dX8_hadBy_15 rfl rfl ?_
    refine pm_if_ne (tgt := 23) dX8_hadBy_16 rfl ?_ ?_
    · refine pm_iload_n dX8_hadBy_23 rfl rfl ?_
      refine pm_drop (ls2 := [pmU, pmU, pmU, pmU]) (Nat.le_refl _) (pm_le_spec (pm_le_u (pm_le_u (pm_le_u (pm_le_u (pm_le_n)))))) ?_
      exact gX8_hadBy_j24 hfl a1 m
    · refine pm_iconst (v := 0) dX8_hadBy_19 ki_0 ?_
      refine pm_goto (tgt := 24) dX8_hadBy_20 rfl ?_
      refine pm_drop (ls2 := [pmU, pmU, pmU, pmU]) (Nat.le_refl _) (pm_le_spec (pm_le_u (pm_le_u (pm_le_u (pm_le_u (pm_le_n)))))) ?_
      exact gX8_hadBy_j24 hfl 0 m
  · refine pm_iload_n dX8_hadBy_4 rfl rfl ?_
    refine pm_if_ne (tgt := 13) dX8_hadBy_5 rfl ?_ ?_
    · refine pm_iload_n dX8_hadBy_13 rfl rfl ?_
      refine pm_drop (ls2 := [pmU, pmU, pmU, pmU]) (Nat.le_refl _) (pm_le_spec (pm_le_u (pm_le_u (pm_le_u (pm_le_u (pm_le_n)))))) ?_
      exact gX8_hadBy_j14 hfl a0 m
    · refine pm_iload_n dX8_hadBy_8 rfl rfl ?_
      refine pm_ineg dX8_hadBy_9 ?_
      refine pm_goto (tgt := 14) dX8_hadBy_10 rfl ?_
      refine pm_drop (ls2 := [pmU, pmU, pmU, pmU]) (Nat.le_refl _) (pm_le_spec (pm_le_u (pm_le_u (pm_le_u (pm_le_u (pm_le_n)))))) ?_
      exact gX8_hadBy_j14 hfl (-a1) m
-- StruckPage.restsThere(IIII)Z
def X8_restsThere_j43 (t0 : Int32) (m : pmM) : pmR := pm_oI (vp_nar .boolean t0) m
def X8_restsThere_j42 (m : pmM) : pmR := X8_restsThere_j43 0 m
def X8_restsThere (a0 : Int32) (a1 : Int32) (a2 : Int32) (a3 : Int32) (m : pmM) : pmR := pm_cI (X8_hadBy a0 a1 a2 a3 m) fun x2 m1 => pm_cI (X8_hadBy a0 a1 ((1 : Int32) - a2) a3 m1) fun x4 m3 => if x2 < x4 then (X8_restsThere_j42 m3) else (pm_cI (X8_hadBy a0 a1 a3 a2 m3) fun x6 m5 => pm_cI (X8_hadBy a0 a1 ((1 : Int32) - a3) a2 m5) fun x8 m7 => if x6 < x8 then (X8_restsThere_j42 m7) else (X8_restsThere_j43 1 m7))
set_option maxRecDepth 100000 in
set_option maxHeartbeats 4000000 in
theorem gX8_restsThere_j43 (hfl : l.flags = flags0) (t0 : Int32) (m : pmM) : pm_G l Γ zX8_restsThere (d + 1) 43 [pmU, pmU, pmU, pmU] [.int t0] m (X8_restsThere_j43 t0 m) := by
  unfold X8_restsThere_j43
  exact pm_nret (ty := .boolean) (w := vp_nar .boolean t0) rfl (by decide) rfl dX8_restsThere_43
set_option maxRecDepth 100000 in
set_option maxHeartbeats 4000000 in
theorem gX8_restsThere_j42 (hfl : l.flags = flags0) (m : pmM) : pm_G l Γ zX8_restsThere (d + 1) 42 [pmU, pmU, pmU, pmU] [] m (X8_restsThere_j42 m) := by
  unfold X8_restsThere_j42
  refine pm_iconst (v := 0) dX8_restsThere_42 ki_0 ?_
  exact gX8_restsThere_j43 hfl 0 m
set_option maxRecDepth 100000 in
set_option maxHeartbeats 4000000 in
theorem kcX8_restsThere (hfl : l.flags = flags0) (a0 : Int32) (a1 : Int32) (a2 : Int32) (a3 : Int32) (m : pmM) : pm_C l Γ zX8_restsThere (d + 1) [.int a0, .int a1, .int a2, .int a3] m (X8_restsThere a0 a1 a2 a3 m) := by
  refine pm_enter (ls := [.int a0, .int a1, .int a2, .int a3]) hfl (by decide +kernel) rfl (Nat.le_of_ble_eq_true rfl) rfl (Nat.le_of_ble_eq_true rfl) ?_
  unfold X8_restsThere
  refine pm_iload_n dX8_restsThere_0 rfl rfl ?_
  refine pm_iload_n dX8_restsThere_1 rfl rfl ?_
  refine pm_iload_n dX8_restsThere_2 rfl rfl ?_
  refine pm_iload_n dX8_restsThere_3 rfl rfl ?_
  refine pm_kI (d := d + 0) rfl (pm_S (y := zX8_restsThere) (z := zX8_hadBy) (As := [.int a0, .int a1, .int a2, .int a3]) zkX8_hadBy tw_1263 tw_1264 dX8_restsThere_4 rfl rfl (Nat.le_of_ble_eq_true rfl)) (kcX8_hadBy (d := d + 0) hfl a0 a1 a2 a3 m) (fun x2 m1 => ?_)
  refine pm_iload_n dX8_restsThere_7 rfl rfl ?_
  refine pm_iload_n dX8_restsThere_8 rfl rfl ?_
  refine pm_iconst (v := 1) dX8_restsThere_9 ki_1 ?_
  refine pm_iload_n dX8_restsThere_10 rfl rfl ?_
  refine pm_isub dX8_restsThere_11 ?_
  refine pm_iload_n dX8_restsThere_12 rfl rfl ?_
  refine pm_kI (d := d + 0) rfl (pm_S (y := zX8_restsThere) (z := zX8_hadBy) (As := [.int a0, .int a1, .int ((1 : Int32) - a2), .int a3]) zkX8_hadBy tw_1263 tw_1264 dX8_restsThere_13 rfl rfl (Nat.le_of_ble_eq_true rfl)) (kcX8_hadBy (d := d + 0) hfl a0 a1 ((1 : Int32) - a2) a3 m1) (fun x4 m3 => ?_)
  refine pm_icmp_lt (tgt := 42) dX8_restsThere_16 rfl ?_ ?_
  · refine pm_drop (ls2 := [pmU, pmU, pmU, pmU]) (Nat.le_refl _) (pm_le_spec (pm_le_u (pm_le_u (pm_le_u (pm_le_u (pm_le_n)))))) ?_
    exact gX8_restsThere_j42 hfl m3
  · refine pm_iload_n dX8_restsThere_19 rfl rfl ?_
    refine pm_iload_n dX8_restsThere_20 rfl rfl ?_
    refine pm_iload_n dX8_restsThere_21 rfl rfl ?_
    refine pm_iload_n dX8_restsThere_22 rfl rfl ?_
    refine pm_kI (d := d + 0) rfl (pm_S (y := zX8_restsThere) (z := zX8_hadBy) (As := [.int a0, .int a1, .int a3, .int a2]) zkX8_hadBy tw_1263 tw_1264 dX8_restsThere_23 rfl rfl (Nat.le_of_ble_eq_true rfl)) (kcX8_hadBy (d := d + 0) hfl a0 a1 a3 a2 m3) (fun x6 m5 => ?_)
    refine pm_iload_n dX8_restsThere_26 rfl rfl ?_
    refine pm_iload_n dX8_restsThere_27 rfl rfl ?_
    refine pm_iconst (v := 1) dX8_restsThere_28 ki_1 ?_
    refine pm_iload_n dX8_restsThere_29 rfl rfl ?_
    refine pm_isub dX8_restsThere_30 ?_
    refine pm_iload_n dX8_restsThere_31 rfl rfl ?_
    refine pm_kI (d := d + 0) rfl (pm_S (y := zX8_restsThere) (z := zX8_hadBy) (As := [.int a0, .int a1, .int ((1 : Int32) - a3), .int a2]) zkX8_hadBy tw_1263 tw_1264 dX8_restsThere_32 rfl rfl (Nat.le_of_ble_eq_true rfl)) (kcX8_hadBy (d := d + 0) hfl a0 a1 ((1 : Int32) - a3) a2 m5) (fun x8 m7 => ?_)
    refine pm_icmp_lt (tgt := 42) dX8_restsThere_35 rfl ?_ ?_
    · refine pm_drop (ls2 := [pmU, pmU, pmU, pmU]) (Nat.le_refl _) (pm_le_spec (pm_le_u (pm_le_u (pm_le_u (pm_le_u (pm_le_n)))))) ?_
      exact gX8_restsThere_j42 hfl m7
    · refine pm_iconst (v := 1) dX8_restsThere_38 ki_1 ?_
      refine pm_goto (tgt := 43) dX8_restsThere_39 rfl ?_
      refine pm_drop (ls2 := [pmU, pmU, pmU, pmU]) (Nat.le_refl _) (pm_le_spec (pm_le_u (pm_le_u (pm_le_u (pm_le_u (pm_le_n)))))) ?_
      exact gX8_restsThere_j43 hfl 1 m7
end GEN12
