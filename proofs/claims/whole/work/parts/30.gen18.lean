section GEN18
variable {l : Launch} {Γ : pmG} {d : Nat}
-- StruckPageModel.byLaw()I
def X9_byLaw_j123 (again20 : (Int32 × Int32 × pmM) → pmR) (l0 : Nat) (l1 : Int32) (l2 : Int32) (m : pmM) : pmR := pm_bI (l2 + 1) fun x27 => again20 (l1, x27, m)
def X9_byLaw_j80 (again20 : (Int32 × Int32 × pmM) → pmR) (l0 : Nat) (l1 : Int32) (l2 : Int32) (t0 : Int32) (t1 : Int32) (t2 : Nat) (m : pmM) : pmR := pm_st 100 t2 t1 t0 m fun m37 => pm_bI (l1 + 1) fun x38 => X9_byLaw_j123 again20 l0 x38 l2 m37
def X9_byLaw_L20 (l0 : Nat) (again20 : (Int32 × Int32 × pmM) → pmR) (s20 : Int32 × Int32 × pmM) : pmR := pm_gI 9 l0 19 s20.2.2 fun x5 => if x5 ≤ s20.2.1 then (pm_gR 9 l0 23 s20.2.2 fun r6 => pm_ld 100 r6 0 s20.2.2 fun x7 => pm_cI (X9_more 0 x7 s20.2.2) fun x9 m8 => pm_cI (X9_less 60 x9 m8) fun x11 m10 => pm_oI x11 m10) else (pm_gR 9 l0 21 s20.2.2 fun r12 => pm_ldR 103 r12 s20.2.1 s20.2.2 fun r13 => pm_ld 100 r13 0 s20.2.2 fun x14 => if (2 : Int32) ≤ x14 then (pm_bI (s20.1 + (-1)) fun x15 => pm_gR 9 l0 23 s20.2.2 fun r16 => pm_gR 9 l0 21 s20.2.2 fun r17 => pm_ldR 103 r17 s20.2.1 s20.2.2 fun r18 => pm_ld 100 r18 0 s20.2.2 fun x19 => pm_gR 9 l0 23 s20.2.2 fun r20 => pm_ld 100 r20 (x15 - 1) s20.2.2 fun x21 => pm_gR 9 l0 23 s20.2.2 fun r22 => pm_ld 100 r22 x15 s20.2.2 fun x23 => pm_cI (X9_by x19 x21 x23 s20.2.2) fun x25 m24 => pm_st 100 r16 (x15 - 1) x25 m24 fun m26 => X9_byLaw_j123 again20 l0 x15 s20.2.1 m26) else (pm_gR 9 l0 23 s20.2.2 fun r28 => pm_gR 9 l0 21 s20.2.2 fun r29 => pm_ldR 103 r29 s20.2.1 s20.2.2 fun r30 => pm_ld 100 r30 0 s20.2.2 fun x31 => if x31 = 0 then (pm_gR 9 l0 21 s20.2.2 fun r39 => pm_ldR 103 r39 s20.2.1 s20.2.2 fun r40 => pm_ld 100 r40 1 s20.2.2 fun x41 => X9_byLaw_j80 again20 l0 s20.1 s20.2.1 x41 s20.1 r28 s20.2.2) else (pm_gR 9 l0 24 s20.2.2 fun r32 => pm_gR 9 l0 21 s20.2.2 fun r33 => pm_ldR 103 r33 s20.2.1 s20.2.2 fun r34 => pm_ld 100 r34 1 s20.2.2 fun x35 => pm_ld 100 r32 x35 s20.2.2 fun x36 => X9_byLaw_j80 again20 l0 s20.1 s20.2.1 x36 s20.1 r28 s20.2.2)))
def X9_byLaw (a0 : Nat) (m : pmM) : pmR := pm_gR 9 a0 23 m fun r1 => pm_gR 9 a0 24 m fun r2 => pm_ld 100 r2 0 m fun x3 => if (2 : Int32) = 0 then none else pm_st 100 r1 0 ((1 : Int32) + (x3 / 2)) m fun m4 => pm_lp pm_N (X9_byLaw_L20 a0) (0, 0, m4)
set_option maxRecDepth 100000 in
set_option maxHeartbeats 4000000 in
theorem gX9_byLaw_j123 (hfl : l.flags = flags0) (again20 : (Int32 × Int32 × pmM) → pmR) (l0 : Nat) (l1 : Int32) (l2 : Int32) (m : pmM) (hag20 : ∀ s : Int32 × Int32 × pmM, pm_G l Γ zX9_byLaw (d + 2) 20 [.ref l0, .int s.1, .int s.2.1] [] s.2.2 (again20 s)) : pm_G l Γ zX9_byLaw (d + 2) 123 [.ref l0, .int l1, .int l2] [] m (X9_byLaw_j123 again20 l0 l1 l2 m) := by
  unfold X9_byLaw_j123
  refine pm_iincn (y := zX9_byLaw) dX9_byLaw_123 rfl ki_1 rfl (Nat.le_of_ble_eq_true rfl) (fun x27 => ?_)
  refine pm_eqls (ls2 := [.ref l0, .int l1, .int x27]) rfl ?_
  refine pm_goto (tgt := 20) dX9_byLaw_126 rfl ?_
  exact hag20 (l1, x27, m)
set_option maxRecDepth 100000 in
set_option maxHeartbeats 4000000 in
theorem gX9_byLaw_j80 (hfl : l.flags = flags0) (again20 : (Int32 × Int32 × pmM) → pmR) (l0 : Nat) (l1 : Int32) (l2 : Int32) (t0 : Int32) (t1 : Int32) (t2 : Nat) (m : pmM) (hag20 : ∀ s : Int32 × Int32 × pmM, pm_G l Γ zX9_byLaw (d + 2) 20 [.ref l0, .int s.1, .int s.2.1] [] s.2.2 (again20 s)) : pm_G l Γ zX9_byLaw (d + 2) 80 [.ref l0, .int l1, .int l2] [.int t0, .int t1, .ref t2] m (X9_byLaw_j80 again20 l0 l1 l2 t0 t1 t2 m) := by
  unfold X9_byLaw_j80
  refine pm_iast (y := zX9_byLaw) dX9_byLaw_80 (fun m37 => ?_)
  refine pm_iincn (y := zX9_byLaw) dX9_byLaw_81 rfl ki_1 rfl (Nat.le_of_ble_eq_true rfl) (fun x38 => ?_)
  refine pm_eqls (ls2 := [.ref l0, .int x38, .int l2]) rfl ?_
  refine pm_goto (tgt := 123) dX9_byLaw_84 rfl ?_
  exact gX9_byLaw_j123 hfl again20 l0 x38 l2 m37 hag20
set_option maxRecDepth 100000 in
set_option maxHeartbeats 4000000 in
theorem gX9_byLaw_L20 (hfl : l.flags = flags0) (l0 : Nat) : ∀ (n : Nat) (s : Int32 × Int32 × pmM), pm_G l Γ zX9_byLaw (d + 2) 20 [.ref l0, .int s.1, .int s.2.1] [] s.2.2 (pm_lp n (X9_byLaw_L20 l0) s) :=
  pm_loop (lsf := fun s : Int32 × Int32 × pmM => [.ref l0, .int s.1, .int s.2.1]) (mf := fun s : Int32 × Int32 × pmM => s.2.2) (fun again20 hag20 s20 => by
    unfold X9_byLaw_L20
    refine pm_iload_n dX9_byLaw_20 rfl rfl ?_
    refine pm_aload_n dX9_byLaw_21 rfl rfl ?_
    refine fg_9_19 (y := zX9_byLaw) (Or.inl tw_1385) dX9_byLaw_22 (fun x5 => ?_)
    refine pm_icmp_ge (tgt := 129) dX9_byLaw_25 rfl ?_ ?_
    · refine pm_bipush (v := 60) dX9_byLaw_129 kb_60 ?_
      refine pm_iconst (v := 0) dX9_byLaw_131 ki_0 ?_
      refine pm_aload_n dX9_byLaw_132 rfl rfl ?_
      refine fg_9_23 (y := zX9_byLaw) (Or.inl tw_1389) dX9_byLaw_133 (fun r6 => ?_)
      refine pm_iconst (v := 0) dX9_byLaw_136 ki_0 ?_
      refine pm_iald (y := zX9_byLaw) dX9_byLaw_137 (fun x7 => ?_)
      refine pm_kI (d := d + 1) rfl (pm_S (y := zX9_byLaw) (z := zX9_more) (As := [.int 0, .int x7]) zkX9_more tw_1725 tw_1726 dX9_byLaw_138 rfl rfl (Nat.le_of_ble_eq_true rfl)) (kcX9_more (d := d + 1) hfl 0 x7 s20.2.2) (fun x9 m8 => ?_)
      refine pm_kI (d := d + 1) rfl (pm_S (y := zX9_byLaw) (z := zX9_less) (As := [.int 60, .int x9]) zkX9_less tw_1722 tw_1723 dX9_byLaw_141 rfl rfl (Nat.le_of_ble_eq_true rfl)) (kcX9_less (d := d + 1) hfl 60 x9 m8) (fun x11 m10 => ?_)
      exact pm_iret rfl dX9_byLaw_144
    · refine pm_aload_n dX9_byLaw_28 rfl rfl ?_
      refine fg_9_21 (y := zX9_byLaw) (Or.inl tw_1387) dX9_byLaw_29 (fun r12 => ?_)
      refine pm_iload_n dX9_byLaw_32 rfl rfl ?_
      refine pm_aaldI (y := zX9_byLaw) dX9_byLaw_33 (fun r13 => ?_)
      refine pm_iconst (v := 0) dX9_byLaw_34 ki_0 ?_
      refine pm_iald (y := zX9_byLaw) dX9_byLaw_35 (fun x14 => ?_)
      refine pm_iconst (v := 2) dX9_byLaw_36 ki_2 ?_
      refine pm_icmp_ge (tgt := 87) dX9_byLaw_37 rfl ?_ ?_
      · refine pm_iincn (y := zX9_byLaw) dX9_byLaw_87 rfl ki_n1 rfl (Nat.le_of_ble_eq_true rfl) (fun x15 => ?_)
        refine pm_eqls (ls2 := [.ref l0, .int x15, .int s20.2.1]) rfl ?_
        refine pm_aload_n dX9_byLaw_90 rfl rfl ?_
        refine fg_9_23 (y := zX9_byLaw) (Or.inl tw_1389) dX9_byLaw_91 (fun r16 => ?_)
        refine pm_iload_n dX9_byLaw_94 rfl rfl ?_
        refine pm_iconst (v := 1) dX9_byLaw_95 ki_1 ?_
        refine pm_isub dX9_byLaw_96 ?_
        refine pm_aload_n dX9_byLaw_97 rfl rfl ?_
        refine fg_9_21 (y := zX9_byLaw) (Or.inl tw_1387) dX9_byLaw_98 (fun r17 => ?_)
        refine pm_iload_n dX9_byLaw_101 rfl rfl ?_
        refine pm_aaldI (y := zX9_byLaw) dX9_byLaw_102 (fun r18 => ?_)
        refine pm_iconst (v := 0) dX9_byLaw_103 ki_0 ?_
        refine pm_iald (y := zX9_byLaw) dX9_byLaw_104 (fun x19 => ?_)
        refine pm_aload_n dX9_byLaw_105 rfl rfl ?_
        refine fg_9_23 (y := zX9_byLaw) (Or.inl tw_1389) dX9_byLaw_106 (fun r20 => ?_)
        refine pm_iload_n dX9_byLaw_109 rfl rfl ?_
        refine pm_iconst (v := 1) dX9_byLaw_110 ki_1 ?_
        refine pm_isub dX9_byLaw_111 ?_
        refine pm_iald (y := zX9_byLaw) dX9_byLaw_112 (fun x21 => ?_)
        refine pm_aload_n dX9_byLaw_113 rfl rfl ?_
        refine fg_9_23 (y := zX9_byLaw) (Or.inl tw_1389) dX9_byLaw_114 (fun r22 => ?_)
        refine pm_iload_n dX9_byLaw_117 rfl rfl ?_
        refine pm_iald (y := zX9_byLaw) dX9_byLaw_118 (fun x23 => ?_)
        refine pm_kI (d := d + 1) rfl (pm_S (y := zX9_byLaw) (z := zX9_by) (As := [.int x19, .int x21, .int x23]) zkX9_by tw_1719 tw_1720 dX9_byLaw_119 rfl rfl (Nat.le_of_ble_eq_true rfl)) (kcX9_by (d := d + 0) hfl x19 x21 x23 s20.2.2) (fun x25 m24 => ?_)
        refine pm_iast (y := zX9_byLaw) dX9_byLaw_122 (fun m26 => ?_)
        exact gX9_byLaw_j123 hfl again20 l0 x15 s20.2.1 m26 hag20
      · refine pm_aload_n dX9_byLaw_40 rfl rfl ?_
        refine fg_9_23 (y := zX9_byLaw) (Or.inl tw_1389) dX9_byLaw_41 (fun r28 => ?_)
        refine pm_iload_n dX9_byLaw_44 rfl rfl ?_
        refine pm_aload_n dX9_byLaw_45 rfl rfl ?_
        refine fg_9_21 (y := zX9_byLaw) (Or.inl tw_1387) dX9_byLaw_46 (fun r29 => ?_)
        refine pm_iload_n dX9_byLaw_49 rfl rfl ?_
        refine pm_aaldI (y := zX9_byLaw) dX9_byLaw_50 (fun r30 => ?_)
        refine pm_iconst (v := 0) dX9_byLaw_51 ki_0 ?_
        refine pm_iald (y := zX9_byLaw) dX9_byLaw_52 (fun x31 => ?_)
        refine pm_if_ne (tgt := 67) dX9_byLaw_53 rfl ?_ ?_
        · refine pm_aload_n dX9_byLaw_67 rfl rfl ?_
          refine fg_9_24 (y := zX9_byLaw) (Or.inl tw_1390) dX9_byLaw_68 (fun r32 => ?_)
          refine pm_aload_n dX9_byLaw_71 rfl rfl ?_
          refine fg_9_21 (y := zX9_byLaw) (Or.inl tw_1387) dX9_byLaw_72 (fun r33 => ?_)
          refine pm_iload_n dX9_byLaw_75 rfl rfl ?_
          refine pm_aaldI (y := zX9_byLaw) dX9_byLaw_76 (fun r34 => ?_)
          refine pm_iconst (v := 1) dX9_byLaw_77 ki_1 ?_
          refine pm_iald (y := zX9_byLaw) dX9_byLaw_78 (fun x35 => ?_)
          refine pm_iald (y := zX9_byLaw) dX9_byLaw_79 (fun x36 => ?_)
          exact gX9_byLaw_j80 hfl again20 l0 s20.1 s20.2.1 x36 s20.1 r28 s20.2.2 hag20
        · refine pm_aload_n dX9_byLaw_56 rfl rfl ?_
          refine fg_9_21 (y := zX9_byLaw) (Or.inl tw_1387) dX9_byLaw_57 (fun r39 => ?_)
          refine pm_iload_n dX9_byLaw_60 rfl rfl ?_
          refine pm_aaldI (y := zX9_byLaw) dX9_byLaw_61 (fun r40 => ?_)
          refine pm_iconst (v := 1) dX9_byLaw_62 ki_1 ?_
          refine pm_iald (y := zX9_byLaw) dX9_byLaw_63 (fun x41 => ?_)
          refine pm_goto (tgt := 80) dX9_byLaw_64 rfl ?_
          exact gX9_byLaw_j80 hfl again20 l0 s20.1 s20.2.1 x41 s20.1 r28 s20.2.2 hag20)
set_option maxRecDepth 100000 in
set_option maxHeartbeats 4000000 in
theorem kcX9_byLaw (hfl : l.flags = flags0) (a0 : Nat) (m : pmM) : pm_C l Γ zX9_byLaw (d + 2) [.ref a0] m (X9_byLaw a0 m) := by
  refine pm_enter (ls := [.ref a0, pmU, pmU]) hfl (by decide +kernel) rfl (Nat.le_of_ble_eq_true rfl) rfl (Nat.le_of_ble_eq_true rfl) ?_
  unfold X9_byLaw
  refine pm_iconst (v := 0) dX9_byLaw_0 ki_0 ?_
  refine pm_istore_n (ls2 := [.ref a0, .int 0, pmU]) dX9_byLaw_1 rfl rfl (Nat.le_of_ble_eq_true rfl) rfl ?_
  refine pm_aload_n dX9_byLaw_2 rfl rfl ?_
  refine fg_9_23 (y := zX9_byLaw) (Or.inl tw_1389) dX9_byLaw_3 (fun r1 => ?_)
  refine pm_iconst (v := 0) dX9_byLaw_6 ki_0 ?_
  refine pm_iconst (v := 1) dX9_byLaw_7 ki_1 ?_
  refine pm_aload_n dX9_byLaw_8 rfl rfl ?_
  refine fg_9_24 (y := zX9_byLaw) (Or.inl tw_1390) dX9_byLaw_9 (fun r2 => ?_)
  refine pm_iconst (v := 0) dX9_byLaw_12 ki_0 ?_
  refine pm_iald (y := zX9_byLaw) dX9_byLaw_13 (fun x3 => ?_)
  refine pm_iconst (v := 2) dX9_byLaw_14 ki_2 ?_
  refine pm_idiv dX9_byLaw_15 ?_
  refine pm_iadd dX9_byLaw_16 ?_
  refine pm_iast (y := zX9_byLaw) dX9_byLaw_17 (fun m4 => ?_)
  refine pm_iconst (v := 0) dX9_byLaw_18 ki_0 ?_
  refine pm_istore_n (ls2 := [.ref a0, .int 0, .int 0]) dX9_byLaw_19 rfl rfl (Nat.le_of_ble_eq_true rfl) rfl ?_
  exact gX9_byLaw_L20 hfl a0 pm_N (0, 0, m4)
-- StruckPageModel.stepHere()I
def X9_stepHere_j132 (t0 : Int32) (m : pmM) : pmR := pm_oI t0 m
def X9_stepHere (a0 : Nat) (m : pmM) : pmR := pm_rc 9 a0 m <| pm_cI (X9_isWord a0 19 20 18 9 11 5 m) fun x2 m1 => if x2 = 0 then (pm_rc 9 a0 m1 <| pm_cI (X9_isWord a0 18 21 14 0 0 0 m1) fun x4 m3 => if x4 = 0 then (pm_rc 9 a0 m3 <| pm_cI (X9_isWord a0 2 5 7 9 14 0 m3) fun x6 m5 => if x6 = 0 then (pm_rc 9 a0 m5 <| pm_cI (X9_isWord a0 6 9 12 12 0 0 m5) fun x8 m7 => if x8 = 0 then (pm_rc 9 a0 m7 <| pm_cI (X9_isWord a0 23 9 16 5 0 0 m7) fun x10 m9 => if x10 = 0 then (pm_rc 9 a0 m9 <| pm_cI (X9_isWord a0 19 5 20 0 0 0 m9) fun x12 m11 => if x12 = 0 then (pm_rc 9 a0 m11 <| pm_cI (X9_isWord a0 1 7 1 9 14 0 m11) fun x14 m13 => if x14 = 0 then (X9_stepHere_j132 (-1) m13) else (X9_stepHere_j132 6 m13)) else (pm_oI 5 m11)) else (pm_oI 4 m9)) else (pm_oI 3 m7)) else (pm_oI 2 m5)) else (pm_oI 1 m3)) else (pm_oI 0 m1)
set_option maxRecDepth 100000 in
set_option maxHeartbeats 4000000 in
theorem gX9_stepHere_j132 (hfl : l.flags = flags0) (t0 : Int32) (m : pmM) : pm_G l Γ zX9_stepHere (d + 4) 132 [pmU] [.int t0] m (X9_stepHere_j132 t0 m) := by
  unfold X9_stepHere_j132
  exact pm_iret rfl dX9_stepHere_132
set_option maxRecDepth 100000 in
set_option maxHeartbeats 4000000 in
theorem kcX9_stepHere (hfl : l.flags = flags0) (a0 : Nat) (m : pmM) : pm_C l Γ zX9_stepHere (d + 4) [.ref a0] m (X9_stepHere a0 m) := by
  refine pm_enter (ls := [.ref a0]) hfl (by decide +kernel) rfl (Nat.le_of_ble_eq_true rfl) rfl (Nat.le_of_ble_eq_true rfl) ?_
  unfold X9_stepHere
  refine pm_aload_n dX9_stepHere_0 rfl rfl ?_
  refine pm_bipush (v := 19) dX9_stepHere_1 kb_19 ?_
  refine pm_bipush (v := 20) dX9_stepHere_3 kb_20 ?_
  refine pm_bipush (v := 18) dX9_stepHere_5 kb_18 ?_
  refine pm_bipush (v := 9) dX9_stepHere_7 kb_9 ?_
  refine pm_bipush (v := 11) dX9_stepHere_9 kb_11 ?_
  refine pm_iconst (v := 5) dX9_stepHere_11 ki_5 ?_
  refine pm_rcv (fun hb9 hc9 => ?_)
  refine pm_kI (d := d + 3) rfl (pm_V (y := zX9_stepHere) (z := zX9_isWord) (As := [.int 19, .int 20, .int 18, .int 9, .int 11, .int 5]) zkX9_isWord pm_q9 (by decide) tw_1572 tw_1574 tw_105 dX9_stepHere_12 rfl rfl (Nat.le_of_ble_eq_true rfl) hb9 hc9) (kcX9_isWord (d := d + 0) hfl a0 19 20 18 9 11 5 m) (fun x2 m1 => ?_)
  refine pm_if_eq (tgt := 20) dX9_stepHere_15 rfl ?_ ?_
  · refine pm_aload_n dX9_stepHere_20 rfl rfl ?_
    refine pm_bipush (v := 18) dX9_stepHere_21 kb_18 ?_
    refine pm_bipush (v := 21) dX9_stepHere_23 kb_21 ?_
    refine pm_bipush (v := 14) dX9_stepHere_25 kb_14 ?_
    refine pm_iconst (v := 0) dX9_stepHere_27 ki_0 ?_
    refine pm_iconst (v := 0) dX9_stepHere_28 ki_0 ?_
    refine pm_iconst (v := 0) dX9_stepHere_29 ki_0 ?_
    refine pm_rcv (fun hb9 hc9 => ?_)
    refine pm_kI (d := d + 3) rfl (pm_V (y := zX9_stepHere) (z := zX9_isWord) (As := [.int 18, .int 21, .int 14, .int 0, .int 0, .int 0]) zkX9_isWord pm_q9 (by decide) tw_1572 tw_1574 tw_105 dX9_stepHere_30 rfl rfl (Nat.le_of_ble_eq_true rfl) hb9 hc9) (kcX9_isWord (d := d + 0) hfl a0 18 21 14 0 0 0 m1) (fun x4 m3 => ?_)
    refine pm_if_eq (tgt := 38) dX9_stepHere_33 rfl ?_ ?_
    · refine pm_aload_n dX9_stepHere_38 rfl rfl ?_
      refine pm_iconst (v := 2) dX9_stepHere_39 ki_2 ?_
      refine pm_iconst (v := 5) dX9_stepHere_40 ki_5 ?_
      refine pm_bipush (v := 7) dX9_stepHere_41 kb_7 ?_
      refine pm_bipush (v := 9) dX9_stepHere_43 kb_9 ?_
      refine pm_bipush (v := 14) dX9_stepHere_45 kb_14 ?_
      refine pm_iconst (v := 0) dX9_stepHere_47 ki_0 ?_
      refine pm_rcv (fun hb9 hc9 => ?_)
      refine pm_kI (d := d + 3) rfl (pm_V (y := zX9_stepHere) (z := zX9_isWord) (As := [.int 2, .int 5, .int 7, .int 9, .int 14, .int 0]) zkX9_isWord pm_q9 (by decide) tw_1572 tw_1574 tw_105 dX9_stepHere_48 rfl rfl (Nat.le_of_ble_eq_true rfl) hb9 hc9) (kcX9_isWord (d := d + 0) hfl a0 2 5 7 9 14 0 m3) (fun x6 m5 => ?_)
      refine pm_if_eq (tgt := 56) dX9_stepHere_51 rfl ?_ ?_
      · refine pm_aload_n dX9_stepHere_56 rfl rfl ?_
        refine pm_bipush (v := 6) dX9_stepHere_57 kb_6 ?_
        refine pm_bipush (v := 9) dX9_stepHere_59 kb_9 ?_
        refine pm_bipush (v := 12) dX9_stepHere_61 kb_12 ?_
        refine pm_bipush (v := 12) dX9_stepHere_63 kb_12 ?_
        refine pm_iconst (v := 0) dX9_stepHere_65 ki_0 ?_
        refine pm_iconst (v := 0) dX9_stepHere_66 ki_0 ?_
        refine pm_rcv (fun hb9 hc9 => ?_)
        refine pm_kI (d := d + 3) rfl (pm_V (y := zX9_stepHere) (z := zX9_isWord) (As := [.int 6, .int 9, .int 12, .int 12, .int 0, .int 0]) zkX9_isWord pm_q9 (by decide) tw_1572 tw_1574 tw_105 dX9_stepHere_67 rfl rfl (Nat.le_of_ble_eq_true rfl) hb9 hc9) (kcX9_isWord (d := d + 0) hfl a0 6 9 12 12 0 0 m5) (fun x8 m7 => ?_)
        refine pm_if_eq (tgt := 75) dX9_stepHere_70 rfl ?_ ?_
        · refine pm_aload_n dX9_stepHere_75 rfl rfl ?_
          refine pm_bipush (v := 23) dX9_stepHere_76 kb_23 ?_
          refine pm_bipush (v := 9) dX9_stepHere_78 kb_9 ?_
          refine pm_bipush (v := 16) dX9_stepHere_80 kb_16 ?_
          refine pm_iconst (v := 5) dX9_stepHere_82 ki_5 ?_
          refine pm_iconst (v := 0) dX9_stepHere_83 ki_0 ?_
          refine pm_iconst (v := 0) dX9_stepHere_84 ki_0 ?_
          refine pm_rcv (fun hb9 hc9 => ?_)
          refine pm_kI (d := d + 3) rfl (pm_V (y := zX9_stepHere) (z := zX9_isWord) (As := [.int 23, .int 9, .int 16, .int 5, .int 0, .int 0]) zkX9_isWord pm_q9 (by decide) tw_1572 tw_1574 tw_105 dX9_stepHere_85 rfl rfl (Nat.le_of_ble_eq_true rfl) hb9 hc9) (kcX9_isWord (d := d + 0) hfl a0 23 9 16 5 0 0 m7) (fun x10 m9 => ?_)
          refine pm_if_eq (tgt := 93) dX9_stepHere_88 rfl ?_ ?_
          · refine pm_aload_n dX9_stepHere_93 rfl rfl ?_
            refine pm_bipush (v := 19) dX9_stepHere_94 kb_19 ?_
            refine pm_iconst (v := 5) dX9_stepHere_96 ki_5 ?_
            refine pm_bipush (v := 20) dX9_stepHere_97 kb_20 ?_
            refine pm_iconst (v := 0) dX9_stepHere_99 ki_0 ?_
            refine pm_iconst (v := 0) dX9_stepHere_100 ki_0 ?_
            refine pm_iconst (v := 0) dX9_stepHere_101 ki_0 ?_
            refine pm_rcv (fun hb9 hc9 => ?_)
            refine pm_kI (d := d + 3) rfl (pm_V (y := zX9_stepHere) (z := zX9_isWord) (As := [.int 19, .int 5, .int 20, .int 0, .int 0, .int 0]) zkX9_isWord pm_q9 (by decide) tw_1572 tw_1574 tw_105 dX9_stepHere_102 rfl rfl (Nat.le_of_ble_eq_true rfl) hb9 hc9) (kcX9_isWord (d := d + 0) hfl a0 19 5 20 0 0 0 m9) (fun x12 m11 => ?_)
            refine pm_if_eq (tgt := 110) dX9_stepHere_105 rfl ?_ ?_
            · refine pm_aload_n dX9_stepHere_110 rfl rfl ?_
              refine pm_iconst (v := 1) dX9_stepHere_111 ki_1 ?_
              refine pm_bipush (v := 7) dX9_stepHere_112 kb_7 ?_
              refine pm_iconst (v := 1) dX9_stepHere_114 ki_1 ?_
              refine pm_bipush (v := 9) dX9_stepHere_115 kb_9 ?_
              refine pm_bipush (v := 14) dX9_stepHere_117 kb_14 ?_
              refine pm_iconst (v := 0) dX9_stepHere_119 ki_0 ?_
              refine pm_rcv (fun hb9 hc9 => ?_)
              refine pm_kI (d := d + 3) rfl (pm_V (y := zX9_stepHere) (z := zX9_isWord) (As := [.int 1, .int 7, .int 1, .int 9, .int 14, .int 0]) zkX9_isWord pm_q9 (by decide) tw_1572 tw_1574 tw_105 dX9_stepHere_120 rfl rfl (Nat.le_of_ble_eq_true rfl) hb9 hc9) (kcX9_isWord (d := d + 0) hfl a0 1 7 1 9 14 0 m11) (fun x14 m13 => ?_)
              refine pm_if_eq (tgt := 131) dX9_stepHere_123 rfl ?_ ?_
              · refine pm_iconst (v := (-1)) dX9_stepHere_131 ki_n1 ?_
                refine pm_drop (ls2 := [pmU]) (Nat.le_refl _) (pm_le_spec (pm_le_u (pm_le_n))) ?_
                exact gX9_stepHere_j132 hfl (-1) m13
              · refine pm_bipush (v := 6) dX9_stepHere_126 kb_6 ?_
                refine pm_goto (tgt := 132) dX9_stepHere_128 rfl ?_
                refine pm_drop (ls2 := [pmU]) (Nat.le_refl _) (pm_le_spec (pm_le_u (pm_le_n))) ?_
                exact gX9_stepHere_j132 hfl 6 m13
            · refine pm_iconst (v := 5) dX9_stepHere_108 ki_5 ?_
              exact pm_iret rfl dX9_stepHere_109
          · refine pm_iconst (v := 4) dX9_stepHere_91 ki_4 ?_
            exact pm_iret rfl dX9_stepHere_92
        · refine pm_iconst (v := 3) dX9_stepHere_73 ki_3 ?_
          exact pm_iret rfl dX9_stepHere_74
      · refine pm_iconst (v := 2) dX9_stepHere_54 ki_2 ?_
        exact pm_iret rfl dX9_stepHere_55
    · refine pm_iconst (v := 1) dX9_stepHere_36 ki_1 ?_
      exact pm_iret rfl dX9_stepHere_37
  · refine pm_iconst (v := 0) dX9_stepHere_18 ki_0 ?_
    exact pm_iret rfl dX9_stepHere_19
-- StruckPageModel.readsStep()V
def X9_readsStep_j225 (rs : Nat → pmM → pmR) (l0 : Nat) (l2 : Nat) (m : pmM) : pmR := pm_gI 9 l0 28 m fun x14 => pm_st 100 l2 4 x14 m fun m15 => pm_rc 9 l0 m15 <| pm_cV (X9_sign l0 59 m15) fun m16 => pm_oV m16
def X9_readsStep_j209 (rs : Nat → pmM → pmR) (l0 : Nat) (l2 : Nat) (m : pmM) : pmR := pm_rc 9 l0 m <| pm_cV (X9_sign l0 93 m) fun m23 => pm_gI 9 l0 8 m23 fun x24 => pm_pI 9 l0 8 (x24 - 1) m23 fun m25 => X9_readsStep_j225 rs l0 l2 m25
def X9_readsStep_L178 (rs : Nat → pmM → pmR) (l0 : Nat) (l2 : Nat) (again178 : (pmM) → pmR) (s178 : pmM) : pmR := pm_gI 9 l0 5 s178 fun x22 => if x22 = 0 then (pm_gI 9 l0 4 s178 fun x26 => pm_rc 9 l0 s178 <| pm_cI (X9_byteAt l0 x26 s178) fun x28 m27 => if x28 = 93 then (X9_readsStep_j209 rs l0 l2 m27) else (pm_rc 9 l0 m27 <| pm_cV (rs l0 m27) fun m29 => pm_rc 9 l0 m29 <| pm_cV (X9_blanks l0 m29) fun m30 => again178 m30)) else (X9_readsStep_j209 rs l0 l2 s178)
def X9_readsStep_j152 (rs : Nat → pmM → pmR) (l0 : Nat) (l1 : Int32) (l2 : Nat) (m : pmM) : pmR := if l1 = 6 then (pm_rc 9 l0 m <| pm_cI (X9_number l0 0 60 m) fun x18 m17 => pm_st 100 l2 1 x18 m17 fun m19 => pm_rc 9 l0 m19 <| pm_cV (X9_sign l0 91 m19) fun m20 => pm_rc 9 l0 m20 <| pm_cV (X9_blanks l0 m20) fun m21 => pm_lp pm_N (X9_readsStep_L178 rs l0 l2) m21) else (X9_readsStep_j225 rs l0 l2 m)
def X9_readsStep_j127 (rs : Nat → pmM → pmR) (l0 : Nat) (l1 : Int32) (l2 : Nat) (m : pmM) : pmR := if l1 = 5 then (pm_rc 9 l0 m <| pm_cI (X9_number l0 0 3 m) fun x32 m31 => pm_st 100 l2 1 x32 m31 fun m33 => pm_rc 9 l0 m33 <| pm_cI (X9_number l0 0 999 m33) fun x35 m34 => pm_st 100 l2 2 x35 m34 fun m36 => X9_readsStep_j152 rs l0 l1 l2 m36) else (X9_readsStep_j152 rs l0 l1 l2 m)
def X9_readsStep_j117 (rs : Nat → pmM → pmR) (l0 : Nat) (l1 : Int32) (l2 : Nat) (m : pmM) : pmR := pm_rc 9 l0 m <| pm_cI (X9_number l0 1 99 m) fun x12 m11 => pm_st 100 l2 1 x12 m11 fun m13 => X9_readsStep_j127 rs l0 l1 l2 m13
def X9_readsStep_j107 (rs : Nat → pmM → pmR) (l0 : Nat) (l1 : Int32) (l2 : Nat) (m : pmM) : pmR := if l1 = 1 then (X9_readsStep_j117 rs l0 l1 l2 m) else (if l1 = 3 then (X9_readsStep_j117 rs l0 l1 l2 m) else (X9_readsStep_j127 rs l0 l1 l2 m))
def X9_readsStep_j33 (rs : Nat → pmM → pmR) (l0 : Nat) (l1 : Int32) (m : pmM) : pmR := pm_gI 9 l0 5 m fun x3 => if x3 = 0 then (pm_rc 9 l0 m <| pm_cV (X9_skipWord l0 m) fun m4 => pm_gR 9 l0 27 m4 fun r5 => pm_gI 9 l0 28 m4 fun x6 => pm_ldR 103 r5 x6 m4 fun r7 => pm_gI 9 l0 28 m4 fun x8 => pm_pI 9 l0 28 (x8 + 1) m4 fun m9 => pm_st 100 r7 0 l1 m9 fun m10 => if l1 = 0 then (pm_gI 9 l0 13 m10 fun x37 => pm_rc 9 l0 m10 <| pm_cI (X9_number l0 0 (x37 - 1) m10) fun x39 m38 => pm_st 100 r7 1 x39 m38 fun m40 => pm_rc 9 l0 m40 <| pm_cI (X9_number l0 0 7 m40) fun x42 m41 => pm_st 100 r7 2 x42 m41 fun m43 => pm_rc 9 l0 m43 <| pm_cI (X9_number l0 0 7 m43) fun x45 m44 => pm_st 100 r7 3 x45 m44 fun m46 => X9_readsStep_j107 rs l0 l1 r7 m46) else (X9_readsStep_j107 rs l0 l1 r7 m10)) else (pm_oV m)
def X9_readsStep_j19 (rs : Nat → pmM → pmR) (l0 : Nat) (l1 : Int32) (m : pmM) : pmR := if l1 = 6 then (pm_rc 9 l0 m <| pm_cI (X9_opensOne l0 m) fun x48 m47 => if x48 = 0 then (pm_oV m47) else (X9_readsStep_j33 rs l0 l1 m47)) else (X9_readsStep_j33 rs l0 l1 m)
def X9_readsStep (rs : Nat → pmM → pmR) (a0 : Nat) (m : pmM) : pmR := pm_rc 9 a0 m <| pm_cI (X9_stepHere a0 m) fun x2 m1 => if x2 = (-1) then (pm_gI 9 a0 4 m1 fun x49 => pm_rc 9 a0 m1 <| pm_cV (X9_wrong a0 1 x49 m1) fun m50 => X9_readsStep_j19 rs a0 x2 m50) else (X9_readsStep_j19 rs a0 x2 m1)
def X9_readsStep_N : Nat → Nat → pmM → pmR
  | 0 => fun _ _ => none
  | n + 1 => X9_readsStep (X9_readsStep_N n)
set_option maxRecDepth 100000 in
set_option maxHeartbeats 4000000 in
theorem gX9_readsStep_j225 (hfl : l.flags = flags0) (rs : Nat → pmM → pmR) (l0 : Nat) (l2 : Nat) (m : pmM) (hrs : ∀ (j : Nat) (b0 : Nat) (m : pmM), pm_C l Γ zX9_readsStep (d + j + 4) [.ref b0] m (rs b0 m)) : pm_G l Γ zX9_readsStep (d + 5) 225 [.ref l0, pmU, .ref l2] [] m (X9_readsStep_j225 rs l0 l2 m) := by
  unfold X9_readsStep_j225
  refine pm_aload_n dX9_readsStep_225 rfl rfl ?_
  refine pm_iconst (v := 4) dX9_readsStep_226 ki_4 ?_
  refine pm_aload_n dX9_readsStep_227 rfl rfl ?_
  refine fg_9_28 (y := zX9_readsStep) (Or.inl tw_1394) dX9_readsStep_228 (fun x14 => ?_)
  refine pm_iast (y := zX9_readsStep) dX9_readsStep_231 (fun m15 => ?_)
  refine pm_aload_n dX9_readsStep_232 rfl rfl ?_
  refine pm_bipush (v := 59) dX9_readsStep_233 kb_59 ?_
  refine pm_rcv (fun hb9 hc9 => ?_)
  refine pm_kV (d := d + 4) rfl (pm_V (y := zX9_readsStep) (z := zX9_sign) (As := [.int 59]) zkX9_sign pm_q9 (by decide) tw_1610 tw_1612 tw_112 dX9_readsStep_235 rfl rfl (Nat.le_of_ble_eq_true rfl) hb9 hc9) (kcX9_sign (d := d + 2) hfl l0 59 m15) (fun m16 => ?_)
  exact pm_vret rfl dX9_readsStep_238
set_option maxRecDepth 100000 in
set_option maxHeartbeats 4000000 in
theorem gX9_readsStep_j209 (hfl : l.flags = flags0) (rs : Nat → pmM → pmR) (l0 : Nat) (l2 : Nat) (m : pmM) (hrs : ∀ (j : Nat) (b0 : Nat) (m : pmM), pm_C l Γ zX9_readsStep (d + j + 4) [.ref b0] m (rs b0 m)) : pm_G l Γ zX9_readsStep (d + 5) 209 [.ref l0, pmU, .ref l2] [] m (X9_readsStep_j209 rs l0 l2 m) := by
  unfold X9_readsStep_j209
  refine pm_aload_n dX9_readsStep_209 rfl rfl ?_
  refine pm_bipush (v := 93) dX9_readsStep_210 kb_93 ?_
  refine pm_rcv (fun hb9 hc9 => ?_)
  refine pm_kV (d := d + 4) rfl (pm_V (y := zX9_readsStep) (z := zX9_sign) (As := [.int 93]) zkX9_sign pm_q9 (by decide) tw_1610 tw_1612 tw_112 dX9_readsStep_212 rfl rfl (Nat.le_of_ble_eq_true rfl) hb9 hc9) (kcX9_sign (d := d + 2) hfl l0 93 m) (fun m23 => ?_)
  refine pm_aload_n dX9_readsStep_215 rfl rfl ?_
  refine pm_dup dX9_readsStep_216 rfl ?_
  refine fg_9_8 (y := zX9_readsStep) (Or.inl tw_1374) dX9_readsStep_217 (fun x24 => ?_)
  refine pm_iconst (v := 1) dX9_readsStep_220 ki_1 ?_
  refine pm_isub dX9_readsStep_221 ?_
  refine fp_9_8 (y := zX9_readsStep) (Or.inl tw_1374) dX9_readsStep_222 (fun m25 => ?_)
  exact gX9_readsStep_j225 hfl rs l0 l2 m25 hrs
set_option maxRecDepth 100000 in
set_option maxHeartbeats 4000000 in
theorem gX9_readsStep_L178 (hfl : l.flags = flags0) (rs : Nat → pmM → pmR) (l0 : Nat) (l2 : Nat) (hrs : ∀ (j : Nat) (b0 : Nat) (m : pmM), pm_C l Γ zX9_readsStep (d + j + 4) [.ref b0] m (rs b0 m)) : ∀ (n : Nat) (s : pmM), pm_G l Γ zX9_readsStep (d + 5) 178 [.ref l0, pmU, .ref l2] [] s (pm_lp n (X9_readsStep_L178 rs l0 l2) s) :=
  pm_loop (lsf := fun s : pmM => [.ref l0, pmU, .ref l2]) (mf := fun s : pmM => s) (fun again178 hag178 s178 => by
    unfold X9_readsStep_L178
    refine pm_aload_n dX9_readsStep_178 rfl rfl ?_
    refine fg_9_5 (y := zX9_readsStep) (Or.inl tw_1371) dX9_readsStep_179 (fun x22 => ?_)
    refine pm_if_ne (tgt := 209) dX9_readsStep_182 rfl ?_ ?_
    · exact gX9_readsStep_j209 hfl rs l0 l2 s178 hrs
    · refine pm_aload_n dX9_readsStep_185 rfl rfl ?_
      refine pm_aload_n dX9_readsStep_186 rfl rfl ?_
      refine fg_9_4 (y := zX9_readsStep) (Or.inl tw_1370) dX9_readsStep_187 (fun x26 => ?_)
      refine pm_rcv (fun hb9 hc9 => ?_)
      refine pm_kI (d := d + 4) rfl (pm_V (y := zX9_readsStep) (z := zX9_byteAt) (As := [.int x26]) zkX9_byteAt pm_q9 (by decide) tw_1560 tw_1562 tw_102 dX9_readsStep_190 rfl rfl (Nat.le_of_ble_eq_true rfl) hb9 hc9) (kcX9_byteAt (d := d + 4) hfl l0 x26 s178) (fun x28 m27 => ?_)
      refine pm_bipush (v := 93) dX9_readsStep_193 kb_93 ?_
      refine pm_icmp_eq (tgt := 209) dX9_readsStep_195 rfl ?_ ?_
      · exact gX9_readsStep_j209 hfl rs l0 l2 m27 hrs
      · refine pm_aload_n dX9_readsStep_198 rfl rfl ?_
        refine pm_rcv (fun hb9 hc9 => ?_)
        refine pm_kV (d := d + 4) rfl (pm_V (y := zX9_readsStep) (z := zX9_readsStep) (As := []) zkX9_readsStep pm_q9 (by decide) tw_1670 tw_1672 tw_123 dX9_readsStep_199 rfl rfl (Nat.le_of_ble_eq_true rfl) hb9 hc9) (hrs 0 l0 m27) (fun m29 => ?_)
        refine pm_aload_n dX9_readsStep_202 rfl rfl ?_
        refine pm_rcv (fun hb9 hc9 => ?_)
        refine pm_kV (d := d + 4) rfl (pm_V (y := zX9_readsStep) (z := zX9_blanks) (As := []) zkX9_blanks pm_q9 (by decide) tw_1556 tw_1558 tw_101 dX9_readsStep_203 rfl rfl (Nat.le_of_ble_eq_true rfl) hb9 hc9) (kcX9_blanks (d := d + 3) hfl l0 m29) (fun m30 => ?_)
        refine pm_goto (tgt := 178) dX9_readsStep_206 rfl ?_
        exact hag178 m30)
set_option maxRecDepth 100000 in
set_option maxHeartbeats 4000000 in
theorem gX9_readsStep_j152 (hfl : l.flags = flags0) (rs : Nat → pmM → pmR) (l0 : Nat) (l1 : Int32) (l2 : Nat) (m : pmM) (hrs : ∀ (j : Nat) (b0 : Nat) (m : pmM), pm_C l Γ zX9_readsStep (d + j + 4) [.ref b0] m (rs b0 m)) : pm_G l Γ zX9_readsStep (d + 5) 152 [.ref l0, .int l1, .ref l2] [] m (X9_readsStep_j152 rs l0 l1 l2 m) := by
  unfold X9_readsStep_j152
  refine pm_iload_n dX9_readsStep_152 rfl rfl ?_
  refine pm_bipush (v := 6) dX9_readsStep_153 kb_6 ?_
  refine pm_icmp_ne (tgt := 225) dX9_readsStep_155 rfl ?_ ?_
  · refine pm_drop (ls2 := [.ref l0, pmU, .ref l2]) (Nat.le_refl _) (pm_le_spec (pm_le_v (pm_le_u (pm_le_v (pm_le_n))))) ?_
    exact gX9_readsStep_j225 hfl rs l0 l2 m hrs
  · refine pm_aload_n dX9_readsStep_158 rfl rfl ?_
    refine pm_iconst (v := 1) dX9_readsStep_159 ki_1 ?_
    refine pm_aload_n dX9_readsStep_160 rfl rfl ?_
    refine pm_iconst (v := 0) dX9_readsStep_161 ki_0 ?_
    refine pm_bipush (v := 60) dX9_readsStep_162 kb_60 ?_
    refine pm_rcv (fun hb9 hc9 => ?_)
    refine pm_kI (d := d + 4) rfl (pm_V (y := zX9_readsStep) (z := zX9_number) (As := [.int 0, .int 60]) zkX9_number pm_q9 (by decide) tw_1602 tw_1604 tw_111 dX9_readsStep_164 rfl rfl (Nat.le_of_ble_eq_true rfl) hb9 hc9) (kcX9_number (d := d + 2) hfl l0 0 60 m) (fun x18 m17 => ?_)
    refine pm_iast (y := zX9_readsStep) dX9_readsStep_167 (fun m19 => ?_)
    refine pm_aload_n dX9_readsStep_168 rfl rfl ?_
    refine pm_bipush (v := 91) dX9_readsStep_169 kb_91 ?_
    refine pm_rcv (fun hb9 hc9 => ?_)
    refine pm_kV (d := d + 4) rfl (pm_V (y := zX9_readsStep) (z := zX9_sign) (As := [.int 91]) zkX9_sign pm_q9 (by decide) tw_1610 tw_1612 tw_112 dX9_readsStep_171 rfl rfl (Nat.le_of_ble_eq_true rfl) hb9 hc9) (kcX9_sign (d := d + 2) hfl l0 91 m19) (fun m20 => ?_)
    refine pm_aload_n dX9_readsStep_174 rfl rfl ?_
    refine pm_rcv (fun hb9 hc9 => ?_)
    refine pm_kV (d := d + 4) rfl (pm_V (y := zX9_readsStep) (z := zX9_blanks) (As := []) zkX9_blanks pm_q9 (by decide) tw_1556 tw_1558 tw_101 dX9_readsStep_175 rfl rfl (Nat.le_of_ble_eq_true rfl) hb9 hc9) (kcX9_blanks (d := d + 3) hfl l0 m20) (fun m21 => ?_)
    refine pm_drop (ls2 := [.ref l0, pmU, .ref l2]) (Nat.le_refl _) (pm_le_spec (pm_le_v (pm_le_u (pm_le_v (pm_le_n))))) ?_
    exact gX9_readsStep_L178 hfl rs l0 l2 hrs pm_N m21
set_option maxRecDepth 100000 in
set_option maxHeartbeats 4000000 in
theorem gX9_readsStep_j127 (hfl : l.flags = flags0) (rs : Nat → pmM → pmR) (l0 : Nat) (l1 : Int32) (l2 : Nat) (m : pmM) (hrs : ∀ (j : Nat) (b0 : Nat) (m : pmM), pm_C l Γ zX9_readsStep (d + j + 4) [.ref b0] m (rs b0 m)) : pm_G l Γ zX9_readsStep (d + 5) 127 [.ref l0, .int l1, .ref l2] [] m (X9_readsStep_j127 rs l0 l1 l2 m) := by
  unfold X9_readsStep_j127
  refine pm_iload_n dX9_readsStep_127 rfl rfl ?_
  refine pm_iconst (v := 5) dX9_readsStep_128 ki_5 ?_
  refine pm_icmp_ne (tgt := 152) dX9_readsStep_129 rfl ?_ ?_
  · exact gX9_readsStep_j152 hfl rs l0 l1 l2 m hrs
  · refine pm_aload_n dX9_readsStep_132 rfl rfl ?_
    refine pm_iconst (v := 1) dX9_readsStep_133 ki_1 ?_
    refine pm_aload_n dX9_readsStep_134 rfl rfl ?_
    refine pm_iconst (v := 0) dX9_readsStep_135 ki_0 ?_
    refine pm_iconst (v := 3) dX9_readsStep_136 ki_3 ?_
    refine pm_rcv (fun hb9 hc9 => ?_)
    refine pm_kI (d := d + 4) rfl (pm_V (y := zX9_readsStep) (z := zX9_number) (As := [.int 0, .int 3]) zkX9_number pm_q9 (by decide) tw_1602 tw_1604 tw_111 dX9_readsStep_137 rfl rfl (Nat.le_of_ble_eq_true rfl) hb9 hc9) (kcX9_number (d := d + 2) hfl l0 0 3 m) (fun x32 m31 => ?_)
    refine pm_iast (y := zX9_readsStep) dX9_readsStep_140 (fun m33 => ?_)
    refine pm_aload_n dX9_readsStep_141 rfl rfl ?_
    refine pm_iconst (v := 2) dX9_readsStep_142 ki_2 ?_
    refine pm_aload_n dX9_readsStep_143 rfl rfl ?_
    refine pm_iconst (v := 0) dX9_readsStep_144 ki_0 ?_
    refine pm_sipush (v := 999) dX9_readsStep_145 ks_999 ?_
    refine pm_rcv (fun hb9 hc9 => ?_)
    refine pm_kI (d := d + 4) rfl (pm_V (y := zX9_readsStep) (z := zX9_number) (As := [.int 0, .int 999]) zkX9_number pm_q9 (by decide) tw_1602 tw_1604 tw_111 dX9_readsStep_148 rfl rfl (Nat.le_of_ble_eq_true rfl) hb9 hc9) (kcX9_number (d := d + 2) hfl l0 0 999 m33) (fun x35 m34 => ?_)
    refine pm_iast (y := zX9_readsStep) dX9_readsStep_151 (fun m36 => ?_)
    exact gX9_readsStep_j152 hfl rs l0 l1 l2 m36 hrs
set_option maxRecDepth 100000 in
set_option maxHeartbeats 4000000 in
theorem gX9_readsStep_j117 (hfl : l.flags = flags0) (rs : Nat → pmM → pmR) (l0 : Nat) (l1 : Int32) (l2 : Nat) (m : pmM) (hrs : ∀ (j : Nat) (b0 : Nat) (m : pmM), pm_C l Γ zX9_readsStep (d + j + 4) [.ref b0] m (rs b0 m)) : pm_G l Γ zX9_readsStep (d + 5) 117 [.ref l0, .int l1, .ref l2] [] m (X9_readsStep_j117 rs l0 l1 l2 m) := by
  unfold X9_readsStep_j117
  refine pm_aload_n dX9_readsStep_117 rfl rfl ?_
  refine pm_iconst (v := 1) dX9_readsStep_118 ki_1 ?_
  refine pm_aload_n dX9_readsStep_119 rfl rfl ?_
  refine pm_iconst (v := 1) dX9_readsStep_120 ki_1 ?_
  refine pm_bipush (v := 99) dX9_readsStep_121 kb_99 ?_
  refine pm_rcv (fun hb9 hc9 => ?_)
  refine pm_kI (d := d + 4) rfl (pm_V (y := zX9_readsStep) (z := zX9_number) (As := [.int 1, .int 99]) zkX9_number pm_q9 (by decide) tw_1602 tw_1604 tw_111 dX9_readsStep_123 rfl rfl (Nat.le_of_ble_eq_true rfl) hb9 hc9) (kcX9_number (d := d + 2) hfl l0 1 99 m) (fun x12 m11 => ?_)
  refine pm_iast (y := zX9_readsStep) dX9_readsStep_126 (fun m13 => ?_)
  exact gX9_readsStep_j127 hfl rs l0 l1 l2 m13 hrs
set_option maxRecDepth 100000 in
set_option maxHeartbeats 4000000 in
theorem gX9_readsStep_j107 (hfl : l.flags = flags0) (rs : Nat → pmM → pmR) (l0 : Nat) (l1 : Int32) (l2 : Nat) (m : pmM) (hrs : ∀ (j : Nat) (b0 : Nat) (m : pmM), pm_C l Γ zX9_readsStep (d + j + 4) [.ref b0] m (rs b0 m)) : pm_G l Γ zX9_readsStep (d + 5) 107 [.ref l0, .int l1, .ref l2] [] m (X9_readsStep_j107 rs l0 l1 l2 m) := by
  unfold X9_readsStep_j107
  refine pm_iload_n dX9_readsStep_107 rfl rfl ?_
  refine pm_iconst (v := 1) dX9_readsStep_108 ki_1 ?_
  refine pm_icmp_eq (tgt := 117) dX9_readsStep_109 rfl ?_ ?_
  · exact gX9_readsStep_j117 hfl rs l0 l1 l2 m hrs
  · refine pm_iload_n dX9_readsStep_112 rfl rfl ?_
    refine pm_iconst (v := 3) dX9_readsStep_113 ki_3 ?_
    refine pm_icmp_ne (tgt := 127) dX9_readsStep_114 rfl ?_ ?_
    · exact gX9_readsStep_j127 hfl rs l0 l1 l2 m hrs
    · exact gX9_readsStep_j117 hfl rs l0 l1 l2 m hrs
set_option maxRecDepth 100000 in
set_option maxHeartbeats 4000000 in
theorem gX9_readsStep_j33 (hfl : l.flags = flags0) (rs : Nat → pmM → pmR) (l0 : Nat) (l1 : Int32) (m : pmM) (hrs : ∀ (j : Nat) (b0 : Nat) (m : pmM), pm_C l Γ zX9_readsStep (d + j + 4) [.ref b0] m (rs b0 m)) : pm_G l Γ zX9_readsStep (d + 5) 33 [.ref l0, .int l1, pmU] [] m (X9_readsStep_j33 rs l0 l1 m) := by
  unfold X9_readsStep_j33
  refine pm_aload_n dX9_readsStep_33 rfl rfl ?_
  refine fg_9_5 (y := zX9_readsStep) (Or.inl tw_1371) dX9_readsStep_34 (fun x3 => ?_)
  refine pm_if_eq (tgt := 41) dX9_readsStep_37 rfl ?_ ?_
  · refine pm_aload_n dX9_readsStep_41 rfl rfl ?_
    refine pm_rcv (fun hb9 hc9 => ?_)
    refine pm_kV (d := d + 4) rfl (pm_V (y := zX9_readsStep) (z := zX9_skipWord) (As := []) zkX9_skipWord pm_q9 (by decide) tw_1590 tw_1592 tw_108 dX9_readsStep_42 rfl rfl (Nat.le_of_ble_eq_true rfl) hb9 hc9) (kcX9_skipWord (d := d + 3) hfl l0 m) (fun m4 => ?_)
    refine pm_aload_n dX9_readsStep_45 rfl rfl ?_
    refine fg_9_27 (y := zX9_readsStep) (Or.inl tw_1393) dX9_readsStep_46 (fun r5 => ?_)
    refine pm_aload_n dX9_readsStep_49 rfl rfl ?_
    refine fg_9_28 (y := zX9_readsStep) (Or.inl tw_1394) dX9_readsStep_50 (fun x6 => ?_)
    refine pm_aaldI (y := zX9_readsStep) dX9_readsStep_53 (fun r7 => ?_)
    refine pm_astore_n (ls2 := [.ref l0, .int l1, .ref r7]) dX9_readsStep_54 rfl rfl (Nat.le_of_ble_eq_true rfl) rfl ?_
    refine pm_aload_n dX9_readsStep_55 rfl rfl ?_
    refine pm_dup dX9_readsStep_56 rfl ?_
    refine fg_9_28 (y := zX9_readsStep) (Or.inl tw_1394) dX9_readsStep_57 (fun x8 => ?_)
    refine pm_iconst (v := 1) dX9_readsStep_60 ki_1 ?_
    refine pm_iadd dX9_readsStep_61 ?_
    refine fp_9_28 (y := zX9_readsStep) (Or.inl tw_1394) dX9_readsStep_62 (fun m9 => ?_)
    refine pm_aload_n dX9_readsStep_65 rfl rfl ?_
    refine pm_iconst (v := 0) dX9_readsStep_66 ki_0 ?_
    refine pm_iload_n dX9_readsStep_67 rfl rfl ?_
    refine pm_iast (y := zX9_readsStep) dX9_readsStep_68 (fun m10 => ?_)
    refine pm_iload_n dX9_readsStep_69 rfl rfl ?_
    refine pm_if_ne (tgt := 107) dX9_readsStep_70 rfl ?_ ?_
    · exact gX9_readsStep_j107 hfl rs l0 l1 r7 m10 hrs
    · refine pm_aload_n dX9_readsStep_73 rfl rfl ?_
      refine pm_iconst (v := 1) dX9_readsStep_74 ki_1 ?_
      refine pm_aload_n dX9_readsStep_75 rfl rfl ?_
      refine pm_iconst (v := 0) dX9_readsStep_76 ki_0 ?_
      refine pm_aload_n dX9_readsStep_77 rfl rfl ?_
      refine fg_9_13 (y := zX9_readsStep) (Or.inl tw_1379) dX9_readsStep_78 (fun x37 => ?_)
      refine pm_iconst (v := 1) dX9_readsStep_81 ki_1 ?_
      refine pm_isub dX9_readsStep_82 ?_
      refine pm_rcv (fun hb9 hc9 => ?_)
      refine pm_kI (d := d + 4) rfl (pm_V (y := zX9_readsStep) (z := zX9_number) (As := [.int 0, .int (x37 - 1)]) zkX9_number pm_q9 (by decide) tw_1602 tw_1604 tw_111 dX9_readsStep_83 rfl rfl (Nat.le_of_ble_eq_true rfl) hb9 hc9) (kcX9_number (d := d + 2) hfl l0 0 (x37 - 1) m10) (fun x39 m38 => ?_)
      refine pm_iast (y := zX9_readsStep) dX9_readsStep_86 (fun m40 => ?_)
      refine pm_aload_n dX9_readsStep_87 rfl rfl ?_
      refine pm_iconst (v := 2) dX9_readsStep_88 ki_2 ?_
      refine pm_aload_n dX9_readsStep_89 rfl rfl ?_
      refine pm_iconst (v := 0) dX9_readsStep_90 ki_0 ?_
      refine pm_bipush (v := 7) dX9_readsStep_91 kb_7 ?_
      refine pm_rcv (fun hb9 hc9 => ?_)
      refine pm_kI (d := d + 4) rfl (pm_V (y := zX9_readsStep) (z := zX9_number) (As := [.int 0, .int 7]) zkX9_number pm_q9 (by decide) tw_1602 tw_1604 tw_111 dX9_readsStep_93 rfl rfl (Nat.le_of_ble_eq_true rfl) hb9 hc9) (kcX9_number (d := d + 2) hfl l0 0 7 m40) (fun x42 m41 => ?_)
      refine pm_iast (y := zX9_readsStep) dX9_readsStep_96 (fun m43 => ?_)
      refine pm_aload_n dX9_readsStep_97 rfl rfl ?_
      refine pm_iconst (v := 3) dX9_readsStep_98 ki_3 ?_
      refine pm_aload_n dX9_readsStep_99 rfl rfl ?_
      refine pm_iconst (v := 0) dX9_readsStep_100 ki_0 ?_
      refine pm_bipush (v := 7) dX9_readsStep_101 kb_7 ?_
      refine pm_rcv (fun hb9 hc9 => ?_)
      refine pm_kI (d := d + 4) rfl (pm_V (y := zX9_readsStep) (z := zX9_number) (As := [.int 0, .int 7]) zkX9_number pm_q9 (by decide) tw_1602 tw_1604 tw_111 dX9_readsStep_103 rfl rfl (Nat.le_of_ble_eq_true rfl) hb9 hc9) (kcX9_number (d := d + 2) hfl l0 0 7 m43) (fun x45 m44 => ?_)
      refine pm_iast (y := zX9_readsStep) dX9_readsStep_106 (fun m46 => ?_)
      exact gX9_readsStep_j107 hfl rs l0 l1 r7 m46 hrs
  · exact pm_vret rfl dX9_readsStep_40
set_option maxRecDepth 100000 in
set_option maxHeartbeats 4000000 in
theorem gX9_readsStep_j19 (hfl : l.flags = flags0) (rs : Nat → pmM → pmR) (l0 : Nat) (l1 : Int32) (m : pmM) (hrs : ∀ (j : Nat) (b0 : Nat) (m : pmM), pm_C l Γ zX9_readsStep (d + j + 4) [.ref b0] m (rs b0 m)) : pm_G l Γ zX9_readsStep (d + 5) 19 [.ref l0, .int l1, pmU] [] m (X9_readsStep_j19 rs l0 l1 m) := by
  unfold X9_readsStep_j19
  refine pm_iload_n dX9_readsStep_19 rfl rfl ?_
  refine pm_bipush (v := 6) dX9_readsStep_20 kb_6 ?_
  refine pm_icmp_ne (tgt := 33) dX9_readsStep_22 rfl ?_ ?_
  · exact gX9_readsStep_j33 hfl rs l0 l1 m hrs
  · refine pm_aload_n dX9_readsStep_25 rfl rfl ?_
    refine pm_rcv (fun hb9 hc9 => ?_)
    refine pm_kI (d := d + 4) rfl (pm_V (y := zX9_readsStep) (z := zX9_opensOne) (As := []) zkX9_opensOne pm_q9 (by decide) tw_1638 tw_1640 tw_118 dX9_readsStep_26 rfl rfl (Nat.le_of_ble_eq_true rfl) hb9 hc9) (kcX9_opensOne (d := d + 3) hfl l0 m) (fun x48 m47 => ?_)
    refine pm_if_ne (tgt := 33) dX9_readsStep_29 rfl ?_ ?_
    · exact gX9_readsStep_j33 hfl rs l0 l1 m47 hrs
    · exact pm_vret rfl dX9_readsStep_32
set_option maxRecDepth 100000 in
set_option maxHeartbeats 4000000 in
theorem kcX9_readsStep (hfl : l.flags = flags0) (rs : Nat → pmM → pmR) (a0 : Nat) (m : pmM) (hrs : ∀ (j : Nat) (b0 : Nat) (m : pmM), pm_C l Γ zX9_readsStep (d + j + 4) [.ref b0] m (rs b0 m)) : pm_C l Γ zX9_readsStep (d + 5) [.ref a0] m (X9_readsStep rs a0 m) := by
  refine pm_enter (ls := [.ref a0, pmU, pmU]) hfl (by decide +kernel) rfl (Nat.le_of_ble_eq_true rfl) rfl (Nat.le_of_ble_eq_true rfl) ?_
  unfold X9_readsStep
  refine pm_aload_n dX9_readsStep_0 rfl rfl ?_
  refine pm_rcv (fun hb9 hc9 => ?_)
  refine pm_kI (d := d + 4) rfl (pm_V (y := zX9_readsStep) (z := zX9_stepHere) (As := []) zkX9_stepHere pm_q9 (by decide) tw_1674 tw_1676 tw_124 dX9_readsStep_1 rfl rfl (Nat.le_of_ble_eq_true rfl) hb9 hc9) (kcX9_stepHere (d := d + 0) hfl a0 m) (fun x2 m1 => ?_)
  refine pm_istore_n (ls2 := [.ref a0, .int x2, pmU]) dX9_readsStep_4 rfl rfl (Nat.le_of_ble_eq_true rfl) rfl ?_
  refine pm_iload_n dX9_readsStep_5 rfl rfl ?_
  refine pm_iconst (v := (-1)) dX9_readsStep_6 ki_n1 ?_
  refine pm_icmp_ne (tgt := 19) dX9_readsStep_7 rfl ?_ ?_
  · exact gX9_readsStep_j19 hfl rs a0 x2 m1 hrs
  · refine pm_aload_n dX9_readsStep_10 rfl rfl ?_
    refine pm_iconst (v := 1) dX9_readsStep_11 ki_1 ?_
    refine pm_aload_n dX9_readsStep_12 rfl rfl ?_
    refine fg_9_4 (y := zX9_readsStep) (Or.inl tw_1370) dX9_readsStep_13 (fun x49 => ?_)
    refine pm_rcv (fun hb9 hc9 => ?_)
    refine pm_kV (d := d + 4) rfl (pm_V (y := zX9_readsStep) (z := zX9_wrong) (As := [.int 1, .int x49]) zkX9_wrong pm_q9 (by decide) tw_1586 tw_1588 tw_107 dX9_readsStep_16 rfl rfl (Nat.le_of_ble_eq_true rfl) hb9 hc9) (kcX9_wrong (d := d + 4) hfl a0 1 x49 m1) (fun m50 => ?_)
    exact gX9_readsStep_j19 hfl rs a0 x2 m50 hrs
set_option maxRecDepth 100000 in
set_option maxHeartbeats 4000000 in
theorem kcX9_readsStep_N0 (hfl : l.flags = flags0) : ∀ (n d : Nat) (b0 : Nat) (m : pmM), pm_C l Γ zX9_readsStep (d + 4 + 1 * n) [.ref b0] m (X9_readsStep_N n b0 m)
  | 0, d, b0, m => fun o m9 h => by cases h
  | n + 1, d, b0, m => by
    have h := kcX9_readsStep (d := d + 1 * n) hfl (X9_readsStep_N n) b0 m (fun j b0 m => by
      have h2 := kcX9_readsStep_N0 hfl n (d + j) b0 m
      rw [show d + 1 * n + j + 4 = d + j + 4 + 1 * n by omega]
      exact h2)
    rw [show d + 4 + 1 * (n + 1) = d + 1 * n + 5 by omega]
    exact h
theorem kcX9_readsStep_N (hfl : l.flags = flags0) (n : Nat) (b0 : Nat) (m : pmM) : pm_C l Γ zX9_readsStep (d + 4 + 1 * n) [.ref b0] m (X9_readsStep_N n b0 m) := kcX9_readsStep_N0 hfl n d b0 m
-- StruckPageModel.sentence(I)I
def X9_sentence_L126 (l0 : Nat) (l2 : Int32) (again126 : (Int32 × pmM) → pmR) (s126 : Int32 × pmM) : pmR := if l2 ≤ s126.1 then (pm_oI l2 s126.2) else (pm_gR 9 l0 25 s126.2 fun r12 => pm_gR 9 l0 26 s126.2 fun r13 => pm_ld 100 r13 s126.1 s126.2 fun x14 => pm_st 100 r12 s126.1 x14 s126.2 fun m15 => pm_bI (s126.1 + 1) fun x16 => again126 (x16, m15))
def X9_sentence_j102 (l0 : Nat) (l2 : Int32) (m : pmM) : pmR := pm_gI 9 l0 5 m fun x9 => if x9 = 0 then (pm_pI 9 l0 3 (-1) m fun m10 => pm_pI 9 l0 33 l2 m10 fun m11 => pm_lp pm_N (X9_sentence_L126 l0 l2) (0, m11)) else (pm_rc 9 l0 m <| pm_cI (X9_faulty l0 m) fun x18 m17 => pm_oI x18 m17)
def X9_sentence_j95 (again46 : (Int32 × pmM) → pmR) (l0 : Nat) (l2 : Int32) (m : pmM) : pmR := pm_rc 9 l0 m <| pm_cV (X9_blanks l0 m) fun m25 => again46 (l2, m25)
def X9_sentence_L46 (l0 : Nat) (again46 : (Int32 × pmM) → pmR) (s46 : Int32 × pmM) : pmR := pm_gI 9 l0 5 s46.2 fun x8 => if x8 = 0 then (pm_gI 9 l0 4 s46.2 fun x19 => pm_gI 9 l0 2 s46.2 fun x20 => if x20 ≤ x19 then (X9_sentence_j102 l0 s46.1 s46.2) else (pm_rc 9 l0 s46.2 <| pm_cI (X9_wordsOwn l0 s46.1 12 s46.2) fun x22 m21 => pm_rc 9 l0 m21 <| pm_cV (X9_sign l0 59 m21) fun m23 => pm_gI 9 l0 5 m23 fun x24 => if x24 = 0 then (pm_gR 9 l0 26 m23 fun r26 => pm_st 100 r26 s46.1 x22 m23 fun m27 => pm_bI (s46.1 + 1) fun x28 => X9_sentence_j95 again46 l0 x28 m27) else (X9_sentence_j95 again46 l0 s46.1 m23))) else (X9_sentence_j102 l0 s46.1 s46.2)
def X9_sentence_j29 (l0 : Nat) (l1 : Int32) (t0 : Int32) (t1 : Nat) (m : pmM) : pmR := pm_rc 9 t1 m <| pm_cI (X9_bad t1 t0 1 1 m) fun x6 m5 => if x6 = 0 then (pm_rc 9 l0 m5 <| pm_cV (X9_starts l0 l1 m5) fun m7 => pm_lp pm_N (X9_sentence_L46 l0) (0, m7)) else (pm_oI 0 m5)
def X9_sentence_j24 (l0 : Nat) (l1 : Int32) (t0 : Nat) (m : pmM) : pmR := X9_sentence_j29 l0 l1 1 t0 m
def X9_sentence (a0 : Nat) (a1 : Int32) (m : pmM) : pmR := pm_pI 9 a0 0 0 m fun m1 => pm_gI 9 a0 1 m1 fun x2 => pm_cI (X9_in a1 0 x2 m1) fun x4 m3 => if x4 = 0 then (X9_sentence_j24 a0 a1 a0 m3) else (if a1 ≤ 60 then (X9_sentence_j29 a0 a1 0 a0 m3) else (X9_sentence_j24 a0 a1 a0 m3))
set_option maxRecDepth 100000 in
set_option maxHeartbeats 4000000 in
theorem gX9_sentence_L126 (hfl : l.flags = flags0) (l0 : Nat) (l2 : Int32) : ∀ (n : Nat) (s : Int32 × pmM), pm_G l Γ zX9_sentence (d + 4) 126 [.ref l0, pmU, .int l2, .int s.1] [] s.2 (pm_lp n (X9_sentence_L126 l0 l2) s) :=
  pm_loop (lsf := fun s : Int32 × pmM => [.ref l0, pmU, .int l2, .int s.1]) (mf := fun s : Int32 × pmM => s.2) (fun again126 hag126 s126 => by
    unfold X9_sentence_L126
    refine pm_iload_n dX9_sentence_126 rfl rfl ?_
    refine pm_iload_n dX9_sentence_127 rfl rfl ?_
    refine pm_icmp_ge (tgt := 149) dX9_sentence_128 rfl ?_ ?_
    · refine pm_iload_n dX9_sentence_149 rfl rfl ?_
      exact pm_iret rfl dX9_sentence_150
    · refine pm_aload_n dX9_sentence_131 rfl rfl ?_
      refine fg_9_25 (y := zX9_sentence) (Or.inl tw_1391) dX9_sentence_132 (fun r12 => ?_)
      refine pm_iload_n dX9_sentence_135 rfl rfl ?_
      refine pm_aload_n dX9_sentence_136 rfl rfl ?_
      refine fg_9_26 (y := zX9_sentence) (Or.inl tw_1392) dX9_sentence_137 (fun r13 => ?_)
      refine pm_iload_n dX9_sentence_140 rfl rfl ?_
      refine pm_iald (y := zX9_sentence) dX9_sentence_141 (fun x14 => ?_)
      refine pm_iast (y := zX9_sentence) dX9_sentence_142 (fun m15 => ?_)
      refine pm_iincn (y := zX9_sentence) dX9_sentence_143 rfl ki_1 rfl (Nat.le_of_ble_eq_true rfl) (fun x16 => ?_)
      refine pm_eqls (ls2 := [.ref l0, pmU, .int l2, .int x16]) rfl ?_
      refine pm_goto (tgt := 126) dX9_sentence_146 rfl ?_
      exact hag126 (x16, m15))
set_option maxRecDepth 100000 in
set_option maxHeartbeats 4000000 in
theorem gX9_sentence_j102 (hfl : l.flags = flags0) (l0 : Nat) (l2 : Int32) (m : pmM) : pm_G l Γ zX9_sentence (d + 4) 102 [.ref l0, pmU, .int l2, pmU] [] m (X9_sentence_j102 l0 l2 m) := by
  unfold X9_sentence_j102
  refine pm_aload_n dX9_sentence_102 rfl rfl ?_
  refine fg_9_5 (y := zX9_sentence) (Or.inl tw_1371) dX9_sentence_103 (fun x9 => ?_)
  refine pm_if_eq (tgt := 114) dX9_sentence_106 rfl ?_ ?_
  · refine pm_aload_n dX9_sentence_114 rfl rfl ?_
    refine pm_iconst (v := (-1)) dX9_sentence_115 ki_n1 ?_
    refine fp_9_3 (y := zX9_sentence) (Or.inl tw_1369) dX9_sentence_116 (fun m10 => ?_)
    refine pm_aload_n dX9_sentence_119 rfl rfl ?_
    refine pm_iload_n dX9_sentence_120 rfl rfl ?_
    refine fp_9_33 (y := zX9_sentence) (Or.inl tw_1399) dX9_sentence_121 (fun m11 => ?_)
    refine pm_iconst (v := 0) dX9_sentence_124 ki_0 ?_
    refine pm_istore_n (ls2 := [.ref l0, pmU, .int l2, .int 0]) dX9_sentence_125 rfl rfl (Nat.le_of_ble_eq_true rfl) rfl ?_
    exact gX9_sentence_L126 hfl l0 l2 pm_N (0, m11)
  · refine pm_aload_n dX9_sentence_109 rfl rfl ?_
    refine pm_rcv (fun hb9 hc9 => ?_)
    refine pm_kI (d := d + 3) rfl (pm_V (y := zX9_sentence) (z := zX9_faulty) (As := []) zkX9_faulty pm_q9 (by decide) tw_1614 tw_1616 tw_113 dX9_sentence_110 rfl rfl (Nat.le_of_ble_eq_true rfl) hb9 hc9) (kcX9_faulty (d := d + 3) hfl l0 m) (fun x18 m17 => ?_)
    exact pm_iret rfl dX9_sentence_113
set_option maxRecDepth 100000 in
set_option maxHeartbeats 4000000 in
theorem gX9_sentence_j95 (hfl : l.flags = flags0) (again46 : (Int32 × pmM) → pmR) (l0 : Nat) (l2 : Int32) (m : pmM) (hag46 : ∀ s : Int32 × pmM, pm_G l Γ zX9_sentence (d + 4) 46 [.ref l0, pmU, .int s.1, pmU] [] s.2 (again46 s)) : pm_G l Γ zX9_sentence (d + 4) 95 [.ref l0, pmU, .int l2, pmU] [] m (X9_sentence_j95 again46 l0 l2 m) := by
  unfold X9_sentence_j95
  refine pm_aload_n dX9_sentence_95 rfl rfl ?_
  refine pm_rcv (fun hb9 hc9 => ?_)
  refine pm_kV (d := d + 3) rfl (pm_V (y := zX9_sentence) (z := zX9_blanks) (As := []) zkX9_blanks pm_q9 (by decide) tw_1556 tw_1558 tw_101 dX9_sentence_96 rfl rfl (Nat.le_of_ble_eq_true rfl) hb9 hc9) (kcX9_blanks (d := d + 2) hfl l0 m) (fun m25 => ?_)
  refine pm_goto (tgt := 46) dX9_sentence_99 rfl ?_
  exact hag46 (l2, m25)
set_option maxRecDepth 100000 in
set_option maxHeartbeats 4000000 in
theorem gX9_sentence_L46 (hfl : l.flags = flags0) (l0 : Nat) : ∀ (n : Nat) (s : Int32 × pmM), pm_G l Γ zX9_sentence (d + 4) 46 [.ref l0, pmU, .int s.1, pmU] [] s.2 (pm_lp n (X9_sentence_L46 l0) s) :=
  pm_loop (lsf := fun s : Int32 × pmM => [.ref l0, pmU, .int s.1, pmU]) (mf := fun s : Int32 × pmM => s.2) (fun again46 hag46 s46 => by
    unfold X9_sentence_L46
    refine pm_aload_n dX9_sentence_46 rfl rfl ?_
    refine fg_9_5 (y := zX9_sentence) (Or.inl tw_1371) dX9_sentence_47 (fun x8 => ?_)
    refine pm_if_ne (tgt := 102) dX9_sentence_50 rfl ?_ ?_
    · exact gX9_sentence_j102 hfl l0 s46.1 s46.2
    · refine pm_aload_n dX9_sentence_53 rfl rfl ?_
      refine fg_9_4 (y := zX9_sentence) (Or.inl tw_1370) dX9_sentence_54 (fun x19 => ?_)
      refine pm_aload_n dX9_sentence_57 rfl rfl ?_
      refine fg_9_2 (y := zX9_sentence) (Or.inl tw_1368) dX9_sentence_58 (fun x20 => ?_)
      refine pm_icmp_ge (tgt := 102) dX9_sentence_61 rfl ?_ ?_
      · exact gX9_sentence_j102 hfl l0 s46.1 s46.2
      · refine pm_aload_n dX9_sentence_64 rfl rfl ?_
        refine pm_iload_n dX9_sentence_65 rfl rfl ?_
        refine pm_bipush (v := 12) dX9_sentence_66 kb_12 ?_
        refine pm_rcv (fun hb9 hc9 => ?_)
        refine pm_kI (d := d + 3) rfl (pm_V (y := zX9_sentence) (z := zX9_wordsOwn) (As := [.int s46.1, .int 12]) zkX9_wordsOwn pm_q9 (by decide) tw_1598 tw_1600 tw_110 dX9_sentence_68 rfl rfl (Nat.le_of_ble_eq_true rfl) hb9 hc9) (kcX9_wordsOwn (d := d + 0) hfl l0 s46.1 12 s46.2) (fun x22 m21 => ?_)
        refine pm_istore_n (ls2 := [.ref l0, pmU, .int s46.1, .int x22]) dX9_sentence_71 rfl rfl (Nat.le_of_ble_eq_true rfl) rfl ?_
        refine pm_aload_n dX9_sentence_72 rfl rfl ?_
        refine pm_bipush (v := 59) dX9_sentence_73 kb_59 ?_
        refine pm_rcv (fun hb9 hc9 => ?_)
        refine pm_kV (d := d + 3) rfl (pm_V (y := zX9_sentence) (z := zX9_sign) (As := [.int 59]) zkX9_sign pm_q9 (by decide) tw_1610 tw_1612 tw_112 dX9_sentence_75 rfl rfl (Nat.le_of_ble_eq_true rfl) hb9 hc9) (kcX9_sign (d := d + 1) hfl l0 59 m21) (fun m23 => ?_)
        refine pm_aload_n dX9_sentence_78 rfl rfl ?_
        refine fg_9_5 (y := zX9_sentence) (Or.inl tw_1371) dX9_sentence_79 (fun x24 => ?_)
        refine pm_if_ne (tgt := 95) dX9_sentence_82 rfl ?_ ?_
        · refine pm_drop (ls2 := [.ref l0, pmU, .int s46.1, pmU]) (Nat.le_refl _) (pm_le_spec (pm_le_v (pm_le_u (pm_le_v (pm_le_u (pm_le_n)))))) ?_
          exact gX9_sentence_j95 hfl again46 l0 s46.1 m23 hag46
        · refine pm_aload_n dX9_sentence_85 rfl rfl ?_
          refine fg_9_26 (y := zX9_sentence) (Or.inl tw_1392) dX9_sentence_86 (fun r26 => ?_)
          refine pm_iload_n dX9_sentence_89 rfl rfl ?_
          refine pm_iload_n dX9_sentence_90 rfl rfl ?_
          refine pm_iast (y := zX9_sentence) dX9_sentence_91 (fun m27 => ?_)
          refine pm_iincn (y := zX9_sentence) dX9_sentence_92 rfl ki_1 rfl (Nat.le_of_ble_eq_true rfl) (fun x28 => ?_)
          refine pm_eqls (ls2 := [.ref l0, pmU, .int x28, .int x22]) rfl ?_
          refine pm_drop (ls2 := [.ref l0, pmU, .int x28, pmU]) (Nat.le_refl _) (pm_le_spec (pm_le_v (pm_le_u (pm_le_v (pm_le_u (pm_le_n)))))) ?_
          exact gX9_sentence_j95 hfl again46 l0 x28 m27 hag46)
set_option maxRecDepth 100000 in
set_option maxHeartbeats 4000000 in
theorem gX9_sentence_j29 (hfl : l.flags = flags0) (l0 : Nat) (l1 : Int32) (t0 : Int32) (t1 : Nat) (m : pmM) : pm_G l Γ zX9_sentence (d + 4) 29 [.ref l0, .int l1, pmU, pmU] [.int t0, .ref t1] m (X9_sentence_j29 l0 l1 t0 t1 m) := by
  unfold X9_sentence_j29
  refine pm_iconst (v := 1) dX9_sentence_29 ki_1 ?_
  refine pm_iconst (v := 1) dX9_sentence_30 ki_1 ?_
  refine pm_rcv (fun hb9 hc9 => ?_)
  refine pm_kI (d := d + 3) rfl (pm_V (y := zX9_sentence) (z := zX9_bad) (As := [.int t0, .int 1, .int 1]) zkX9_bad pm_q9 (by decide) tw_1548 tw_1550 tw_99 dX9_sentence_31 rfl rfl (Nat.le_of_ble_eq_true rfl) hb9 hc9) (kcX9_bad (d := d + 3) hfl t1 t0 1 1 m) (fun x6 m5 => ?_)
  refine pm_if_eq (tgt := 39) dX9_sentence_34 rfl ?_ ?_
  · refine pm_aload_n dX9_sentence_39 rfl rfl ?_
    refine pm_iload_n dX9_sentence_40 rfl rfl ?_
    refine pm_rcv (fun hb9 hc9 => ?_)
    refine pm_kV (d := d + 3) rfl (pm_V (y := zX9_sentence) (z := zX9_starts) (As := [.int l1]) zkX9_starts pm_q9 (by decide) tw_1552 tw_1554 tw_100 dX9_sentence_41 rfl rfl (Nat.le_of_ble_eq_true rfl) hb9 hc9) (kcX9_starts (d := d + 1) hfl l0 l1 m5) (fun m7 => ?_)
    refine pm_iconst (v := 0) dX9_sentence_44 ki_0 ?_
    refine pm_istore_n (ls2 := [.ref l0, .int l1, .int 0, pmU]) dX9_sentence_45 rfl rfl (Nat.le_of_ble_eq_true rfl) rfl ?_
    refine pm_drop (ls2 := [.ref l0, pmU, .int 0, pmU]) (Nat.le_refl _) (pm_le_spec (pm_le_v (pm_le_u (pm_le_v (pm_le_u (pm_le_n)))))) ?_
    exact gX9_sentence_L46 hfl l0 pm_N (0, m7)
  · refine pm_iconst (v := 0) dX9_sentence_37 ki_0 ?_
    exact pm_iret rfl dX9_sentence_38
set_option maxRecDepth 100000 in
set_option maxHeartbeats 4000000 in
theorem gX9_sentence_j24 (hfl : l.flags = flags0) (l0 : Nat) (l1 : Int32) (t0 : Nat) (m : pmM) : pm_G l Γ zX9_sentence (d + 4) 24 [.ref l0, .int l1, pmU, pmU] [.ref t0] m (X9_sentence_j24 l0 l1 t0 m) := by
  unfold X9_sentence_j24
  refine pm_iconst (v := 1) dX9_sentence_24 ki_1 ?_
  refine pm_goto (tgt := 29) dX9_sentence_25 rfl ?_
  exact gX9_sentence_j29 hfl l0 l1 1 t0 m
set_option maxRecDepth 100000 in
set_option maxHeartbeats 4000000 in
theorem kcX9_sentence (hfl : l.flags = flags0) (a0 : Nat) (a1 : Int32) (m : pmM) : pm_C l Γ zX9_sentence (d + 4) [.ref a0, .int a1] m (X9_sentence a0 a1 m) := by
  refine pm_enter (ls := [.ref a0, .int a1, pmU, pmU]) hfl (by decide +kernel) rfl (Nat.le_of_ble_eq_true rfl) rfl (Nat.le_of_ble_eq_true rfl) ?_
  unfold X9_sentence
  refine pm_aload_n dX9_sentence_0 rfl rfl ?_
  refine pm_iconst (v := 0) dX9_sentence_1 ki_0 ?_
  refine fp_9_0 (y := zX9_sentence) (Or.inl tw_1366) dX9_sentence_2 (fun m1 => ?_)
  refine pm_aload_n dX9_sentence_5 rfl rfl ?_
  refine pm_iload_n dX9_sentence_6 rfl rfl ?_
  refine pm_iconst (v := 0) dX9_sentence_7 ki_0 ?_
  refine pm_aload_n dX9_sentence_8 rfl rfl ?_
  refine fg_9_1 (y := zX9_sentence) (Or.inl tw_1367) dX9_sentence_9 (fun x2 => ?_)
  refine pm_kI (d := d + 3) rfl (pm_S (y := zX9_sentence) (z := zX9_in) (As := [.int a1, .int 0, .int x2]) zkX9_in tw_1545 tw_1546 dX9_sentence_12 rfl rfl (Nat.le_of_ble_eq_true rfl)) (kcX9_in (d := d + 3) hfl a1 0 x2 m1) (fun x4 m3 => ?_)
  refine pm_if_eq (tgt := 24) dX9_sentence_15 rfl ?_ ?_
  · exact gX9_sentence_j24 hfl a0 a1 a0 m3
  · refine pm_iload_n dX9_sentence_18 rfl rfl ?_
    refine pm_bipush (v := 60) dX9_sentence_19 kb_60 ?_
    refine pm_icmp_le (tgt := 28) dX9_sentence_21 rfl ?_ ?_
    · refine pm_iconst (v := 0) dX9_sentence_28 ki_0 ?_
      exact gX9_sentence_j29 hfl a0 a1 0 a0 m3
    · exact gX9_sentence_j24 hfl a0 a1 a0 m3
-- StruckPageModel.fault()I
def X9_fault (a0 : Nat) (m : pmM) : pmR := pm_pI 9 a0 0 0 m fun m1 => pm_gI 9 a0 3 m1 fun x2 => pm_oI x2 m1
set_option maxRecDepth 100000 in
set_option maxHeartbeats 4000000 in
theorem kcX9_fault (hfl : l.flags = flags0) (a0 : Nat) (m : pmM) : pm_C l Γ zX9_fault (d + 0) [.ref a0] m (X9_fault a0 m) := by
  refine pm_enter (ls := [.ref a0]) hfl (by decide +kernel) rfl (Nat.le_of_ble_eq_true rfl) rfl (Nat.le_of_ble_eq_true rfl) ?_
  unfold X9_fault
  refine pm_aload_n dX9_fault_0 rfl rfl ?_
  refine pm_iconst (v := 0) dX9_fault_1 ki_0 ?_
  refine fp_9_0 (y := zX9_fault) (Or.inl tw_1366) dX9_fault_2 (fun m1 => ?_)
  refine pm_aload_n dX9_fault_5 rfl rfl ?_
  refine fg_9_3 (y := zX9_fault) (Or.inl tw_1369) dX9_fault_6 (fun x2 => ?_)
  exact pm_iret rfl dX9_fault_9
-- StruckPageModel.costBy(IIIIIII)I
def X9_costBy (a0 : Nat) (a1 : Int32) (a2 : Int32) (a3 : Int32) (a4 : Int32) (a5 : Int32) (a6 : Int32) (a7 : Int32) (m : pmM) : pmR := pm_gR 9 a0 24 m fun r1 => pm_st 100 r1 0 a1 m fun m2 => pm_gR 9 a0 24 m2 fun r3 => pm_st 100 r3 1 a2 m2 fun m4 => pm_gR 9 a0 24 m4 fun r5 => pm_st 100 r5 2 a3 m4 fun m6 => pm_gR 9 a0 24 m6 fun r7 => pm_st 100 r7 3 a4 m6 fun m8 => pm_gR 9 a0 24 m8 fun r9 => pm_st 100 r9 4 a5 m8 fun m10 => pm_gR 9 a0 24 m10 fun r11 => pm_st 100 r11 5 a6 m10 fun m12 => pm_gR 9 a0 24 m12 fun r13 => pm_st 100 r13 6 a7 m12 fun m14 => pm_rc 9 a0 m14 <| pm_cI (X9_byLaw a0 m14) fun x16 m15 => pm_oI x16 m15
set_option maxRecDepth 100000 in
set_option maxHeartbeats 4000000 in
theorem kcX9_costBy (hfl : l.flags = flags0) (a0 : Nat) (a1 : Int32) (a2 : Int32) (a3 : Int32) (a4 : Int32) (a5 : Int32) (a6 : Int32) (a7 : Int32) (m : pmM) : pm_C l Γ zX9_costBy (d + 3) [.ref a0, .int a1, .int a2, .int a3, .int a4, .int a5, .int a6, .int a7] m (X9_costBy a0 a1 a2 a3 a4 a5 a6 a7 m) := by
  refine pm_enter (ls := [.ref a0, .int a1, .int a2, .int a3, .int a4, .int a5, .int a6, .int a7]) hfl (by decide +kernel) rfl (Nat.le_of_ble_eq_true rfl) rfl (Nat.le_of_ble_eq_true rfl) ?_
  unfold X9_costBy
  refine pm_aload_n dX9_costBy_0 rfl rfl ?_
  refine fg_9_24 (y := zX9_costBy) (Or.inl tw_1390) dX9_costBy_1 (fun r1 => ?_)
  refine pm_iconst (v := 0) dX9_costBy_4 ki_0 ?_
  refine pm_iload_n dX9_costBy_5 rfl rfl ?_
  refine pm_iast (y := zX9_costBy) dX9_costBy_6 (fun m2 => ?_)
  refine pm_aload_n dX9_costBy_7 rfl rfl ?_
  refine fg_9_24 (y := zX9_costBy) (Or.inl tw_1390) dX9_costBy_8 (fun r3 => ?_)
  refine pm_iconst (v := 1) dX9_costBy_11 ki_1 ?_
  refine pm_iload_n dX9_costBy_12 rfl rfl ?_
  refine pm_iast (y := zX9_costBy) dX9_costBy_13 (fun m4 => ?_)
  refine pm_aload_n dX9_costBy_14 rfl rfl ?_
  refine fg_9_24 (y := zX9_costBy) (Or.inl tw_1390) dX9_costBy_15 (fun r5 => ?_)
  refine pm_iconst (v := 2) dX9_costBy_18 ki_2 ?_
  refine pm_iload_n dX9_costBy_19 rfl rfl ?_
  refine pm_iast (y := zX9_costBy) dX9_costBy_20 (fun m6 => ?_)
  refine pm_aload_n dX9_costBy_21 rfl rfl ?_
  refine fg_9_24 (y := zX9_costBy) (Or.inl tw_1390) dX9_costBy_22 (fun r7 => ?_)
  refine pm_iconst (v := 3) dX9_costBy_25 ki_3 ?_
  refine pm_iload dX9_costBy_26 rfl ?_
  refine pm_iast (y := zX9_costBy) dX9_costBy_28 (fun m8 => ?_)
  refine pm_aload_n dX9_costBy_29 rfl rfl ?_
  refine fg_9_24 (y := zX9_costBy) (Or.inl tw_1390) dX9_costBy_30 (fun r9 => ?_)
  refine pm_iconst (v := 4) dX9_costBy_33 ki_4 ?_
  refine pm_iload dX9_costBy_34 rfl ?_
  refine pm_iast (y := zX9_costBy) dX9_costBy_36 (fun m10 => ?_)
  refine pm_aload_n dX9_costBy_37 rfl rfl ?_
  refine fg_9_24 (y := zX9_costBy) (Or.inl tw_1390) dX9_costBy_38 (fun r11 => ?_)
  refine pm_iconst (v := 5) dX9_costBy_41 ki_5 ?_
  refine pm_iload dX9_costBy_42 rfl ?_
  refine pm_iast (y := zX9_costBy) dX9_costBy_44 (fun m12 => ?_)
  refine pm_aload_n dX9_costBy_45 rfl rfl ?_
  refine fg_9_24 (y := zX9_costBy) (Or.inl tw_1390) dX9_costBy_46 (fun r13 => ?_)
  refine pm_bipush (v := 6) dX9_costBy_49 kb_6 ?_
  refine pm_iload dX9_costBy_51 rfl ?_
  refine pm_iast (y := zX9_costBy) dX9_costBy_53 (fun m14 => ?_)
  refine pm_aload_n dX9_costBy_54 rfl rfl ?_
  refine pm_rcv (fun hb9 hc9 => ?_)
  refine pm_kI (d := d + 2) rfl (pm_V (y := zX9_costBy) (z := zX9_byLaw) (As := []) zkX9_byLaw pm_q9 (by decide) tw_1715 tw_1717 tw_132 dX9_costBy_55 rfl rfl (Nat.le_of_ble_eq_true rfl) hb9 hc9) (kcX9_byLaw (d := d + 0) hfl a0 m14) (fun x16 m15 => ?_)
  exact pm_iret rfl dX9_costBy_58
end GEN18
