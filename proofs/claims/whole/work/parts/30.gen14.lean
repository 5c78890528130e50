section GEN14
variable {l : Launch} {Γ : pmG} {d : Nat}
-- StruckPage.span(IIIIII)I
def X8_span_j178 (t0 : Int32) (m : pmM) : pmR := pm_oI t0 m
def X8_span_j146 (again68 : (Int32 × Int32 × Int32 × Int32 × pmM) → pmR) (l0 : Nat) (l1 : Int32) (l2 : Int32) (l3 : Int32) (l4 : Int32) (l5 : Int32) (l6 : Int32) (l7 : Int32) (l8 : Int32) (l10 : Int32) (t0 : Int32) (t1 : Int32) (m : pmM) : pmR := pm_bI (t1 + t0) fun x21 => pm_bI (l10 + 1) fun x22 => again68 (l7, l8, x21, x22, m)
def X8_span_L68 (l0 : Nat) (l1 : Int32) (l2 : Int32) (l3 : Int32) (l4 : Int32) (l5 : Int32) (l6 : Int32) (again68 : (Int32 × Int32 × Int32 × Int32 × pmM) → pmR) (s68 : Int32 × Int32 × Int32 × Int32 × pmM) : pmR := if l2 ≤ s68.2.2.2.1 then (if l5 = 0 then (X8_span_j178 s68.1 s68.2.2.2.2) else (if l5 = 1 then (X8_span_j178 s68.2.1 s68.2.2.2.2) else (X8_span_j178 s68.2.2.1 s68.2.2.2.2))) else (pm_gR 8 l0 9 s68.2.2.2.2 fun r5 => pm_gR 8 l0 8 s68.2.2.2.2 fun r6 => pm_rc 0 r5 s68.2.2.2.2 <| pm_cV (X0_takeOver r5 r6 s68.2.2.2.2) fun m7 => pm_gR 8 l0 9 m7 fun r8 => pm_rc 0 r8 m7 <| pm_cV (X0_playHand r8 (l1 + s68.2.2.2.1) l3 l4 m7) fun m9 => pm_gR 8 l0 9 m9 fun r10 => pm_rc 0 r10 m9 <| pm_cI (X0_leftInAll r10 m9) fun x12 m11 => pm_bI (if x12 < s68.1 then x12 else s68.1) fun x13 => pm_gR 8 l0 9 m11 fun r14 => pm_rc 0 r14 m11 <| pm_cI (X0_leftInAll r14 m11) fun x16 m15 => pm_bI (if s68.2.1 < x16 then x16 else s68.2.1) fun x17 => pm_gR 8 l0 9 m15 fun r18 => pm_rc 0 r18 m15 <| pm_cI (X0_leftIn r18 l6 m15) fun x20 m19 => if x20 = 0 then (X8_span_j146 again68 l0 l1 l2 l3 l4 l5 l6 x13 x17 s68.2.2.2.1 1 s68.2.2.1 m19) else (X8_span_j146 again68 l0 l1 l2 l3 l4 l5 l6 x13 x17 s68.2.2.2.1 0 s68.2.2.1 m19))
def X8_span_j47 (l0 : Nat) (l1 : Int32) (l2 : Int32) (l3 : Int32) (l4 : Int32) (l5 : Int32) (l6 : Int32) (t0 : Int32) (t1 : Nat) (m : pmM) : pmR := pm_rc 8 t1 m <| pm_cV (X8_must t1 t0 m) fun m2 => pm_gR 8 l0 1 m2 fun r3 => pm_gI 2 r3 4 m2 fun x4 => pm_lp pm_N (X8_span_L68 l0 l1 l2 l3 l4 l5 l6) (x4, 0, 0, 0, m2)
def X8_span_j46 (l0 : Nat) (l1 : Int32) (l2 : Int32) (l3 : Int32) (l4 : Int32) (l5 : Int32) (l6 : Int32) (t0 : Nat) (m : pmM) : pmR := X8_span_j47 l0 l1 l2 l3 l4 l5 l6 0 t0 m
def X8_span (a0 : Nat) (a1 : Int32) (a2 : Int32) (a3 : Int32) (a4 : Int32) (a5 : Int32) (a6 : Int32) (m : pmM) : pmR := pm_rc 8 a0 m <| pm_cV (X8_mustBeHand a0 a3 a4 m) fun m1 => if a2 < 1 then (X8_span_j46 a0 a1 a2 a3 a4 a5 a6 a0 m1) else (if (20 : Int32) < a2 then (X8_span_j46 a0 a1 a2 a3 a4 a5 a6 a0 m1) else (if a5 < 0 then (X8_span_j46 a0 a1 a2 a3 a4 a5 a6 a0 m1) else (if (2 : Int32) < a5 then (X8_span_j46 a0 a1 a2 a3 a4 a5 a6 a0 m1) else (pm_gR 8 a0 1 m1 fun r23 => pm_rc 2 r23 m1 <| pm_cI (X2_hasLine r23 a6 m1) fun x25 m24 => if x25 = 0 then (X8_span_j46 a0 a1 a2 a3 a4 a5 a6 a0 m24) else (X8_span_j47 a0 a1 a2 a3 a4 a5 a6 1 a0 m24)))))
set_option maxRecDepth 100000 in
set_option maxHeartbeats 4000000 in
theorem gX8_span_j178 (hfl : l.flags = flags0) (t0 : Int32) (m : pmM) : pm_G l Γ zX8_span (d + 5) 178 [pmU, pmU, pmU, pmU, pmU, pmU, pmU, pmU, pmU, pmU, pmU] [.int t0] m (X8_span_j178 t0 m) := by
  unfold X8_span_j178
  exact pm_iret rfl dX8_span_178
set_option maxRecDepth 100000 in
set_option maxHeartbeats 4000000 in
theorem gX8_span_j146 (hfl : l.flags = flags0) (again68 : (Int32 × Int32 × Int32 × Int32 × pmM) → pmR) (l0 : Nat) (l1 : Int32) (l2 : Int32) (l3 : Int32) (l4 : Int32) (l5 : Int32) (l6 : Int32) (l7 : Int32) (l8 : Int32) (l10 : Int32) (t0 : Int32) (t1 : Int32) (m : pmM) (hag68 : ∀ s : Int32 × Int32 × Int32 × Int32 × pmM, pm_G l Γ zX8_span (d + 5) 68 [.ref l0, .int l1, .int l2, .int l3, .int l4, .int l5, .int l6, .int s.1, .int s.2.1, .int s.2.2.1, .int s.2.2.2.1] [] s.2.2.2.2 (again68 s)) : pm_G l Γ zX8_span (d + 5) 146 [.ref l0, .int l1, .int l2, .int l3, .int l4, .int l5, .int l6, .int l7, .int l8, pmU, .int l10] [.int t0, .int t1] m (X8_span_j146 again68 l0 l1 l2 l3 l4 l5 l6 l7 l8 l10 t0 t1 m) := by
  unfold X8_span_j146
  refine pm_iadd dX8_span_146 ?_
  refine pm_bIn (fun x21 => ?_)
  refine pm_istore (ls2 := [.ref l0, .int l1, .int l2, .int l3, .int l4, .int l5, .int l6, .int l7, .int l8, .int x21, .int l10]) dX8_span_147 rfl (Nat.le_of_ble_eq_true rfl) rfl ?_
  refine pm_iincn (y := zX8_span) dX8_span_149 rfl ki_1 rfl (Nat.le_of_ble_eq_true rfl) (fun x22 => ?_)
  refine pm_eqls (ls2 := [.ref l0, .int l1, .int l2, .int l3, .int l4, .int l5, .int l6, .int l7, .int l8, .int x21, .int x22]) rfl ?_
  refine pm_goto (tgt := 68) dX8_span_152 rfl ?_
  exact hag68 (l7, l8, x21, x22, m)
set_option maxRecDepth 100000 in
set_option maxHeartbeats 4000000 in
theorem gX8_span_L68 (hfl : l.flags = flags0) (l0 : Nat) (l1 : Int32) (l2 : Int32) (l3 : Int32) (l4 : Int32) (l5 : Int32) (l6 : Int32) : ∀ (n : Nat) (s : Int32 × Int32 × Int32 × Int32 × pmM), pm_G l Γ zX8_span (d + 5) 68 [.ref l0, .int l1, .int l2, .int l3, .int l4, .int l5, .int l6, .int s.1, .int s.2.1, .int s.2.2.1, .int s.2.2.2.1] [] s.2.2.2.2 (pm_lp n (X8_span_L68 l0 l1 l2 l3 l4 l5 l6) s) :=
  pm_loop (lsf := fun s : Int32 × Int32 × Int32 × Int32 × pmM => [.ref l0, .int l1, .int l2, .int l3, .int l4, .int l5, .int l6, .int s.1, .int s.2.1, .int s.2.2.1, .int s.2.2.2.1]) (mf := fun s : Int32 × Int32 × Int32 × Int32 × pmM => s.2.2.2.2) (fun again68 hag68 s68 => by
    unfold X8_span_L68
    refine pm_iload dX8_span_68 rfl ?_
    refine pm_iload_n dX8_span_70 rfl rfl ?_
    refine pm_icmp_ge (tgt := 155) dX8_span_71 rfl ?_ ?_
    · refine pm_iload dX8_span_155 rfl ?_
      refine pm_if_ne (tgt := 165) dX8_span_157 rfl ?_ ?_
      · refine pm_iload dX8_span_165 rfl ?_
        refine pm_iconst (v := 1) dX8_span_167 ki_1 ?_
        refine pm_icmp_ne (tgt := 176) dX8_span_168 rfl ?_ ?_
        · refine pm_iload dX8_span_176 rfl ?_
          refine pm_drop (ls2 := [pmU, pmU, pmU, pmU, pmU, pmU, pmU, pmU, pmU, pmU, pmU]) (Nat.le_refl _) (pm_le_spec (pm_le_u (pm_le_u (pm_le_u (pm_le_u (pm_le_u (pm_le_u (pm_le_u (pm_le_u (pm_le_u (pm_le_u (pm_le_u (pm_le_n))))))))))))) ?_
          exact gX8_span_j178 hfl s68.2.2.1 s68.2.2.2.2
        · refine pm_iload dX8_span_171 rfl ?_
          refine pm_goto (tgt := 178) dX8_span_173 rfl ?_
          refine pm_drop (ls2 := [pmU, pmU, pmU, pmU, pmU, pmU, pmU, pmU, pmU, pmU, pmU]) (Nat.le_refl _) (pm_le_spec (pm_le_u (pm_le_u (pm_le_u (pm_le_u (pm_le_u (pm_le_u (pm_le_u (pm_le_u (pm_le_u (pm_le_u (pm_le_u (pm_le_n))))))))))))) ?_
          exact gX8_span_j178 hfl s68.2.1 s68.2.2.2.2
      · refine pm_iload dX8_span_160 rfl ?_
        refine pm_goto (tgt := 178) dX8_span_162 rfl ?_
        refine pm_drop (ls2 := [pmU, pmU, pmU, pmU, pmU, pmU, pmU, pmU, pmU, pmU, pmU]) (Nat.le_refl _) (pm_le_spec (pm_le_u (pm_le_u (pm_le_u (pm_le_u (pm_le_u (pm_le_u (pm_le_u (pm_le_u (pm_le_u (pm_le_u (pm_le_u (pm_le_n))))))))))))) ?_
        exact gX8_span_j178 hfl s68.1 s68.2.2.2.2
    · refine pm_aload_n dX8_span_74 rfl rfl ?_
      refine fg_8_9 (y := zX8_span) (Or.inl tw_448) dX8_span_75 (fun r5 => ?_)
      refine pm_aload_n dX8_span_78 rfl rfl ?_
      refine fg_8_8 (y := zX8_span) (Or.inl tw_447) dX8_span_79 (fun r6 => ?_)
      refine pm_rcv (fun hb9 hc9 => ?_)
      refine pm_kV (d := d + 4) rfl (pm_VN (y := zX8_span) (z := zX0_takeOver) (As := [.ref r6]) zkX0_takeOver pm_q0 (by decide) tw_556 tw_558 tw_8 dX8_span_82 rfl rfl (Nat.le_of_ble_eq_true rfl) hb9 hc9) (kcX0_takeOver (d := d + 4) hfl r5 r6 s68.2.2.2.2) (fun m7 => ?_)
      refine pm_aload_n dX8_span_85 rfl rfl ?_
      refine fg_8_9 (y := zX8_span) (Or.inl tw_448) dX8_span_86 (fun r8 => ?_)
      refine pm_iload_n dX8_span_89 rfl rfl ?_
      refine pm_iload dX8_span_90 rfl ?_
      refine pm_iadd dX8_span_92 ?_
      refine pm_iload_n dX8_span_93 rfl rfl ?_
      refine pm_iload dX8_span_94 rfl ?_
      refine pm_rcv (fun hb9 hc9 => ?_)
      refine pm_kV (d := d + 4) rfl (pm_VN (y := zX8_span) (z := zX0_playHand) (As := [.int (l1 + s68.2.2.2.1), .int l3, .int l4]) zkX0_playHand pm_q0 (by decide) tw_1325 tw_1327 tw_95 dX8_span_96 rfl rfl (Nat.le_of_ble_eq_true rfl) hb9 hc9) (kcX0_playHand (d := d + 0) hfl r8 (l1 + s68.2.2.2.1) l3 l4 m7) (fun m9 => ?_)
      refine pm_iload dX8_span_99 rfl ?_
      refine pm_aload_n dX8_span_101 rfl rfl ?_
      refine fg_8_9 (y := zX8_span) (Or.inl tw_448) dX8_span_102 (fun r10 => ?_)
      refine pm_rcv (fun hb9 hc9 => ?_)
      refine pm_kI (d := d + 4) rfl (pm_VN (y := zX8_span) (z := zX0_leftInAll) (As := []) zkX0_leftInAll pm_q0 (by decide) tw_1075 tw_613 tw_19 dX8_span_105 rfl rfl (Nat.le_of_ble_eq_true rfl) hb9 hc9) (kcX0_leftInAll (d := d + 3) hfl r10 m9) (fun x12 m11 => ?_)
      refine pm_min (y := zX8_span) tw_1288 tw_590 tw_171 tw_591 dX8_span_108 (Nat.le_of_ble_eq_true rfl) ?_
      refine pm_bIn (fun x13 => ?_)
      refine pm_istore (ls2 := [.ref l0, .int l1, .int l2, .int l3, .int l4, .int l5, .int l6, .int x13, .int s68.2.1, .int s68.2.2.1, .int s68.2.2.2.1]) dX8_span_111 rfl (Nat.le_of_ble_eq_true rfl) rfl ?_
      refine pm_iload dX8_span_113 rfl ?_
      refine pm_aload_n dX8_span_115 rfl rfl ?_
      refine fg_8_9 (y := zX8_span) (Or.inl tw_448) dX8_span_116 (fun r14 => ?_)
      refine pm_rcv (fun hb9 hc9 => ?_)
      refine pm_kI (d := d + 4) rfl (pm_VN (y := zX8_span) (z := zX0_leftInAll) (As := []) zkX0_leftInAll pm_q0 (by decide) tw_1075 tw_613 tw_19 dX8_span_119 rfl rfl (Nat.le_of_ble_eq_true rfl) hb9 hc9) (kcX0_leftInAll (d := d + 3) hfl r14 m11) (fun x16 m15 => ?_)
      refine pm_max (y := zX8_span) tw_1344 tw_593 tw_171 tw_594 dX8_span_122 (Nat.le_of_ble_eq_true rfl) ?_
      refine pm_bIn (fun x17 => ?_)
      refine pm_istore (ls2 := [.ref l0, .int l1, .int l2, .int l3, .int l4, .int l5, .int l6, .int x13, .int x17, .int s68.2.2.1, .int s68.2.2.2.1]) dX8_span_125 rfl (Nat.le_of_ble_eq_true rfl) rfl ?_
      refine pm_iload dX8_span_127 rfl ?_
      refine pm_aload_n dX8_span_129 rfl rfl ?_
      refine fg_8_9 (y := zX8_span) (Or.inl tw_448) dX8_span_130 (fun r18 => ?_)
      refine pm_iload dX8_span_133 rfl ?_
      refine pm_rcv (fun hb9 hc9 => ?_)
      refine pm_kI (d := d + 4) rfl (pm_VN (y := zX8_span) (z := zX0_leftIn) (As := [.int l6]) zkX0_leftIn pm_q0 (by decide) tw_1084 tw_1086 tw_80 dX8_span_135 rfl rfl (Nat.le_of_ble_eq_true rfl) hb9 hc9) (kcX0_leftIn (d := d + 3) hfl r18 l6 m15) (fun x20 m19 => ?_)
      refine pm_if_ne (tgt := 145) dX8_span_138 rfl ?_ ?_
      · refine pm_iconst (v := 0) dX8_span_145 ki_0 ?_
        refine pm_drop (ls2 := [.ref l0, .int l1, .int l2, .int l3, .int l4, .int l5, .int l6, .int x13, .int x17, pmU, .int s68.2.2.2.1]) (Nat.le_refl _) (pm_le_spec (pm_le_v (pm_le_v (pm_le_v (pm_le_v (pm_le_v (pm_le_v (pm_le_v (pm_le_v (pm_le_v (pm_le_u (pm_le_v (pm_le_n))))))))))))) ?_
        exact gX8_span_j146 hfl again68 l0 l1 l2 l3 l4 l5 l6 x13 x17 s68.2.2.2.1 0 s68.2.2.1 m19 hag68
      · refine pm_iconst (v := 1) dX8_span_141 ki_1 ?_
        refine pm_goto (tgt := 146) dX8_span_142 rfl ?_
        refine pm_drop (ls2 := [.ref l0, .int l1, .int l2, .int l3, .int l4, .int l5, .int l6, .int x13, .int x17, pmU, .int s68.2.2.2.1]) (Nat.le_refl _) (pm_le_spec (pm_le_v (pm_le_v (pm_le_v (pm_le_v (pm_le_v (pm_le_v (pm_le_v (pm_le_v (pm_le_v (pm_le_u (pm_le_v (pm_le_n))))))))))))) ?_
        exact gX8_span_j146 hfl again68 l0 l1 l2 l3 l4 l5 l6 x13 x17 s68.2.2.2.1 1 s68.2.2.1 m19 hag68)
set_option maxRecDepth 100000 in
set_option maxHeartbeats 4000000 in
theorem gX8_span_j47 (hfl : l.flags = flags0) (l0 : Nat) (l1 : Int32) (l2 : Int32) (l3 : Int32) (l4 : Int32) (l5 : Int32) (l6 : Int32) (t0 : Int32) (t1 : Nat) (m : pmM) : pm_G l Γ zX8_span (d + 5) 47 [.ref l0, .int l1, .int l2, .int l3, .int l4, .int l5, .int l6, pmU, pmU, pmU, pmU] [.int t0, .ref t1] m (X8_span_j47 l0 l1 l2 l3 l4 l5 l6 t0 t1 m) := by
  unfold X8_span_j47
  refine pm_rcv (fun hb9 hc9 => ?_)
  refine pm_kV (d := d + 4) rfl (pm_V (y := zX8_span) (z := zX8_must) (As := [.int t0]) zkX8_must pm_q8 (by decide) tw_684 tw_686 tw_30 dX8_span_47 rfl rfl (Nat.le_of_ble_eq_true rfl) hb9 hc9) (kcX8_must (d := d + 4) hfl t1 t0 m) (fun m2 => ?_)
  refine pm_aload_n dX8_span_50 rfl rfl ?_
  refine fg_8_1 (y := zX8_span) (Or.inl tw_440) dX8_span_51 (fun r3 => ?_)
  refine fg_2_4 (y := zX8_span) (Or.inr tw_248) dX8_span_54 (fun x4 => ?_)
  refine pm_istore (ls2 := [.ref l0, .int l1, .int l2, .int l3, .int l4, .int l5, .int l6, .int x4, pmU, pmU, pmU]) dX8_span_57 rfl (Nat.le_of_ble_eq_true rfl) rfl ?_
  refine pm_iconst (v := 0) dX8_span_59 ki_0 ?_
  refine pm_istore (ls2 := [.ref l0, .int l1, .int l2, .int l3, .int l4, .int l5, .int l6, .int x4, .int 0, pmU, pmU]) dX8_span_60 rfl (Nat.le_of_ble_eq_true rfl) rfl ?_
  refine pm_iconst (v := 0) dX8_span_62 ki_0 ?_
  refine pm_istore (ls2 := [.ref l0, .int l1, .int l2, .int l3, .int l4, .int l5, .int l6, .int x4, .int 0, .int 0, pmU]) dX8_span_63 rfl (Nat.le_of_ble_eq_true rfl) rfl ?_
  refine pm_iconst (v := 0) dX8_span_65 ki_0 ?_
  refine pm_istore (ls2 := [.ref l0, .int l1, .int l2, .int l3, .int l4, .int l5, .int l6, .int x4, .int 0, .int 0, .int 0]) dX8_span_66 rfl (Nat.le_of_ble_eq_true rfl) rfl ?_
  exact gX8_span_L68 hfl l0 l1 l2 l3 l4 l5 l6 pm_N (x4, 0, 0, 0, m2)
set_option maxRecDepth 100000 in
set_option maxHeartbeats 4000000 in
theorem gX8_span_j46 (hfl : l.flags = flags0) (l0 : Nat) (l1 : Int32) (l2 : Int32) (l3 : Int32) (l4 : Int32) (l5 : Int32) (l6 : Int32) (t0 : Nat) (m : pmM) : pm_G l Γ zX8_span (d + 5) 46 [.ref l0, .int l1, .int l2, .int l3, .int l4, .int l5, .int l6, pmU, pmU, pmU, pmU] [.ref t0] m (X8_span_j46 l0 l1 l2 l3 l4 l5 l6 t0 m) := by
  unfold X8_span_j46
  refine pm_iconst (v := 0) dX8_span_46 ki_0 ?_
  exact gX8_span_j47 hfl l0 l1 l2 l3 l4 l5 l6 0 t0 m
set_option maxRecDepth 100000 in
set_option maxHeartbeats 4000000 in
theorem kcX8_span (hfl : l.flags = flags0) (a0 : Nat) (a1 : Int32) (a2 : Int32) (a3 : Int32) (a4 : Int32) (a5 : Int32) (a6 : Int32) (m : pmM) : pm_C l Γ zX8_span (d + 5) [.ref a0, .int a1, .int a2, .int a3, .int a4, .int a5, .int a6] m (X8_span a0 a1 a2 a3 a4 a5 a6 m) := by
  refine pm_enter (ls := [.ref a0, .int a1, .int a2, .int a3, .int a4, .int a5, .int a6, pmU, pmU, pmU, pmU]) hfl (by decide +kernel) rfl (Nat.le_of_ble_eq_true rfl) rfl (Nat.le_of_ble_eq_true rfl) ?_
  unfold X8_span
  refine pm_aload_n dX8_span_0 rfl rfl ?_
  refine pm_iload_n dX8_span_1 rfl rfl ?_
  refine pm_iload dX8_span_2 rfl ?_
  refine pm_rcv (fun hb9 hc9 => ?_)
  refine pm_kV (d := d + 4) rfl (pm_V (y := zX8_span) (z := zX8_mustBeHand) (As := [.int a3, .int a4]) zkX8_mustBeHand pm_q8 (by decide) tw_1321 tw_1323 tw_94 dX8_span_4 rfl rfl (Nat.le_of_ble_eq_true rfl) hb9 hc9) (kcX8_mustBeHand (d := d + 3) hfl a0 a3 a4 m) (fun m1 => ?_)
  refine pm_aload_n dX8_span_7 rfl rfl ?_
  refine pm_iload_n dX8_span_8 rfl rfl ?_
  refine pm_iconst (v := 1) dX8_span_9 ki_1 ?_
  refine pm_icmp_lt (tgt := 46) dX8_span_10 rfl ?_ ?_
  · exact gX8_span_j46 hfl a0 a1 a2 a3 a4 a5 a6 a0 m1
  · refine pm_iload_n dX8_span_13 rfl rfl ?_
    refine pm_bipush (v := 20) dX8_span_14 kb_20 ?_
    refine pm_icmp_gt (tgt := 46) dX8_span_16 rfl ?_ ?_
    · exact gX8_span_j46 hfl a0 a1 a2 a3 a4 a5 a6 a0 m1
    · refine pm_iload dX8_span_19 rfl ?_
      refine pm_if_lt (tgt := 46) dX8_span_21 rfl ?_ ?_
      · exact gX8_span_j46 hfl a0 a1 a2 a3 a4 a5 a6 a0 m1
      · refine pm_iload dX8_span_24 rfl ?_
        refine pm_iconst (v := 2) dX8_span_26 ki_2 ?_
        refine pm_icmp_gt (tgt := 46) dX8_span_27 rfl ?_ ?_
        · exact gX8_span_j46 hfl a0 a1 a2 a3 a4 a5 a6 a0 m1
        · refine pm_aload_n dX8_span_30 rfl rfl ?_
          refine fg_8_1 (y := zX8_span) (Or.inl tw_440) dX8_span_31 (fun r23 => ?_)
          refine pm_iload dX8_span_34 rfl ?_
          refine pm_rcv (fun hb9 hc9 => ?_)
          refine pm_kI (d := d + 4) rfl (pm_VN (y := zX8_span) (z := zX2_hasLine) (As := [.int a6]) zkX2_hasLine pm_q2 (by decide) tw_1100 tw_570 tw_11 dX8_span_36 rfl rfl (Nat.le_of_ble_eq_true rfl) hb9 hc9) (kcX2_hasLine (d := d + 4) hfl r23 a6 m1) (fun x25 m24 => ?_)
          refine pm_if_eq (tgt := 46) dX8_span_39 rfl ?_ ?_
          · exact gX8_span_j46 hfl a0 a1 a2 a3 a4 a5 a6 a0 m24
          · refine pm_iconst (v := 1) dX8_span_42 ki_1 ?_
            refine pm_goto (tgt := 47) dX8_span_43 rfl ?_
            exact gX8_span_j47 hfl a0 a1 a2 a3 a4 a5 a6 1 a0 m24
-- StruckPage.status(I)I
def X8_status_j24 (t0 : Int32) (m : pmM) : pmR := pm_oI t0 m
def X8_status (a0 : Nat) (a1 : Int32) (m : pmM) : pmR := if a1 = 0 then (pm_gI 8 a0 13 m fun x2 => X8_status_j24 x2 m) else (if a1 = 1 then (pm_gI 8 a0 14 m fun x1 => X8_status_j24 x1 m) else (X8_status_j24 (-1) m))
set_option maxRecDepth 100000 in
set_option maxHeartbeats 4000000 in
theorem gX8_status_j24 (hfl : l.flags = flags0) (t0 : Int32) (m : pmM) : pm_G l Γ zX8_status (d + 0) 24 [pmU, pmU] [.int t0] m (X8_status_j24 t0 m) := by
  unfold X8_status_j24
  exact pm_iret rfl dX8_status_24
set_option maxRecDepth 100000 in
set_option maxHeartbeats 4000000 in
theorem kcX8_status (hfl : l.flags = flags0) (a0 : Nat) (a1 : Int32) (m : pmM) : pm_C l Γ zX8_status (d + 0) [.ref a0, .int a1] m (X8_status a0 a1 m) := by
  refine pm_enter (ls := [.ref a0, .int a1]) hfl (by decide +kernel) rfl (Nat.le_of_ble_eq_true rfl) rfl (Nat.le_of_ble_eq_true rfl) ?_
  unfold X8_status
  refine pm_iload_n dX8_status_0 rfl rfl ?_
  refine pm_if_ne (tgt := 11) dX8_status_1 rfl ?_ ?_
  · refine pm_iload_n dX8_status_11 rfl rfl ?_
    refine pm_iconst (v := 1) dX8_status_12 ki_1 ?_
    refine pm_icmp_ne (tgt := 23) dX8_status_13 rfl ?_ ?_
    · refine pm_iconst (v := (-1)) dX8_status_23 ki_n1 ?_
      refine pm_drop (ls2 := [pmU, pmU]) (Nat.le_refl _) (pm_le_spec (pm_le_u (pm_le_u (pm_le_n)))) ?_
      exact gX8_status_j24 hfl (-1) m
    · refine pm_aload_n dX8_status_16 rfl rfl ?_
      refine fg_8_14 (y := zX8_status) (Or.inl tw_453) dX8_status_17 (fun x1 => ?_)
      refine pm_goto (tgt := 24) dX8_status_20 rfl ?_
      refine pm_drop (ls2 := [pmU, pmU]) (Nat.le_refl _) (pm_le_spec (pm_le_u (pm_le_u (pm_le_n)))) ?_
      exact gX8_status_j24 hfl x1 m
  · refine pm_aload_n dX8_status_4 rfl rfl ?_
    refine fg_8_13 (y := zX8_status) (Or.inl tw_452) dX8_status_5 (fun x2 => ?_)
    refine pm_goto (tgt := 24) dX8_status_8 rfl ?_
    refine pm_drop (ls2 := [pmU, pmU]) (Nat.le_refl _) (pm_le_spec (pm_le_u (pm_le_u (pm_le_n)))) ?_
    exact gX8_status_j24 hfl x2 m
-- StruckPage.count(I)I
def X8_count (a0 : Nat) (a1 : Int32) (m : pmM) : pmR := if a1 = (0 : Int32) then (pm_gR 8 a0 10 m fun r1 => pm_gI 5 r1 3 m fun x2 => pm_oI x2 m) else if a1 = (1 : Int32) then (pm_gR 8 a0 0 m fun r3 => pm_gI 7 r3 1 m fun x4 => pm_oI x4 m) else if a1 = (2 : Int32) then (pm_gR 8 a0 10 m fun r5 => pm_gI 5 r5 2 m fun x6 => pm_oI x6 m) else (pm_oI (-1) m)
set_option maxRecDepth 100000 in
set_option maxHeartbeats 4000000 in
theorem kcX8_count (hfl : l.flags = flags0) (a0 : Nat) (a1 : Int32) (m : pmM) : pm_C l Γ zX8_count (d + 0) [.ref a0, .int a1] m (X8_count a0 a1 m) := by
  refine pm_enter (ls := [.ref a0, .int a1]) hfl (by decide +kernel) rfl (Nat.le_of_ble_eq_true rfl) rfl (Nat.le_of_ble_eq_true rfl) ?_
  unfold X8_count
  refine pm_iload_n dX8_count_0 rfl rfl ?_
  refine pm_case (c := (0 : Int32)) (fun h9 => ?_) (fun h9_0 => ?_)
  · refine pm_swIn (off := (27)) (tgt := 28) dX8_count_1 (by rw [h9]; decide) (by rw [h9]; decide) (by rw [h9]; decide) (by decide) ?_
    refine pm_aload_n dX8_count_28 rfl rfl ?_
    refine fg_8_10 (y := zX8_count) (Or.inl tw_449) dX8_count_29 (fun r1 => ?_)
    refine fg_5_3 (y := zX8_count) (Or.inr tw_403) dX8_count_32 (fun x2 => ?_)
    exact pm_iret rfl dX8_count_35
  refine pm_case (c := (1 : Int32)) (fun h9 => ?_) (fun h9_1 => ?_)
  · refine pm_swIn (off := (35)) (tgt := 36) dX8_count_1 (by rw [h9]; decide) (by rw [h9]; decide) (by rw [h9]; decide) (by decide) ?_
    refine pm_aload_n dX8_count_36 rfl rfl ?_
    refine fg_8_0 (y := zX8_count) (Or.inl tw_439) dX8_count_37 (fun r3 => ?_)
    refine fg_7_1 (y := zX8_count) (Or.inr tw_193) dX8_count_40 (fun x4 => ?_)
    exact pm_iret rfl dX8_count_43
  refine pm_case (c := (2 : Int32)) (fun h9 => ?_) (fun h9_2 => ?_)
  · refine pm_swIn (off := (43)) (tgt := 44) dX8_count_1 (by rw [h9]; decide) (by rw [h9]; decide) (by rw [h9]; decide) (by decide) ?_
    refine pm_aload_n dX8_count_44 rfl rfl ?_
    refine fg_8_10 (y := zX8_count) (Or.inl tw_449) dX8_count_45 (fun r5 => ?_)
    refine fg_5_2 (y := zX8_count) (Or.inr tw_401) dX8_count_48 (fun x6 => ?_)
    exact pm_iret rfl dX8_count_51
  refine pm_swOut (tgt := 52) dX8_count_1 (pm_swx a1 (0) 3 (lt_s (lt_s (lt_s (lt_0) (pm_ne h9_0 (by decide))) (pm_ne h9_1 (by decide))) (pm_ne h9_2 (by decide)))) (by decide) ?_
  refine pm_iconst (v := (-1)) dX8_count_52 ki_n1 ?_
  exact pm_iret rfl dX8_count_53
-- StruckPageModel.tellsNothing()V
def X9_tellsNothing_L13 (l0 : Nat) (again13 : (Int32 × pmM) → pmR) (s13 : Int32 × pmM) : pmR := if (4 : Int32) ≤ s13.1 then (pm_oV s13.2) else (pm_gR 9 l0 14 s13.2 fun r3 => pm_st 100 r3 s13.1 0 s13.2 fun m4 => pm_bI (s13.1 + 1) fun x5 => again13 (x5, m4))
def X9_tellsNothing (a0 : Nat) (m : pmM) : pmR := pm_pI 9 a0 11 0 m fun m1 => pm_pI 9 a0 12 60 m1 fun m2 => pm_lp pm_N (X9_tellsNothing_L13 a0) (0, m2)
set_option maxRecDepth 100000 in
set_option maxHeartbeats 4000000 in
theorem gX9_tellsNothing_L13 (hfl : l.flags = flags0) (l0 : Nat) : ∀ (n : Nat) (s : Int32 × pmM), pm_G l Γ zX9_tellsNothing (d + 0) 13 [.ref l0, .int s.1] [] s.2 (pm_lp n (X9_tellsNothing_L13 l0) s) :=
  pm_loop (lsf := fun s : Int32 × pmM => [.ref l0, .int s.1]) (mf := fun s : Int32 × pmM => s.2) (fun again13 hag13 s13 => by
    unfold X9_tellsNothing_L13
    refine pm_iload_n dX9_tellsNothing_13 rfl rfl ?_
    refine pm_iconst (v := 4) dX9_tellsNothing_14 ki_4 ?_
    refine pm_icmp_ge (tgt := 31) dX9_tellsNothing_15 rfl ?_ ?_
    · exact pm_vret rfl dX9_tellsNothing_31
    · refine pm_aload_n dX9_tellsNothing_18 rfl rfl ?_
      refine fg_9_14 (y := zX9_tellsNothing) (Or.inl tw_1380) dX9_tellsNothing_19 (fun r3 => ?_)
      refine pm_iload_n dX9_tellsNothing_22 rfl rfl ?_
      refine pm_iconst (v := 0) dX9_tellsNothing_23 ki_0 ?_
      refine pm_iast (y := zX9_tellsNothing) dX9_tellsNothing_24 (fun m4 => ?_)
      refine pm_iincn (y := zX9_tellsNothing) dX9_tellsNothing_25 rfl ki_1 rfl (Nat.le_of_ble_eq_true rfl) (fun x5 => ?_)
      refine pm_eqls (ls2 := [.ref l0, .int x5]) rfl ?_
      refine pm_goto (tgt := 13) dX9_tellsNothing_28 rfl ?_
      exact hag13 (x5, m4))
set_option maxRecDepth 100000 in
set_option maxHeartbeats 4000000 in
theorem kcX9_tellsNothing (hfl : l.flags = flags0) (a0 : Nat) (m : pmM) : pm_C l Γ zX9_tellsNothing (d + 0) [.ref a0] m (X9_tellsNothing a0 m) := by
  refine pm_enter (ls := [.ref a0, pmU]) hfl (by decide +kernel) rfl (Nat.le_of_ble_eq_true rfl) rfl (Nat.le_of_ble_eq_true rfl) ?_
  unfold X9_tellsNothing
  refine pm_aload_n dX9_tellsNothing_0 rfl rfl ?_
  refine pm_iconst (v := 0) dX9_tellsNothing_1 ki_0 ?_
  refine fp_9_11 (y := zX9_tellsNothing) (Or.inl tw_1377) dX9_tellsNothing_2 (fun m1 => ?_)
  refine pm_aload_n dX9_tellsNothing_5 rfl rfl ?_
  refine pm_bipush (v := 60) dX9_tellsNothing_6 kb_60 ?_
  refine fp_9_12 (y := zX9_tellsNothing) (Or.inl tw_1378) dX9_tellsNothing_8 (fun m2 => ?_)
  refine pm_iconst (v := 0) dX9_tellsNothing_11 ki_0 ?_
  refine pm_istore_n (ls2 := [.ref a0, .int 0]) dX9_tellsNothing_12 rfl rfl (Nat.le_of_ble_eq_true rfl) rfl ?_
  exact gX9_tellsNothing_L13 hfl a0 pm_N (0, m2)
-- StruckPageModel.lays([[I[[II)V
def X9_lays_L10 (again2 : (Int32 × pmM) → pmR) (l0 : Nat) (l1 : Nat) (l2 : Int32) (l3 : Int32) (again10 : (Int32 × pmM) → pmR) (s10 : Int32 × pmM) : pmR := pm_ldR 103 l1 l3 s10.2 fun r1 => pm_len 100 r1 s10.2 fun x2 => if x2 ≤ s10.1 then (pm_bI (l3 + 1) fun x3 => again2 (x3, s10.2)) else (pm_ldR 103 l1 l3 s10.2 fun r4 => pm_ldR 103 l0 l3 s10.2 fun r5 => pm_ld 100 r5 s10.1 s10.2 fun x6 => pm_st 100 r4 s10.1 x6 s10.2 fun m7 => pm_bI (s10.1 + 1) fun x8 => again10 (x8, m7))
def X9_lays_L2 (l0 : Nat) (l1 : Nat) (l2 : Int32) (again2 : (Int32 × pmM) → pmR) (s2 : Int32 × pmM) : pmR := if l2 ≤ s2.1 then (pm_oV s2.2) else (pm_lp pm_N (X9_lays_L10 again2 l0 l1 l2 s2.1) (0, s2.2))
def X9_lays (a0 : Nat) (a1 : Nat) (a2 : Int32) (m : pmM) : pmR := pm_lp pm_N (X9_lays_L2 a0 a1 a2) (0, m)
set_option maxRecDepth 100000 in
set_option maxHeartbeats 4000000 in
theorem gX9_lays_L10 (hfl : l.flags = flags0) (again2 : (Int32 × pmM) → pmR) (l0 : Nat) (l1 : Nat) (l2 : Int32) (l3 : Int32) (hag2 : ∀ s : Int32 × pmM, pm_G l Γ zX9_lays (d + 0) 2 [.ref l0, .ref l1, .int l2, .int s.1, pmU] [] s.2 (again2 s)) : ∀ (n : Nat) (s : Int32 × pmM), pm_G l Γ zX9_lays (d + 0) 10 [.ref l0, .ref l1, .int l2, .int l3, .int s.1] [] s.2 (pm_lp n (X9_lays_L10 again2 l0 l1 l2 l3) s) :=
  pm_loop (lsf := fun s : Int32 × pmM => [.ref l0, .ref l1, .int l2, .int l3, .int s.1]) (mf := fun s : Int32 × pmM => s.2) (fun again10 hag10 s10 => by
    unfold X9_lays_L10
    refine pm_iload dX9_lays_10 rfl ?_
    refine pm_aload_n dX9_lays_12 rfl rfl ?_
    refine pm_iload_n dX9_lays_13 rfl rfl ?_
    refine pm_aaldI (y := zX9_lays) dX9_lays_14 (fun r1 => ?_)
    refine pm_alen (y := zX9_lays) (kd := 100) (by decide) (by decide) dX9_lays_15 (fun x2 => ?_)
    refine pm_icmp_ge (tgt := 37) dX9_lays_16 rfl ?_ ?_
    · refine pm_iincn (y := zX9_lays) dX9_lays_37 rfl ki_1 rfl (Nat.le_of_ble_eq_true rfl) (fun x3 => ?_)
      refine pm_eqls (ls2 := [.ref l0, .ref l1, .int l2, .int x3, .int s10.1]) rfl ?_
      refine pm_goto (tgt := 2) dX9_lays_40 rfl ?_
      refine pm_drop (ls2 := [.ref l0, .ref l1, .int l2, .int x3, pmU]) (Nat.le_refl _) (pm_le_spec (pm_le_v (pm_le_v (pm_le_v (pm_le_v (pm_le_u (pm_le_n))))))) ?_
      exact hag2 (x3, s10.2)
    · refine pm_aload_n dX9_lays_19 rfl rfl ?_
      refine pm_iload_n dX9_lays_20 rfl rfl ?_
      refine pm_aaldI (y := zX9_lays) dX9_lays_21 (fun r4 => ?_)
      refine pm_iload dX9_lays_22 rfl ?_
      refine pm_aload_n dX9_lays_24 rfl rfl ?_
      refine pm_iload_n dX9_lays_25 rfl rfl ?_
      refine pm_aaldI (y := zX9_lays) dX9_lays_26 (fun r5 => ?_)
      refine pm_iload dX9_lays_27 rfl ?_
      refine pm_iald (y := zX9_lays) dX9_lays_29 (fun x6 => ?_)
      refine pm_iast (y := zX9_lays) dX9_lays_30 (fun m7 => ?_)
      refine pm_iincn (y := zX9_lays) dX9_lays_31 rfl ki_1 rfl (Nat.le_of_ble_eq_true rfl) (fun x8 => ?_)
      refine pm_eqls (ls2 := [.ref l0, .ref l1, .int l2, .int l3, .int x8]) rfl ?_
      refine pm_goto (tgt := 10) dX9_lays_34 rfl ?_
      exact hag10 (x8, m7))
set_option maxRecDepth 100000 in
set_option maxHeartbeats 4000000 in
theorem gX9_lays_L2 (hfl : l.flags = flags0) (l0 : Nat) (l1 : Nat) (l2 : Int32) : ∀ (n : Nat) (s : Int32 × pmM), pm_G l Γ zX9_lays (d + 0) 2 [.ref l0, .ref l1, .int l2, .int s.1, pmU] [] s.2 (pm_lp n (X9_lays_L2 l0 l1 l2) s) :=
  pm_loop (lsf := fun s : Int32 × pmM => [.ref l0, .ref l1, .int l2, .int s.1, pmU]) (mf := fun s : Int32 × pmM => s.2) (fun again2 hag2 s2 => by
    unfold X9_lays_L2
    refine pm_iload_n dX9_lays_2 rfl rfl ?_
    refine pm_iload_n dX9_lays_3 rfl rfl ?_
    refine pm_icmp_ge (tgt := 43) dX9_lays_4 rfl ?_ ?_
    · exact pm_vret rfl dX9_lays_43
    · refine pm_iconst (v := 0) dX9_lays_7 ki_0 ?_
      refine pm_istore (ls2 := [.ref l0, .ref l1, .int l2, .int s2.1, .int 0]) dX9_lays_8 rfl (Nat.le_of_ble_eq_true rfl) rfl ?_
      exact gX9_lays_L10 hfl again2 l0 l1 l2 s2.1 hag2 pm_N (0, s2.2))
set_option maxRecDepth 100000 in
set_option maxHeartbeats 4000000 in
theorem kcX9_lays (hfl : l.flags = flags0) (a0 : Nat) (a1 : Nat) (a2 : Int32) (m : pmM) : pm_C l Γ zX9_lays (d + 0) [.ref a0, .ref a1, .int a2] m (X9_lays a0 a1 a2 m) := by
  refine pm_enter (ls := [.ref a0, .ref a1, .int a2, pmU, pmU]) hfl (by decide +kernel) rfl (Nat.le_of_ble_eq_true rfl) rfl (Nat.le_of_ble_eq_true rfl) ?_
  unfold X9_lays
  refine pm_iconst (v := 0) dX9_lays_0 ki_0 ?_
  refine pm_istore_n (ls2 := [.ref a0, .ref a1, .int a2, .int 0, pmU]) dX9_lays_1 rfl rfl (Nat.le_of_ble_eq_true rfl) rfl ?_
  exact gX9_lays_L2 hfl a0 a1 a2 pm_N (0, m)
-- StruckPageModel.beginsAnew()V
def X9_beginsAnew_L84 (l0 : Nat) (again84 : (Int32 × pmM) → pmR) (s84 : Int32 × pmM) : pmR := if (4 : Int32) ≤ s84.1 then (pm_gR 9 l0 29 s84.2 fun r7 => pm_gI 9 l0 12 s84.2 fun x8 => pm_st 100 r7 10 x8 s84.2 fun m9 => pm_pI 9 l0 19 0 m9 fun m10 => pm_pI 9 l0 33 0 m10 fun m11 => pm_pI 9 l0 34 0 m11 fun m12 => pm_pI 9 l0 35 0 m12 fun m13 => pm_pI 9 l0 36 0 m13 fun m14 => pm_oV m14) else (pm_gR 9 l0 29 s84.2 fun r15 => pm_gR 9 l0 14 s84.2 fun r16 => pm_ld 100 r16 s84.1 s84.2 fun x17 => pm_st 100 r15 ((6 : Int32) + s84.1) x17 s84.2 fun m18 => pm_bI (s84.1 + 1) fun x19 => again84 (x19, m18))
def X9_beginsAnew_L63 (l0 : Nat) (again63 : (Int32 × pmM) → pmR) (s63 : Int32 × pmM) : pmR := if (14 : Int32) ≤ s63.1 then (pm_lp pm_N (X9_beginsAnew_L84 l0) (0, s63.2)) else (pm_gR 9 l0 29 s63.2 fun r20 => pm_st 100 r20 s63.1 0 s63.2 fun m21 => pm_bI (s63.1 + 1) fun x22 => again63 (x22, m21))
def X9_beginsAnew_j39 (again10 : (Int32 × pmM) → pmR) (l0 : Nat) (l1 : Int32) (t0 : Int32) (t1 : Int32) (t2 : Nat) (m : pmM) : pmR := pm_st 100 t2 t1 t0 m fun m25 => pm_bI (l1 + 1) fun x26 => again10 (x26, m25)
def X9_beginsAnew_L10 (l0 : Nat) (again10 : (Int32 × pmM) → pmR) (s10 : Int32 × pmM) : pmR := if (6 : Int32) ≤ s10.1 then (pm_gR 9 l0 17 s10.2 fun r3 => pm_gR 9 l0 18 s10.2 fun r4 => pm_gI 9 l0 13 s10.2 fun x5 => pm_cV (X9_lays r3 r4 x5 s10.2) fun m6 => pm_lp pm_N (X9_beginsAnew_L63 l0) (0, m6)) else (pm_gR 9 l0 16 s10.2 fun r23 => pm_gI 9 l0 13 s10.2 fun x24 => if x24 ≤ s10.1 then (X9_beginsAnew_j39 again10 l0 s10.1 0 s10.1 r23 s10.2) else (pm_gR 9 l0 15 s10.2 fun r27 => pm_ld 100 r27 s10.1 s10.2 fun x28 => X9_beginsAnew_j39 again10 l0 s10.1 x28 s10.1 r23 s10.2))
def X9_beginsAnew (a0 : Nat) (m : pmM) : pmR := pm_gI 9 a0 11 m fun x1 => pm_pI 9 a0 13 x1 m fun m2 => pm_lp pm_N (X9_beginsAnew_L10 a0) (0, m2)
set_option maxRecDepth 100000 in
set_option maxHeartbeats 4000000 in
theorem gX9_beginsAnew_L84 (hfl : l.flags = flags0) (l0 : Nat) : ∀ (n : Nat) (s : Int32 × pmM), pm_G l Γ zX9_beginsAnew (d + 1) 84 [.ref l0, .int s.1] [] s.2 (pm_lp n (X9_beginsAnew_L84 l0) s) :=
  pm_loop (lsf := fun s : Int32 × pmM => [.ref l0, .int s.1]) (mf := fun s : Int32 × pmM => s.2) (fun again84 hag84 s84 => by
    unfold X9_beginsAnew_L84
    refine pm_iload_n dX9_beginsAnew_84 rfl rfl ?_
    refine pm_iconst (v := 4) dX9_beginsAnew_85 ki_4 ?_
    refine pm_icmp_ge (tgt := 110) dX9_beginsAnew_86 rfl ?_ ?_
    · refine pm_aload_n dX9_beginsAnew_110 rfl rfl ?_
      refine fg_9_29 (y := zX9_beginsAnew) (Or.inl tw_1395) dX9_beginsAnew_111 (fun r7 => ?_)
      refine pm_bipush (v := 10) dX9_beginsAnew_114 kb_10 ?_
      refine pm_aload_n dX9_beginsAnew_116 rfl rfl ?_
      refine fg_9_12 (y := zX9_beginsAnew) (Or.inl tw_1378) dX9_beginsAnew_117 (fun x8 => ?_)
      refine pm_iast (y := zX9_beginsAnew) dX9_beginsAnew_120 (fun m9 => ?_)
      refine pm_aload_n dX9_beginsAnew_121 rfl rfl ?_
      refine pm_iconst (v := 0) dX9_beginsAnew_122 ki_0 ?_
      refine fp_9_19 (y := zX9_beginsAnew) (Or.inl tw_1385) dX9_beginsAnew_123 (fun m10 => ?_)
      refine pm_aload_n dX9_beginsAnew_126 rfl rfl ?_
      refine pm_iconst (v := 0) dX9_beginsAnew_127 ki_0 ?_
      refine fp_9_33 (y := zX9_beginsAnew) (Or.inl tw_1399) dX9_beginsAnew_128 (fun m11 => ?_)
      refine pm_aload_n dX9_beginsAnew_131 rfl rfl ?_
      refine pm_iconst (v := 0) dX9_beginsAnew_132 ki_0 ?_
      refine fp_9_34 (y := zX9_beginsAnew) (Or.inl tw_1400) dX9_beginsAnew_133 (fun m12 => ?_)
      refine pm_aload_n dX9_beginsAnew_136 rfl rfl ?_
      refine pm_iconst (v := 0) dX9_beginsAnew_137 ki_0 ?_
      refine fp_9_35 (y := zX9_beginsAnew) (Or.inl tw_1401) dX9_beginsAnew_138 (fun m13 => ?_)
      refine pm_aload_n dX9_beginsAnew_141 rfl rfl ?_
      refine pm_iconst (v := 0) dX9_beginsAnew_142 ki_0 ?_
      refine fp_9_36 (y := zX9_beginsAnew) (Or.inl tw_1402) dX9_beginsAnew_143 (fun m14 => ?_)
      exact pm_vret rfl dX9_beginsAnew_146
    · refine pm_aload_n dX9_beginsAnew_89 rfl rfl ?_
      refine fg_9_29 (y := zX9_beginsAnew) (Or.inl tw_1395) dX9_beginsAnew_90 (fun r15 => ?_)
      refine pm_bipush (v := 6) dX9_beginsAnew_93 kb_6 ?_
      refine pm_iload_n dX9_beginsAnew_95 rfl rfl ?_
      refine pm_iadd dX9_beginsAnew_96 ?_
      refine pm_aload_n dX9_beginsAnew_97 rfl rfl ?_
      refine fg_9_14 (y := zX9_beginsAnew) (Or.inl tw_1380) dX9_beginsAnew_98 (fun r16 => ?_)
      refine pm_iload_n dX9_beginsAnew_101 rfl rfl ?_
      refine pm_iald (y := zX9_beginsAnew) dX9_beginsAnew_102 (fun x17 => ?_)
      refine pm_iast (y := zX9_beginsAnew) dX9_beginsAnew_103 (fun m18 => ?_)
      refine pm_iincn (y := zX9_beginsAnew) dX9_beginsAnew_104 rfl ki_1 rfl (Nat.le_of_ble_eq_true rfl) (fun x19 => ?_)
      refine pm_eqls (ls2 := [.ref l0, .int x19]) rfl ?_
      refine pm_goto (tgt := 84) dX9_beginsAnew_107 rfl ?_
      exact hag84 (x19, m18))
set_option maxRecDepth 100000 in
set_option maxHeartbeats 4000000 in
theorem gX9_beginsAnew_L63 (hfl : l.flags = flags0) (l0 : Nat) : ∀ (n : Nat) (s : Int32 × pmM), pm_G l Γ zX9_beginsAnew (d + 1) 63 [.ref l0, .int s.1] [] s.2 (pm_lp n (X9_beginsAnew_L63 l0) s) :=
  pm_loop (lsf := fun s : Int32 × pmM => [.ref l0, .int s.1]) (mf := fun s : Int32 × pmM => s.2) (fun again63 hag63 s63 => by
    unfold X9_beginsAnew_L63
    refine pm_iload_n dX9_beginsAnew_63 rfl rfl ?_
    refine pm_bipush (v := 14) dX9_beginsAnew_64 kb_14 ?_
    refine pm_icmp_ge (tgt := 82) dX9_beginsAnew_66 rfl ?_ ?_
    · refine pm_iconst (v := 0) dX9_beginsAnew_82 ki_0 ?_
      refine pm_istore_n (ls2 := [.ref l0, .int 0]) dX9_beginsAnew_83 rfl rfl (Nat.le_of_ble_eq_true rfl) rfl ?_
      exact gX9_beginsAnew_L84 hfl l0 pm_N (0, s63.2)
    · refine pm_aload_n dX9_beginsAnew_69 rfl rfl ?_
      refine fg_9_29 (y := zX9_beginsAnew) (Or.inl tw_1395) dX9_beginsAnew_70 (fun r20 => ?_)
      refine pm_iload_n dX9_beginsAnew_73 rfl rfl ?_
      refine pm_iconst (v := 0) dX9_beginsAnew_74 ki_0 ?_
      refine pm_iast (y := zX9_beginsAnew) dX9_beginsAnew_75 (fun m21 => ?_)
      refine pm_iincn (y := zX9_beginsAnew) dX9_beginsAnew_76 rfl ki_1 rfl (Nat.le_of_ble_eq_true rfl) (fun x22 => ?_)
      refine pm_eqls (ls2 := [.ref l0, .int x22]) rfl ?_
      refine pm_goto (tgt := 63) dX9_beginsAnew_79 rfl ?_
      exact hag63 (x22, m21))
set_option maxRecDepth 100000 in
set_option maxHeartbeats 4000000 in
theorem gX9_beginsAnew_j39 (hfl : l.flags = flags0) (again10 : (Int32 × pmM) → pmR) (l0 : Nat) (l1 : Int32) (t0 : Int32) (t1 : Int32) (t2 : Nat) (m : pmM) (hag10 : ∀ s : Int32 × pmM, pm_G l Γ zX9_beginsAnew (d + 1) 10 [.ref l0, .int s.1] [] s.2 (again10 s)) : pm_G l Γ zX9_beginsAnew (d + 1) 39 [.ref l0, .int l1] [.int t0, .int t1, .ref t2] m (X9_beginsAnew_j39 again10 l0 l1 t0 t1 t2 m) := by
  unfold X9_beginsAnew_j39
  refine pm_iast (y := zX9_beginsAnew) dX9_beginsAnew_39 (fun m25 => ?_)
  refine pm_iincn (y := zX9_beginsAnew) dX9_beginsAnew_40 rfl ki_1 rfl (Nat.le_of_ble_eq_true rfl) (fun x26 => ?_)
  refine pm_eqls (ls2 := [.ref l0, .int x26]) rfl ?_
  refine pm_goto (tgt := 10) dX9_beginsAnew_43 rfl ?_
  exact hag10 (x26, m25)
set_option maxRecDepth 100000 in
set_option maxHeartbeats 4000000 in
theorem gX9_beginsAnew_L10 (hfl : l.flags = flags0) (l0 : Nat) : ∀ (n : Nat) (s : Int32 × pmM), pm_G l Γ zX9_beginsAnew (d + 1) 10 [.ref l0, .int s.1] [] s.2 (pm_lp n (X9_beginsAnew_L10 l0) s) :=
  pm_loop (lsf := fun s : Int32 × pmM => [.ref l0, .int s.1]) (mf := fun s : Int32 × pmM => s.2) (fun again10 hag10 s10 => by
    unfold X9_beginsAnew_L10
    refine pm_iload_n dX9_beginsAnew_10 rfl rfl ?_
    refine pm_bipush (v := 6) dX9_beginsAnew_11 kb_6 ?_
    refine pm_icmp_ge (tgt := 46) dX9_beginsAnew_13 rfl ?_ ?_
    · refine pm_aload_n dX9_beginsAnew_46 rfl rfl ?_
      refine fg_9_17 (y := zX9_beginsAnew) (Or.inl tw_1383) dX9_beginsAnew_47 (fun r3 => ?_)
      refine pm_aload_n dX9_beginsAnew_50 rfl rfl ?_
      refine fg_9_18 (y := zX9_beginsAnew) (Or.inl tw_1384) dX9_beginsAnew_51 (fun r4 => ?_)
      refine pm_aload_n dX9_beginsAnew_54 rfl rfl ?_
      refine fg_9_13 (y := zX9_beginsAnew) (Or.inl tw_1379) dX9_beginsAnew_55 (fun x5 => ?_)
      refine pm_kV (d := d + 0) rfl (pm_S (y := zX9_beginsAnew) (z := zX9_lays) (As := [.ref r3, .ref r4, .int x5]) zkX9_lays tw_1363 tw_1364 dX9_beginsAnew_58 rfl rfl (Nat.le_of_ble_eq_true rfl)) (kcX9_lays (d := d + 0) hfl r3 r4 x5 s10.2) (fun m6 => ?_)
      refine pm_iconst (v := 0) dX9_beginsAnew_61 ki_0 ?_
      refine pm_istore_n (ls2 := [.ref l0, .int 0]) dX9_beginsAnew_62 rfl rfl (Nat.le_of_ble_eq_true rfl) rfl ?_
      exact gX9_beginsAnew_L63 hfl l0 pm_N (0, m6)
    · refine pm_aload_n dX9_beginsAnew_16 rfl rfl ?_
      refine fg_9_16 (y := zX9_beginsAnew) (Or.inl tw_1382) dX9_beginsAnew_17 (fun r23 => ?_)
      refine pm_iload_n dX9_beginsAnew_20 rfl rfl ?_
      refine pm_iload_n dX9_beginsAnew_21 rfl rfl ?_
      refine pm_aload_n dX9_beginsAnew_22 rfl rfl ?_
      refine fg_9_13 (y := zX9_beginsAnew) (Or.inl tw_1379) dX9_beginsAnew_23 (fun x24 => ?_)
      refine pm_icmp_ge (tgt := 38) dX9_beginsAnew_26 rfl ?_ ?_
      · refine pm_iconst (v := 0) dX9_beginsAnew_38 ki_0 ?_
        exact gX9_beginsAnew_j39 hfl again10 l0 s10.1 0 s10.1 r23 s10.2 hag10
      · refine pm_aload_n dX9_beginsAnew_29 rfl rfl ?_
        refine fg_9_15 (y := zX9_beginsAnew) (Or.inl tw_1381) dX9_beginsAnew_30 (fun r27 => ?_)
        refine pm_iload_n dX9_beginsAnew_33 rfl rfl ?_
        refine pm_iald (y := zX9_beginsAnew) dX9_beginsAnew_34 (fun x28 => ?_)
        refine pm_goto (tgt := 39) dX9_beginsAnew_35 rfl ?_
        exact gX9_beginsAnew_j39 hfl again10 l0 s10.1 x28 s10.1 r23 s10.2 hag10)
set_option maxRecDepth 100000 in
set_option maxHeartbeats 4000000 in
theorem kcX9_beginsAnew (hfl : l.flags = flags0) (a0 : Nat) (m : pmM) : pm_C l Γ zX9_beginsAnew (d + 1) [.ref a0] m (X9_beginsAnew a0 m) := by
  refine pm_enter (ls := [.ref a0, pmU]) hfl (by decide +kernel) rfl (Nat.le_of_ble_eq_true rfl) rfl (Nat.le_of_ble_eq_true rfl) ?_
  unfold X9_beginsAnew
  refine pm_aload_n dX9_beginsAnew_0 rfl rfl ?_
  refine pm_aload_n dX9_beginsAnew_1 rfl rfl ?_
  refine fg_9_11 (y := zX9_beginsAnew) (Or.inl tw_1377) dX9_beginsAnew_2 (fun x1 => ?_)
  refine fp_9_13 (y := zX9_beginsAnew) (Or.inl tw_1379) dX9_beginsAnew_5 (fun m2 => ?_)
  refine pm_iconst (v := 0) dX9_beginsAnew_8 ki_0 ?_
  refine pm_istore_n (ls2 := [.ref a0, .int 0]) dX9_beginsAnew_9 rfl rfl (Nat.le_of_ble_eq_true rfl) rfl ?_
  exact gX9_beginsAnew_L10 hfl a0 pm_N (0, m2)
-- StruckPageModel.<init>()V
def X9_init (a0 : Nat) (m : pmM) : pmR := pm_pI 9 a0 3 (-1) m fun m1 => pm_na 100 600 m1 fun r2 m3 => pm_pR 9 a0 9 r2 m3 fun m4 => pm_na 100 2 m4 fun r5 m6 => pm_pR 9 a0 10 r5 m6 fun m7 => pm_na 100 4 m7 fun r8 m9 => pm_pR 9 a0 14 r8 m9 fun m10 => pm_na 100 6 m10 fun r11 m12 => pm_pR 9 a0 15 r11 m12 fun m13 => pm_na 100 6 m13 fun r14 m15 => pm_pR 9 a0 16 r14 m15 fun m16 => pm_nm 103 100 6 8 m16 fun r17 m18 => pm_pR 9 a0 17 r17 m18 fun m19 => pm_nm 103 100 6 8 m19 fun r20 m21 => pm_pR 9 a0 18 r20 m21 fun m22 => pm_nm 103 100 160 2 m22 fun r23 m24 => pm_pR 9 a0 21 r23 m24 fun m25 => pm_nm 103 100 160 2 m25 fun r26 m27 => pm_pR 9 a0 22 r26 m27 fun m28 => pm_na 100 160 m28 fun r29 m30 => pm_pR 9 a0 23 r29 m30 fun m31 => pm_na 100 7 m31 fun r32 m33 => pm_pR 9 a0 24 r32 m33 fun m34 => pm_na 100 12 m34 fun r35 m36 => pm_pR 9 a0 25 r35 m36 fun m37 => pm_na 100 12 m37 fun r38 m39 => pm_pR 9 a0 26 r38 m39 fun m40 => pm_nm 103 100 80 5 m40 fun r41 m42 => pm_pR 9 a0 27 r41 m42 fun m43 => pm_na 100 14 m43 fun r44 m45 => pm_pR 9 a0 29 r44 m45 fun m46 => pm_na 100 14 m46 fun r47 m48 => pm_pR 9 a0 30 r47 m48 fun m49 => pm_nm 103 100 16 14 m49 fun r50 m51 => pm_pR 9 a0 31 r50 m51 fun m52 => pm_nm 103 100 3 239 m52 fun r53 m54 => pm_pR 9 a0 32 r53 m54 fun m55 => pm_na 100 48 m55 fun r56 m57 => pm_pR 9 a0 40 r56 m57 fun m58 => pm_na 100 48 m58 fun r59 m60 => pm_pR 9 a0 41 r59 m60 fun m61 => pm_na 100 48 m61 fun r62 m63 => pm_pR 9 a0 42 r62 m63 fun m64 => pm_na 100 26 m64 fun r65 m66 => pm_pR 9 a0 43 r65 m66 fun m67 => pm_na 100 26 m67 fun r68 m69 => pm_pR 9 a0 44 r68 m69 fun m70 => pm_na 102 26 m70 fun r71 m72 => pm_pR 9 a0 45 r71 m72 fun m73 => pm_na 102 26 m73 fun r74 m75 => pm_pR 9 a0 46 r74 m75 fun m76 => pm_na 102 13 m76 fun r77 m78 => pm_pR 9 a0 47 r77 m78 fun m79 => pm_nm 104 102 13 16 m79 fun r80 m81 => pm_pR 9 a0 48 r80 m81 fun m82 => pm_na 100 9 m82 fun r83 m84 => pm_pR 9 a0 49 r83 m84 fun m85 => pm_na 101 16 m85 fun r86 m87 => pm_pR 9 a0 50 r86 m87 fun m88 => pm_nm 103 100 9 9 m88 fun r89 m90 => pm_pR 9 a0 51 r89 m90 fun m91 => pm_na 102 14 m91 fun r92 m93 => pm_pR 9 a0 52 r92 m93 fun m94 => pm_na 100 16 m94 fun r95 m96 => pm_pR 9 a0 53 r95 m96 fun m97 => pm_rc 9 a0 m97 <| pm_cV (X9_tellsNothing a0 m97) fun m98 => pm_rc 9 a0 m98 <| pm_cV (X9_beginsAnew a0 m98) fun m99 => pm_oV m99
set_option maxRecDepth 100000 in
set_option maxHeartbeats 4000000 in
theorem kcX9_init (hfl : l.flags = flags0) (a0 : Nat) (m : pmM) : pm_C l Γ zX9_init (d + 2) [.ref a0] m (X9_init a0 m) := by
  refine pm_enter (ls := [.ref a0]) hfl (by decide +kernel) rfl (Nat.le_of_ble_eq_true rfl) rfl (Nat.le_of_ble_eq_true rfl) ?_
  unfold X9_init
  refine pm_aload_n dX9_init_0 rfl rfl ?_
  refine pm_oinit (y := zX9_init) tw_1350 tw_184 tw_185 dX9_init_1 (Nat.le_of_ble_eq_true rfl) ?_
  refine pm_aload_n dX9_init_4 rfl rfl ?_
  refine pm_iconst (v := (-1)) dX9_init_5 ki_n1 ?_
  refine fp_9_3 (y := zX9_init) (Or.inl tw_1369) dX9_init_6 (fun m1 => ?_)
  refine pm_aload_n dX9_init_9 rfl rfl ?_
  refine pm_sipush (v := 600) dX9_init_10 ks_600 ?_
  refine pm_newa (y := zX9_init) (atype := .int) (kd := 100) (by decide) tw_230 dX9_init_13 (fun r2 m3 => ?_)
  refine fp_9_9 (y := zX9_init) ⟨tw_1375, rfl⟩ dX9_init_15 (fun m4 => ?_)
  refine pm_aload_n dX9_init_18 rfl rfl ?_
  refine pm_iconst (v := 2) dX9_init_19 ki_2 ?_
  refine pm_newa (y := zX9_init) (atype := .int) (kd := 100) (by decide) tw_230 dX9_init_20 (fun r5 m6 => ?_)
  refine fp_9_10 (y := zX9_init) ⟨tw_1376, rfl⟩ dX9_init_22 (fun m7 => ?_)
  refine pm_aload_n dX9_init_25 rfl rfl ?_
  refine pm_iconst (v := 4) dX9_init_26 ki_4 ?_
  refine pm_newa (y := zX9_init) (atype := .int) (kd := 100) (by decide) tw_230 dX9_init_27 (fun r8 m9 => ?_)
  refine fp_9_14 (y := zX9_init) ⟨tw_1380, rfl⟩ dX9_init_29 (fun m10 => ?_)
  refine pm_aload_n dX9_init_32 rfl rfl ?_
  refine pm_bipush (v := 6) dX9_init_33 kb_6 ?_
  refine pm_newa (y := zX9_init) (atype := .int) (kd := 100) (by decide) tw_230 dX9_init_35 (fun r11 m12 => ?_)
  refine fp_9_15 (y := zX9_init) ⟨tw_1381, rfl⟩ dX9_init_37 (fun m13 => ?_)
  refine pm_aload_n dX9_init_40 rfl rfl ?_
  refine pm_bipush (v := 6) dX9_init_41 kb_6 ?_
  refine pm_newa (y := zX9_init) (atype := .int) (kd := 100) (by decide) tw_230 dX9_init_43 (fun r14 m15 => ?_)
  refine fp_9_16 (y := zX9_init) ⟨tw_1382, rfl⟩ dX9_init_45 (fun m16 => ?_)
  refine pm_aload_n dX9_init_48 rfl rfl ?_
  refine pm_bipush (v := 6) dX9_init_49 kb_6 ?_
  refine pm_bipush (v := 8) dX9_init_51 kb_8 ?_
  refine pm_multi (y := zX9_init) (kd := 103) (ik := 100) (ty := .int) (by decide) tw_1351 tw_1352 tw_230 dX9_init_53 (fun r17 m18 => ?_)
  refine fp_9_17 (y := zX9_init) ⟨tw_1383, rfl⟩ dX9_init_57 (fun m19 => ?_)
  refine pm_aload_n dX9_init_60 rfl rfl ?_
  refine pm_bipush (v := 6) dX9_init_61 kb_6 ?_
  refine pm_bipush (v := 8) dX9_init_63 kb_8 ?_
  refine pm_multi (y := zX9_init) (kd := 103) (ik := 100) (ty := .int) (by decide) tw_1351 tw_1352 tw_230 dX9_init_65 (fun r20 m21 => ?_)
  refine fp_9_18 (y := zX9_init) ⟨tw_1384, rfl⟩ dX9_init_69 (fun m22 => ?_)
  refine pm_aload_n dX9_init_72 rfl rfl ?_
  refine pm_sipush (v := 160) dX9_init_73 ks_160 ?_
  refine pm_iconst (v := 2) dX9_init_76 ki_2 ?_
  refine pm_multi (y := zX9_init) (kd := 103) (ik := 100) (ty := .int) (by decide) tw_1351 tw_1352 tw_230 dX9_init_77 (fun r23 m24 => ?_)
  refine fp_9_21 (y := zX9_init) ⟨tw_1387, rfl⟩ dX9_init_81 (fun m25 => ?_)
  refine pm_aload_n dX9_init_84 rfl rfl ?_
  refine pm_sipush (v := 160) dX9_init_85 ks_160 ?_
  refine pm_iconst (v := 2) dX9_init_88 ki_2 ?_
  refine pm_multi (y := zX9_init) (kd := 103) (ik := 100) (ty := .int) (by decide) tw_1351 tw_1352 tw_230 dX9_init_89 (fun r26 m27 => ?_)
  refine fp_9_22 (y := zX9_init) ⟨tw_1388, rfl⟩ dX9_init_93 (fun m28 => ?_)
  refine pm_aload_n dX9_init_96 rfl rfl ?_
  refine pm_sipush (v := 160) dX9_init_97 ks_160 ?_
  refine pm_newa (y := zX9_init) (atype := .int) (kd := 100) (by decide) tw_230 dX9_init_100 (fun r29 m30 => ?_)
  refine fp_9_23 (y := zX9_init) ⟨tw_1389, rfl⟩ dX9_init_102 (fun m31 => ?_)
  refine pm_aload_n dX9_init_105 rfl rfl ?_
  refine pm_bipush (v := 7) dX9_init_106 kb_7 ?_
  refine pm_newa (y := zX9_init) (atype := .int) (kd := 100) (by decide) tw_230 dX9_init_108 (fun r32 m33 => ?_)
  refine fp_9_24 (y := zX9_init) ⟨tw_1390, rfl⟩ dX9_init_110 (fun m34 => ?_)
  refine pm_aload_n dX9_init_113 rfl rfl ?_
  refine pm_bipush (v := 12) dX9_init_114 kb_12 ?_
  refine pm_newa (y := zX9_init) (atype := .int) (kd := 100) (by decide) tw_230 dX9_init_116 (fun r35 m36 => ?_)
  refine fp_9_25 (y := zX9_init) ⟨tw_1391, rfl⟩ dX9_init_118 (fun m37 => ?_)
  refine pm_aload_n dX9_init_121 rfl rfl ?_
  refine pm_bipush (v := 12) dX9_init_122 kb_12 ?_
  refine pm_newa (y := zX9_init) (atype := .int) (kd := 100) (by decide) tw_230 dX9_init_124 (fun r38 m39 => ?_)
  refine fp_9_26 (y := zX9_init) ⟨tw_1392, rfl⟩ dX9_init_126 (fun m40 => ?_)
  refine pm_aload_n dX9_init_129 rfl rfl ?_
  refine pm_bipush (v := 80) dX9_init_130 kb_80 ?_
  refine pm_iconst (v := 5) dX9_init_132 ki_5 ?_
  refine pm_multi (y := zX9_init) (kd := 103) (ik := 100) (ty := .int) (by decide) tw_1351 tw_1352 tw_230 dX9_init_133 (fun r41 m42 => ?_)
  refine fp_9_27 (y := zX9_init) ⟨tw_1393, rfl⟩ dX9_init_137 (fun m43 => ?_)
  refine pm_aload_n dX9_init_140 rfl rfl ?_
  refine pm_bipush (v := 14) dX9_init_141 kb_14 ?_
  refine pm_newa (y := zX9_init) (atype := .int) (kd := 100) (by decide) tw_230 dX9_init_143 (fun r44 m45 => ?_)
  refine fp_9_29 (y := zX9_init) ⟨tw_1395, rfl⟩ dX9_init_145 (fun m46 => ?_)
  refine pm_aload_n dX9_init_148 rfl rfl ?_
  refine pm_bipush (v := 14) dX9_init_149 kb_14 ?_
  refine pm_newa (y := zX9_init) (atype := .int) (kd := 100) (by decide) tw_230 dX9_init_151 (fun r47 m48 => ?_)
  refine fp_9_30 (y := zX9_init) ⟨tw_1396, rfl⟩ dX9_init_153 (fun m49 => ?_)
  refine pm_aload_n dX9_init_156 rfl rfl ?_
  refine pm_bipush (v := 16) dX9_init_157 kb_16 ?_
  refine pm_bipush (v := 14) dX9_init_159 kb_14 ?_
  refine pm_multi (y := zX9_init) (kd := 103) (ik := 100) (ty := .int) (by decide) tw_1351 tw_1352 tw_230 dX9_init_161 (fun r50 m51 => ?_)
  refine fp_9_31 (y := zX9_init) ⟨tw_1397, rfl⟩ dX9_init_165 (fun m52 => ?_)
  refine pm_aload_n dX9_init_168 rfl rfl ?_
  refine pm_iconst (v := 3) dX9_init_169 ki_3 ?_
  refine pm_sipush (v := 239) dX9_init_170 ks_239 ?_
  refine pm_multi (y := zX9_init) (kd := 103) (ik := 100) (ty := .int) (by decide) tw_1351 tw_1352 tw_230 dX9_init_173 (fun r53 m54 => ?_)
  refine fp_9_32 (y := zX9_init) ⟨tw_1398, rfl⟩ dX9_init_177 (fun m55 => ?_)
  refine pm_aload_n dX9_init_180 rfl rfl ?_
  refine pm_bipush (v := 48) dX9_init_181 kb_48 ?_
  refine pm_newa (y := zX9_init) (atype := .int) (kd := 100) (by decide) tw_230 dX9_init_183 (fun r56 m57 => ?_)
  refine fp_9_40 (y := zX9_init) ⟨tw_1406, rfl⟩ dX9_init_185 (fun m58 => ?_)
  refine pm_aload_n dX9_init_188 rfl rfl ?_
  refine pm_bipush (v := 48) dX9_init_189 kb_48 ?_
  refine pm_newa (y := zX9_init) (atype := .int) (kd := 100) (by decide) tw_230 dX9_init_191 (fun r59 m60 => ?_)
  refine fp_9_41 (y := zX9_init) ⟨tw_1407, rfl⟩ dX9_init_193 (fun m61 => ?_)
  refine pm_aload_n dX9_init_196 rfl rfl ?_
  refine pm_bipush (v := 48) dX9_init_197 kb_48 ?_
  refine pm_newa (y := zX9_init) (atype := .int) (kd := 100) (by decide) tw_230 dX9_init_199 (fun r62 m63 => ?_)
  refine fp_9_42 (y := zX9_init) ⟨tw_1408, rfl⟩ dX9_init_201 (fun m64 => ?_)
  refine pm_aload_n dX9_init_204 rfl rfl ?_
  refine pm_bipush (v := 26) dX9_init_205 kb_26 ?_
  refine pm_newa (y := zX9_init) (atype := .int) (kd := 100) (by decide) tw_230 dX9_init_207 (fun r65 m66 => ?_)
  refine fp_9_43 (y := zX9_init) ⟨tw_1409, rfl⟩ dX9_init_209 (fun m67 => ?_)
  refine pm_aload_n dX9_init_212 rfl rfl ?_
  refine pm_bipush (v := 26) dX9_init_213 kb_26 ?_
  refine pm_newa (y := zX9_init) (atype := .int) (kd := 100) (by decide) tw_230 dX9_init_215 (fun r68 m69 => ?_)
  refine fp_9_44 (y := zX9_init) ⟨tw_1410, rfl⟩ dX9_init_217 (fun m70 => ?_)
  refine pm_aload_n dX9_init_220 rfl rfl ?_
  refine pm_bipush (v := 26) dX9_init_221 kb_26 ?_
  refine pm_newa (y := zX9_init) (atype := .long) (kd := 102) (by decide) tw_438 dX9_init_223 (fun r71 m72 => ?_)
  refine fp_9_45 (y := zX9_init) ⟨tw_1411, rfl⟩ dX9_init_225 (fun m73 => ?_)
  refine pm_aload_n dX9_init_228 rfl rfl ?_
  refine pm_bipush (v := 26) dX9_init_229 kb_26 ?_
  refine pm_newa (y := zX9_init) (atype := .long) (kd := 102) (by decide) tw_438 dX9_init_231 (fun r74 m75 => ?_)
  refine fp_9_46 (y := zX9_init) ⟨tw_1412, rfl⟩ dX9_init_233 (fun m76 => ?_)
  refine pm_aload_n dX9_init_236 rfl rfl ?_
  refine pm_bipush (v := 13) dX9_init_237 kb_13 ?_
  refine pm_newa (y := zX9_init) (atype := .long) (kd := 102) (by decide) tw_438 dX9_init_239 (fun r77 m78 => ?_)
  refine fp_9_47 (y := zX9_init) ⟨tw_1413, rfl⟩ dX9_init_241 (fun m79 => ?_)
  refine pm_aload_n dX9_init_244 rfl rfl ?_
  refine pm_bipush (v := 13) dX9_init_245 kb_13 ?_
  refine pm_bipush (v := 16) dX9_init_247 kb_16 ?_
  refine pm_multi (y := zX9_init) (kd := 104) (ik := 102) (ty := .long) (by decide) tw_1353 tw_1354 tw_438 dX9_init_249 (fun r80 m81 => ?_)
  refine fp_9_48 (y := zX9_init) ⟨tw_1414, rfl⟩ dX9_init_253 (fun m82 => ?_)
  refine pm_aload_n dX9_init_256 rfl rfl ?_
  refine pm_bipush (v := 9) dX9_init_257 kb_9 ?_
  refine pm_newa (y := zX9_init) (atype := .int) (kd := 100) (by decide) tw_230 dX9_init_259 (fun r83 m84 => ?_)
  refine fp_9_49 (y := zX9_init) ⟨tw_1415, rfl⟩ dX9_init_261 (fun m85 => ?_)
  refine pm_aload_n dX9_init_264 rfl rfl ?_
  refine pm_bipush (v := 16) dX9_init_265 kb_16 ?_
  refine pm_newa (y := zX9_init) (atype := .boolean) (kd := 101) (by decide) tw_1532 dX9_init_267 (fun r86 m87 => ?_)
  refine fp_9_50 (y := zX9_init) ⟨tw_1416, rfl⟩ dX9_init_269 (fun m88 => ?_)
  refine pm_aload_n dX9_init_272 rfl rfl ?_
  refine pm_bipush (v := 9) dX9_init_273 kb_9 ?_
  refine pm_bipush (v := 9) dX9_init_275 kb_9 ?_
  refine pm_multi (y := zX9_init) (kd := 103) (ik := 100) (ty := .int) (by decide) tw_1351 tw_1352 tw_230 dX9_init_277 (fun r89 m90 => ?_)
  refine fp_9_51 (y := zX9_init) ⟨tw_1417, rfl⟩ dX9_init_281 (fun m91 => ?_)
  refine pm_aload_n dX9_init_284 rfl rfl ?_
  refine pm_bipush (v := 14) dX9_init_285 kb_14 ?_
  refine pm_newa (y := zX9_init) (atype := .long) (kd := 102) (by decide) tw_438 dX9_init_287 (fun r92 m93 => ?_)
  refine fp_9_52 (y := zX9_init) ⟨tw_1418, rfl⟩ dX9_init_289 (fun m94 => ?_)
  refine pm_aload_n dX9_init_292 rfl rfl ?_
  refine pm_bipush (v := 16) dX9_init_293 kb_16 ?_
  refine pm_newa (y := zX9_init) (atype := .int) (kd := 100) (by decide) tw_230 dX9_init_295 (fun r95 m96 => ?_)
  refine fp_9_53 (y := zX9_init) ⟨tw_1419, rfl⟩ dX9_init_297 (fun m97 => ?_)
  refine pm_aload_n dX9_init_300 rfl rfl ?_
  refine pm_rcv (fun hb9 hc9 => ?_)
  refine pm_kV (d := d + 1) rfl (pm_V (y := zX9_init) (z := zX9_tellsNothing) (As := []) zkX9_tellsNothing pm_q9 (by decide) tw_1355 tw_1357 tw_97 dX9_init_301 rfl rfl (Nat.le_of_ble_eq_true rfl) hb9 hc9) (kcX9_tellsNothing (d := d + 1) hfl a0 m97) (fun m98 => ?_)
  refine pm_aload_n dX9_init_304 rfl rfl ?_
  refine pm_rcv (fun hb9 hc9 => ?_)
  refine pm_kV (d := d + 1) rfl (pm_V (y := zX9_init) (z := zX9_beginsAnew) (As := []) zkX9_beginsAnew pm_q9 (by decide) tw_1359 tw_1361 tw_98 dX9_init_305 rfl rfl (Nat.le_of_ble_eq_true rfl) hb9 hc9) (kcX9_beginsAnew (d := d + 0) hfl a0 m98) (fun m99 => ?_)
  exact pm_vret rfl dX9_init_308
-- StruckPageModel.thrown()I
def X9_thrown (a0 : Nat) (m : pmM) : pmR := pm_gI 9 a0 0 m fun x1 => pm_oI x1 m
set_option maxRecDepth 100000 in
set_option maxHeartbeats 4000000 in
theorem kcX9_thrown (hfl : l.flags = flags0) (a0 : Nat) (m : pmM) : pm_C l Γ zX9_thrown (d + 0) [.ref a0] m (X9_thrown a0 m) := by
  refine pm_enter (ls := [.ref a0]) hfl (by decide +kernel) rfl (Nat.le_of_ble_eq_true rfl) rfl (Nat.le_of_ble_eq_true rfl) ?_
  unfold X9_thrown
  refine pm_aload_n dX9_thrown_0 rfl rfl ?_
  refine fg_9_0 (y := zX9_thrown) (Or.inl tw_1366) dX9_thrown_1 (fun x1 => ?_)
  exact pm_iret rfl dX9_thrown_4
-- StruckPageModel.bad(ZII)Z
def X9_bad_j38 (t0 : Int32) (m : pmM) : pmR := pm_oI (vp_nar .boolean t0) m
def X9_bad_j26 (l0 : Nat) (m : pmM) : pmR := pm_gI 9 l0 0 m fun x1 => if x1 = 0 then (X9_bad_j38 0 m) else (X9_bad_j38 1 m)
def X9_bad (a0 : Nat) (a1 : Int32) (a2 : Int32) (a3 : Int32) (m : pmM) : pmR := if a1 = 0 then (X9_bad_j26 a0 m) else (pm_gI 9 a0 0 m fun x2 => if x2 = 0 then (pm_pI 9 a0 0 a2 m fun m3 => pm_gR 9 a0 10 m3 fun r4 => pm_ld 100 r4 a3 m3 fun x5 => pm_st 100 r4 a3 (x5 + 1) m3 fun m6 => X9_bad_j26 a0 m6) else (X9_bad_j26 a0 m))
set_option maxRecDepth 100000 in
set_option maxHeartbeats 4000000 in
theorem gX9_bad_j38 (hfl : l.flags = flags0) (t0 : Int32) (m : pmM) : pm_G l Γ zX9_bad (d + 0) 38 [pmU, pmU, pmU, pmU] [.int t0] m (X9_bad_j38 t0 m) := by
  unfold X9_bad_j38
  exact pm_nret (ty := .boolean) (w := vp_nar .boolean t0) rfl (by decide) rfl dX9_bad_38
set_option maxRecDepth 100000 in
set_option maxHeartbeats 4000000 in
theorem gX9_bad_j26 (hfl : l.flags = flags0) (l0 : Nat) (m : pmM) : pm_G l Γ zX9_bad (d + 0) 26 [.ref l0, pmU, pmU, pmU] [] m (X9_bad_j26 l0 m) := by
  unfold X9_bad_j26
  refine pm_aload_n dX9_bad_26 rfl rfl ?_
  refine fg_9_0 (y := zX9_bad) (Or.inl tw_1366) dX9_bad_27 (fun x1 => ?_)
  refine pm_if_eq (tgt := 37) dX9_bad_30 rfl ?_ ?_
  · refine pm_iconst (v := 0) dX9_bad_37 ki_0 ?_
    refine pm_drop (ls2 := [pmU, pmU, pmU, pmU]) (Nat.le_refl _) (pm_le_spec (pm_le_u (pm_le_u (pm_le_u (pm_le_u (pm_le_n)))))) ?_
    exact gX9_bad_j38 hfl 0 m
  · refine pm_iconst (v := 1) dX9_bad_33 ki_1 ?_
    refine pm_goto (tgt := 38) dX9_bad_34 rfl ?_
    refine pm_drop (ls2 := [pmU, pmU, pmU, pmU]) (Nat.le_refl _) (pm_le_spec (pm_le_u (pm_le_u (pm_le_u (pm_le_u (pm_le_n)))))) ?_
    exact gX9_bad_j38 hfl 1 m
set_option maxRecDepth 100000 in
set_option maxHeartbeats 4000000 in
theorem kcX9_bad (hfl : l.flags = flags0) (a0 : Nat) (a1 : Int32) (a2 : Int32) (a3 : Int32) (m : pmM) : pm_C l Γ zX9_bad (d + 0) [.ref a0, .int a1, .int a2, .int a3] m (X9_bad a0 a1 a2 a3 m) := by
  refine pm_enter (ls := [.ref a0, .int a1, .int a2, .int a3]) hfl (by decide +kernel) rfl (Nat.le_of_ble_eq_true rfl) rfl (Nat.le_of_ble_eq_true rfl) ?_
  unfold X9_bad
  refine pm_iload_n dX9_bad_0 rfl rfl ?_
  refine pm_if_eq (tgt := 26) dX9_bad_1 rfl ?_ ?_
  · refine pm_drop (ls2 := [.ref a0, pmU, pmU, pmU]) (Nat.le_refl _) (pm_le_spec (pm_le_v (pm_le_u (pm_le_u (pm_le_u (pm_le_n)))))) ?_
    exact gX9_bad_j26 hfl a0 m
  · refine pm_aload_n dX9_bad_4 rfl rfl ?_
    refine fg_9_0 (y := zX9_bad) (Or.inl tw_1366) dX9_bad_5 (fun x2 => ?_)
    refine pm_if_ne (tgt := 26) dX9_bad_8 rfl ?_ ?_
    · refine pm_drop (ls2 := [.ref a0, pmU, pmU, pmU]) (Nat.le_refl _) (pm_le_spec (pm_le_v (pm_le_u (pm_le_u (pm_le_u (pm_le_n)))))) ?_
      exact gX9_bad_j26 hfl a0 m
    · refine pm_aload_n dX9_bad_11 rfl rfl ?_
      refine pm_iload_n dX9_bad_12 rfl rfl ?_
      refine fp_9_0 (y := zX9_bad) (Or.inl tw_1366) dX9_bad_13 (fun m3 => ?_)
      refine pm_aload_n dX9_bad_16 rfl rfl ?_
      refine fg_9_10 (y := zX9_bad) (Or.inl tw_1376) dX9_bad_17 (fun r4 => ?_)
      refine pm_iload_n dX9_bad_20 rfl rfl ?_
      refine pm_dup2 dX9_bad_21 rfl rfl ?_
      refine pm_iald (y := zX9_bad) dX9_bad_22 (fun x5 => ?_)
      refine pm_iconst (v := 1) dX9_bad_23 ki_1 ?_
      refine pm_iadd dX9_bad_24 ?_
      refine pm_iast (y := zX9_bad) dX9_bad_25 (fun m6 => ?_)
      refine pm_drop (ls2 := [.ref a0, pmU, pmU, pmU]) (Nat.le_refl _) (pm_le_spec (pm_le_v (pm_le_u (pm_le_u (pm_le_u (pm_le_n)))))) ?_
      exact gX9_bad_j26 hfl a0 m6
-- StruckPageModel.in(III)Z
def X9_in_j15 (t0 : Int32) (m : pmM) : pmR := pm_oI (vp_nar .boolean t0) m
def X9_in_j14 (m : pmM) : pmR := X9_in_j15 0 m
def X9_in (a0 : Int32) (a1 : Int32) (a2 : Int32) (m : pmM) : pmR := if a0 < a1 then (X9_in_j14 m) else (if a2 < a0 then (X9_in_j14 m) else (X9_in_j15 1 m))
set_option maxRecDepth 100000 in
set_option maxHeartbeats 4000000 in
theorem gX9_in_j15 (hfl : l.flags = flags0) (t0 : Int32) (m : pmM) : pm_G l Γ zX9_in (d + 0) 15 [pmU, pmU, pmU] [.int t0] m (X9_in_j15 t0 m) := by
  unfold X9_in_j15
  exact pm_nret (ty := .boolean) (w := vp_nar .boolean t0) rfl (by decide) rfl dX9_in_15
set_option maxRecDepth 100000 in
set_option maxHeartbeats 4000000 in
theorem gX9_in_j14 (hfl : l.flags = flags0) (m : pmM) : pm_G l Γ zX9_in (d + 0) 14 [pmU, pmU, pmU] [] m (X9_in_j14 m) := by
  unfold X9_in_j14
  refine pm_iconst (v := 0) dX9_in_14 ki_0 ?_
  exact gX9_in_j15 hfl 0 m
set_option maxRecDepth 100000 in
set_option maxHeartbeats 4000000 in
theorem kcX9_in (hfl : l.flags = flags0) (a0 : Int32) (a1 : Int32) (a2 : Int32) (m : pmM) : pm_C l Γ zX9_in (d + 0) [.int a0, .int a1, .int a2] m (X9_in a0 a1 a2 m) := by
  refine pm_enter (ls := [.int a0, .int a1, .int a2]) hfl (by decide +kernel) rfl (Nat.le_of_ble_eq_true rfl) rfl (Nat.le_of_ble_eq_true rfl) ?_
  unfold X9_in
  refine pm_iload_n dX9_in_0 rfl rfl ?_
  refine pm_iload_n dX9_in_1 rfl rfl ?_
  refine pm_icmp_lt (tgt := 14) dX9_in_2 rfl ?_ ?_
  · refine pm_drop (ls2 := [pmU, pmU, pmU]) (Nat.le_refl _) (pm_le_spec (pm_le_u (pm_le_u (pm_le_u (pm_le_n))))) ?_
    exact gX9_in_j14 hfl m
  · refine pm_iload_n dX9_in_5 rfl rfl ?_
    refine pm_iload_n dX9_in_6 rfl rfl ?_
    refine pm_icmp_gt (tgt := 14) dX9_in_7 rfl ?_ ?_
    · refine pm_drop (ls2 := [pmU, pmU, pmU]) (Nat.le_refl _) (pm_le_spec (pm_le_u (pm_le_u (pm_le_u (pm_le_n))))) ?_
      exact gX9_in_j14 hfl m
    · refine pm_iconst (v := 1) dX9_in_10 ki_1 ?_
      refine pm_goto (tgt := 15) dX9_in_11 rfl ?_
      refine pm_drop (ls2 := [pmU, pmU, pmU]) (Nat.le_refl _) (pm_le_spec (pm_le_u (pm_le_u (pm_le_u (pm_le_n))))) ?_
      exact gX9_in_j15 hfl 1 m
-- StruckPageModel.less(II)I
def X9_less_j10 (t0 : Int32) (m : pmM) : pmR := pm_oI t0 m
def X9_less (a0 : Int32) (a1 : Int32) (m : pmM) : pmR := if a1 ≤ a0 then (X9_less_j10 a1 m) else (X9_less_j10 a0 m)
set_option maxRecDepth 100000 in
set_option maxHeartbeats 4000000 in
theorem gX9_less_j10 (hfl : l.flags = flags0) (t0 : Int32) (m : pmM) : pm_G l Γ zX9_less (d + 0) 10 [pmU, pmU] [.int t0] m (X9_less_j10 t0 m) := by
  unfold X9_less_j10
  exact pm_iret rfl dX9_less_10
set_option maxRecDepth 100000 in
set_option maxHeartbeats 4000000 in
theorem kcX9_less (hfl : l.flags = flags0) (a0 : Int32) (a1 : Int32) (m : pmM) : pm_C l Γ zX9_less (d + 0) [.int a0, .int a1] m (X9_less a0 a1 m) := by
  refine pm_enter (ls := [.int a0, .int a1]) hfl (by decide +kernel) rfl (Nat.le_of_ble_eq_true rfl) rfl (Nat.le_of_ble_eq_true rfl) ?_
  unfold X9_less
  refine pm_iload_n dX9_less_0 rfl rfl ?_
  refine pm_iload_n dX9_less_1 rfl rfl ?_
  refine pm_icmp_ge (tgt := 9) dX9_less_2 rfl ?_ ?_
  · refine pm_iload_n dX9_less_9 rfl rfl ?_
    refine pm_drop (ls2 := [pmU, pmU]) (Nat.le_refl _) (pm_le_spec (pm_le_u (pm_le_u (pm_le_n)))) ?_
    exact gX9_less_j10 hfl a1 m
  · refine pm_iload_n dX9_less_5 rfl rfl ?_
    refine pm_goto (tgt := 10) dX9_less_6 rfl ?_
    refine pm_drop (ls2 := [pmU, pmU]) (Nat.le_refl _) (pm_le_spec (pm_le_u (pm_le_u (pm_le_n)))) ?_
    exact gX9_less_j10 hfl a0 m
end GEN14
