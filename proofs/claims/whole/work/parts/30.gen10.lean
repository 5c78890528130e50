section GEN10
variable {l : Launch} {Γ : pmG} {d : Nat}
-- StruckPage.told(I)I
def X8_told_j16 (l0 : Nat) (l1 : Int32) (t0 : Int32) (t1 : Nat) (m : pmM) : pmR := pm_rc 8 t1 m <| pm_cV (X8_must t1 t0 m) fun m1 => if l1 = (0 : Int32) then (pm_gR 8 l0 1 m1 fun r2 => pm_gI 2 r2 3 m1 fun x3 => pm_oI x3 m1) else if l1 = (1 : Int32) then (pm_gR 8 l0 1 m1 fun r4 => pm_gI 2 r4 4 m1 fun x5 => pm_oI x5 m1) else if l1 = (2 : Int32) then (pm_gR 8 l0 8 m1 fun r6 => pm_rc 0 r6 m1 <| pm_cI (X0_leftInAll r6 m1) fun x8 m7 => pm_oI x8 m7) else if l1 = (3 : Int32) then (pm_gR 8 l0 8 m1 fun r9 => pm_gI 0 r9 5 m1 fun x10 => pm_oI x10 m1) else if l1 = (4 : Int32) then (pm_gR 8 l0 8 m1 fun r11 => pm_gI 0 r11 6 m1 fun x12 => pm_oI x12 m1) else if l1 = (5 : Int32) then (pm_gR 8 l0 8 m1 fun r13 => pm_gI 0 r13 4 m1 fun x14 => pm_oI x14 m1) else if l1 = (6 : Int32) then (pm_gR 8 l0 8 m1 fun r15 => pm_gI 0 r15 7 m1 fun x16 => pm_oI x16 m1) else if l1 = (7 : Int32) then (pm_gR 8 l0 8 m1 fun r17 => pm_rc 0 r17 m1 <| pm_cI (X0_inAllCells r17 m1) fun x19 m18 => pm_oI x19 m18) else if l1 = (8 : Int32) then (pm_gR 8 l0 5 m1 fun r20 => pm_gI 3 r20 1 m1 fun x21 => pm_oI x21 m1) else if l1 = (9 : Int32) then (pm_gI 8 l0 12 m1 fun x22 => pm_oI x22 m1) else (pm_rc 8 l0 m1 <| pm_cI (X8_emptyLines l0 m1) fun x24 m23 => pm_oI x24 m23)
def X8_told_j15 (l0 : Nat) (l1 : Int32) (t0 : Nat) (m : pmM) : pmR := X8_told_j16 l0 l1 0 t0 m
def X8_told (a0 : Nat) (a1 : Int32) (m : pmM) : pmR := if a1 < 0 then (X8_told_j15 a0 a1 a0 m) else (if (10 : Int32) < a1 then (X8_told_j15 a0 a1 a0 m) else (X8_told_j16 a0 a1 1 a0 m))
set_option maxRecDepth 100000 in
set_option maxHeartbeats 4000000 in
theorem gX8_told_j16 (hfl : l.flags = flags0) (l0 : Nat) (l1 : Int32) (t0 : Int32) (t1 : Nat) (m : pmM) : pm_G l Γ zX8_told (d + 3) 16 [.ref l0, .int l1] [.int t0, .ref t1] m (X8_told_j16 l0 l1 t0 t1 m) := by
  unfold X8_told_j16
  refine pm_rcv (fun hb9 hc9 => ?_)
  refine pm_kV (d := d + 2) rfl (pm_V (y := zX8_told) (z := zX8_must) (As := [.int t0]) zkX8_must pm_q8 (by decide) tw_684 tw_686 tw_30 dX8_told_16 rfl rfl (Nat.le_of_ble_eq_true rfl) hb9 hc9) (kcX8_must (d := d + 2) hfl t1 t0 m) (fun m1 => ?_)
  refine pm_iload_n dX8_told_19 rfl rfl ?_
  refine pm_case (c := (0 : Int32)) (fun h9 => ?_) (fun h9_0 => ?_)
  · refine pm_swIn (off := (56)) (tgt := 76) dX8_told_20 (by rw [h9]; decide) (by rw [h9]; decide) (by rw [h9]; decide) (by decide) ?_
    refine pm_aload_n dX8_told_76 rfl rfl ?_
    refine fg_8_1 (y := zX8_told) (Or.inl tw_440) dX8_told_77 (fun r2 => ?_)
    refine fg_2_3 (y := zX8_told) (Or.inr tw_246) dX8_told_80 (fun x3 => ?_)
    exact pm_iret rfl dX8_told_83
  refine pm_case (c := (1 : Int32)) (fun h9 => ?_) (fun h9_1 => ?_)
  · refine pm_swIn (off := (64)) (tgt := 84) dX8_told_20 (by rw [h9]; decide) (by rw [h9]; decide) (by rw [h9]; decide) (by decide) ?_
    refine pm_aload_n dX8_told_84 rfl rfl ?_
    refine fg_8_1 (y := zX8_told) (Or.inl tw_440) dX8_told_85 (fun r4 => ?_)
    refine fg_2_4 (y := zX8_told) (Or.inr tw_248) dX8_told_88 (fun x5 => ?_)
    exact pm_iret rfl dX8_told_91
  refine pm_case (c := (2 : Int32)) (fun h9 => ?_) (fun h9_2 => ?_)
  · refine pm_swIn (off := (72)) (tgt := 92) dX8_told_20 (by rw [h9]; decide) (by rw [h9]; decide) (by rw [h9]; decide) (by decide) ?_
    refine pm_aload_n dX8_told_92 rfl rfl ?_
    refine fg_8_8 (y := zX8_told) (Or.inl tw_447) dX8_told_93 (fun r6 => ?_)
    refine pm_rcv (fun hb9 hc9 => ?_)
    refine pm_kI (d := d + 2) rfl (pm_VN (y := zX8_told) (z := zX0_leftInAll) (As := []) zkX0_leftInAll pm_q0 (by decide) tw_1075 tw_613 tw_19 dX8_told_96 rfl rfl (Nat.le_of_ble_eq_true rfl) hb9 hc9) (kcX0_leftInAll (d := d + 1) hfl r6 m1) (fun x8 m7 => ?_)
    exact pm_iret rfl dX8_told_99
  refine pm_case (c := (3 : Int32)) (fun h9 => ?_) (fun h9_3 => ?_)
  · refine pm_swIn (off := (80)) (tgt := 100) dX8_told_20 (by rw [h9]; decide) (by rw [h9]; decide) (by rw [h9]; decide) (by decide) ?_
    refine pm_aload_n dX8_told_100 rfl rfl ?_
    refine fg_8_8 (y := zX8_told) (Or.inl tw_447) dX8_told_101 (fun r9 => ?_)
    refine fg_0_5 (y := zX8_told) (Or.inr tw_367) dX8_told_104 (fun x10 => ?_)
    exact pm_iret rfl dX8_told_107
  refine pm_case (c := (4 : Int32)) (fun h9 => ?_) (fun h9_4 => ?_)
  · refine pm_swIn (off := (88)) (tgt := 108) dX8_told_20 (by rw [h9]; decide) (by rw [h9]; decide) (by rw [h9]; decide) (by decide) ?_
    refine pm_aload_n dX8_told_108 rfl rfl ?_
    refine fg_8_8 (y := zX8_told) (Or.inl tw_447) dX8_told_109 (fun r11 => ?_)
    refine fg_0_6 (y := zX8_told) (Or.inr tw_369) dX8_told_112 (fun x12 => ?_)
    exact pm_iret rfl dX8_told_115
  refine pm_case (c := (5 : Int32)) (fun h9 => ?_) (fun h9_5 => ?_)
  · refine pm_swIn (off := (96)) (tgt := 116) dX8_told_20 (by rw [h9]; decide) (by rw [h9]; decide) (by rw [h9]; decide) (by decide) ?_
    refine pm_aload_n dX8_told_116 rfl rfl ?_
    refine fg_8_8 (y := zX8_told) (Or.inl tw_447) dX8_told_117 (fun r13 => ?_)
    refine fg_0_4 (y := zX8_told) (Or.inr tw_365) dX8_told_120 (fun x14 => ?_)
    exact pm_iret rfl dX8_told_123
  refine pm_case (c := (6 : Int32)) (fun h9 => ?_) (fun h9_6 => ?_)
  · refine pm_swIn (off := (104)) (tgt := 124) dX8_told_20 (by rw [h9]; decide) (by rw [h9]; decide) (by rw [h9]; decide) (by decide) ?_
    refine pm_aload_n dX8_told_124 rfl rfl ?_
    refine fg_8_8 (y := zX8_told) (Or.inl tw_447) dX8_told_125 (fun r15 => ?_)
    refine fg_0_7 (y := zX8_told) (Or.inr tw_371) dX8_told_128 (fun x16 => ?_)
    exact pm_iret rfl dX8_told_131
  refine pm_case (c := (7 : Int32)) (fun h9 => ?_) (fun h9_7 => ?_)
  · refine pm_swIn (off := (112)) (tgt := 132) dX8_told_20 (by rw [h9]; decide) (by rw [h9]; decide) (by rw [h9]; decide) (by decide) ?_
    refine pm_aload_n dX8_told_132 rfl rfl ?_
    refine fg_8_8 (y := zX8_told) (Or.inl tw_447) dX8_told_133 (fun r17 => ?_)
    refine pm_rcv (fun hb9 hc9 => ?_)
    refine pm_kI (d := d + 2) rfl (pm_VN (y := zX8_told) (z := zX0_inAllCells) (As := []) zkX0_inAllCells pm_q0 (by decide) tw_1076 tw_1078 tw_78 dX8_told_136 rfl rfl (Nat.le_of_ble_eq_true rfl) hb9 hc9) (kcX0_inAllCells (d := d + 2) hfl r17 m1) (fun x19 m18 => ?_)
    exact pm_iret rfl dX8_told_139
  refine pm_case (c := (8 : Int32)) (fun h9 => ?_) (fun h9_8 => ?_)
  · refine pm_swIn (off := (120)) (tgt := 140) dX8_told_20 (by rw [h9]; decide) (by rw [h9]; decide) (by rw [h9]; decide) (by decide) ?_
    refine pm_aload_n dX8_told_140 rfl rfl ?_
    refine fg_8_5 (y := zX8_told) (Or.inl tw_444) dX8_told_141 (fun r20 => ?_)
    refine fg_3_1 (y := zX8_told) (Or.inr tw_305) dX8_told_144 (fun x21 => ?_)
    exact pm_iret rfl dX8_told_147
  refine pm_case (c := (9 : Int32)) (fun h9 => ?_) (fun h9_9 => ?_)
  · refine pm_swIn (off := (128)) (tgt := 148) dX8_told_20 (by rw [h9]; decide) (by rw [h9]; decide) (by rw [h9]; decide) (by decide) ?_
    refine pm_aload_n dX8_told_148 rfl rfl ?_
    refine fg_8_12 (y := zX8_told) (Or.inl tw_451) dX8_told_149 (fun x22 => ?_)
    exact pm_iret rfl dX8_told_152
  refine pm_swOut (tgt := 153) dX8_told_20 (pm_swx l1 (0) 10 (lt_s (lt_s (lt_s (lt_s (lt_s (lt_s (lt_s (lt_s (lt_s (lt_s (lt_0) (pm_ne h9_0 (by decide))) (pm_ne h9_1 (by decide))) (pm_ne h9_2 (by decide))) (pm_ne h9_3 (by decide))) (pm_ne h9_4 (by decide))) (pm_ne h9_5 (by decide))) (pm_ne h9_6 (by decide))) (pm_ne h9_7 (by decide))) (pm_ne h9_8 (by decide))) (pm_ne h9_9 (by decide)))) (by decide) ?_
  refine pm_aload_n dX8_told_153 rfl rfl ?_
  refine pm_rcv (fun hb9 hc9 => ?_)
  refine pm_kI (d := d + 2) rfl (pm_V (y := zX8_told) (z := zX8_emptyLines) (As := []) zkX8_emptyLines pm_q8 (by decide) tw_1080 tw_1082 tw_79 dX8_told_154 rfl rfl (Nat.le_of_ble_eq_true rfl) hb9 hc9) (kcX8_emptyLines (d := d + 0) hfl l0 m1) (fun x24 m23 => ?_)
  exact pm_iret rfl dX8_told_157
set_option maxRecDepth 100000 in
set_option maxHeartbeats 4000000 in
theorem gX8_told_j15 (hfl : l.flags = flags0) (l0 : Nat) (l1 : Int32) (t0 : Nat) (m : pmM) : pm_G l Γ zX8_told (d + 3) 15 [.ref l0, .int l1] [.ref t0] m (X8_told_j15 l0 l1 t0 m) := by
  unfold X8_told_j15
  refine pm_iconst (v := 0) dX8_told_15 ki_0 ?_
  exact gX8_told_j16 hfl l0 l1 0 t0 m
set_option maxRecDepth 100000 in
set_option maxHeartbeats 4000000 in
theorem kcX8_told (hfl : l.flags = flags0) (a0 : Nat) (a1 : Int32) (m : pmM) : pm_C l Γ zX8_told (d + 3) [.ref a0, .int a1] m (X8_told a0 a1 m) := by
  refine pm_enter (ls := [.ref a0, .int a1]) hfl (by decide +kernel) rfl (Nat.le_of_ble_eq_true rfl) rfl (Nat.le_of_ble_eq_true rfl) ?_
  unfold X8_told
  refine pm_aload_n dX8_told_0 rfl rfl ?_
  refine pm_iload_n dX8_told_1 rfl rfl ?_
  refine pm_if_lt (tgt := 15) dX8_told_2 rfl ?_ ?_
  · exact gX8_told_j15 hfl a0 a1 a0 m
  · refine pm_iload_n dX8_told_5 rfl rfl ?_
    refine pm_bipush (v := 10) dX8_told_6 kb_10 ?_
    refine pm_icmp_gt (tgt := 15) dX8_told_8 rfl ?_ ?_
    · exact gX8_told_j15 hfl a0 a1 a0 m
    · refine pm_iconst (v := 1) dX8_told_11 ki_1 ?_
      refine pm_goto (tgt := 16) dX8_told_12 rfl ?_
      exact gX8_told_j16 hfl a0 a1 1 a0 m
-- StruckPage.mustBeLine(I)V
def X8_mustBeLine (a0 : Nat) (a1 : Int32) (m : pmM) : pmR := pm_gR 8 a0 1 m fun r1 => pm_rc 2 r1 m <| pm_cI (X2_hasLine r1 a1 m) fun x3 m2 => if x3 = 0 then (pm_gI 8 a0 13 m2 fun x4 => pm_pI 8 a0 13 (x4 + 1) m2 fun m5 => some (.inr 0, pm_al m5 (199, 0, fun _ => none) 6)) else (pm_oV m2)
set_option maxRecDepth 100000 in
set_option maxHeartbeats 4000000 in
theorem kcX8_mustBeLine (hfl : l.flags = flags0) (a0 : Nat) (a1 : Int32) (m : pmM) : pm_C l Γ zX8_mustBeLine (d + 1) [.ref a0, .int a1] m (X8_mustBeLine a0 a1 m) := by
  refine pm_enter (ls := [.ref a0, .int a1]) hfl (by decide +kernel) rfl (Nat.le_of_ble_eq_true rfl) rfl (Nat.le_of_ble_eq_true rfl) ?_
  unfold X8_mustBeLine
  refine pm_aload_n dX8_mustBeLine_0 rfl rfl ?_
  refine fg_8_1 (y := zX8_mustBeLine) (Or.inl tw_440) dX8_mustBeLine_1 (fun r1 => ?_)
  refine pm_iload_n dX8_mustBeLine_4 rfl rfl ?_
  refine pm_rcv (fun hb9 hc9 => ?_)
  refine pm_kI (d := d + 0) rfl (pm_VN (y := zX8_mustBeLine) (z := zX2_hasLine) (As := [.int a1]) zkX2_hasLine pm_q2 (by decide) tw_1100 tw_570 tw_11 dX8_mustBeLine_5 rfl rfl (Nat.le_of_ble_eq_true rfl) hb9 hc9) (kcX2_hasLine (d := d + 0) hfl r1 a1 m) (fun x3 m2 => ?_)
  refine pm_if_ne (tgt := 32) dX8_mustBeLine_8 rfl ?_ ?_
  · exact pm_vret rfl dX8_mustBeLine_32
  · refine pm_aload_n dX8_mustBeLine_11 rfl rfl ?_
    refine pm_dup dX8_mustBeLine_12 rfl ?_
    refine fg_8_13 (y := zX8_mustBeLine) (Or.inl tw_452) dX8_mustBeLine_13 (fun x4 => ?_)
    refine pm_iconst (v := 1) dX8_mustBeLine_16 ki_1 ?_
    refine pm_iadd dX8_mustBeLine_17 ?_
    refine fp_8_13 (y := zX8_mustBeLine) (Or.inl tw_452) dX8_mustBeLine_18 (fun m5 => ?_)
    exact pm_throwNW (y := zX8_mustBeLine) (ik := 360) (is := 362) (ic := 364) (text := "no such line") rfl px_362 (Nat.le_of_ble_eq_true rfl) dX8_mustBeLine_21 dX8_mustBeLine_24 dX8_mustBeLine_25 dX8_mustBeLine_28 dX8_mustBeLine_31
-- StruckPage.line(II)I
def X8_line_j20 (l0 : Nat) (l1 : Int32) (l2 : Int32) (t0 : Int32) (t1 : Nat) (m : pmM) : pmR := pm_rc 8 t1 m <| pm_cV (X8_must t1 t0 m) fun m2 => if l2 = (0 : Int32) then (pm_gR 8 l0 1 m2 fun r3 => pm_gR 2 r3 0 m2 fun r4 => pm_ld 100 r4 l1 m2 fun x5 => pm_oI x5 m2) else if l2 = (1 : Int32) then (pm_gR 8 l0 8 m2 fun r6 => pm_rc 0 r6 m2 <| pm_cI (X0_leftIn r6 l1 m2) fun x8 m7 => pm_oI x8 m7) else if l2 = (2 : Int32) then (pm_gR 8 l0 8 m2 fun r9 => pm_gR 0 r9 2 m2 fun r10 => pm_ld 100 r10 l1 m2 fun x11 => pm_oI x11 m2) else if l2 = (3 : Int32) then (pm_gR 8 l0 8 m2 fun r12 => pm_rc 0 r12 m2 <| pm_cI (X0_firstLeft r12 l1 m2) fun x14 m13 => pm_oI x14 m13) else (pm_gR 8 l0 8 m2 fun r15 => pm_rc 0 r15 m2 <| pm_cI (X0_sumOfLeft r15 l1 m2) fun x17 m16 => pm_oI x17 m16)
def X8_line_j19 (l0 : Nat) (l1 : Int32) (l2 : Int32) (t0 : Nat) (m : pmM) : pmR := X8_line_j20 l0 l1 l2 0 t0 m
def X8_line (a0 : Nat) (a1 : Int32) (a2 : Int32) (m : pmM) : pmR := pm_rc 8 a0 m <| pm_cV (X8_mustBeLine a0 a1 m) fun m1 => if a2 < 0 then (X8_line_j19 a0 a1 a2 a0 m1) else (if (4 : Int32) < a2 then (X8_line_j19 a0 a1 a2 a0 m1) else (X8_line_j20 a0 a1 a2 1 a0 m1))
set_option maxRecDepth 100000 in
set_option maxHeartbeats 4000000 in
theorem gX8_line_j20 (hfl : l.flags = flags0) (l0 : Nat) (l1 : Int32) (l2 : Int32) (t0 : Int32) (t1 : Nat) (m : pmM) : pm_G l Γ zX8_line (d + 3) 20 [.ref l0, .int l1, .int l2] [.int t0, .ref t1] m (X8_line_j20 l0 l1 l2 t0 t1 m) := by
  unfold X8_line_j20
  refine pm_rcv (fun hb9 hc9 => ?_)
  refine pm_kV (d := d + 2) rfl (pm_V (y := zX8_line) (z := zX8_must) (As := [.int t0]) zkX8_must pm_q8 (by decide) tw_684 tw_686 tw_30 dX8_line_20 rfl rfl (Nat.le_of_ble_eq_true rfl) hb9 hc9) (kcX8_must (d := d + 2) hfl t1 t0 m) (fun m2 => ?_)
  refine pm_iload_n dX8_line_23 rfl rfl ?_
  refine pm_case (c := (0 : Int32)) (fun h9 => ?_) (fun h9_0 => ?_)
  · refine pm_swIn (off := (32)) (tgt := 56) dX8_line_24 (by rw [h9]; decide) (by rw [h9]; decide) (by rw [h9]; decide) (by decide) ?_
    refine pm_aload_n dX8_line_56 rfl rfl ?_
    refine fg_8_1 (y := zX8_line) (Or.inl tw_440) dX8_line_57 (fun r3 => ?_)
    refine fg_2_0 (y := zX8_line) (Or.inr tw_240) dX8_line_60 (fun r4 => ?_)
    refine pm_iload_n dX8_line_63 rfl rfl ?_
    refine pm_iald (y := zX8_line) dX8_line_64 (fun x5 => ?_)
    exact pm_iret rfl dX8_line_65
  refine pm_case (c := (1 : Int32)) (fun h9 => ?_) (fun h9_1 => ?_)
  · refine pm_swIn (off := (42)) (tgt := 66) dX8_line_24 (by rw [h9]; decide) (by rw [h9]; decide) (by rw [h9]; decide) (by decide) ?_
    refine pm_aload_n dX8_line_66 rfl rfl ?_
    refine fg_8_8 (y := zX8_line) (Or.inl tw_447) dX8_line_67 (fun r6 => ?_)
    refine pm_iload_n dX8_line_70 rfl rfl ?_
    refine pm_rcv (fun hb9 hc9 => ?_)
    refine pm_kI (d := d + 2) rfl (pm_VN (y := zX8_line) (z := zX0_leftIn) (As := [.int l1]) zkX0_leftIn pm_q0 (by decide) tw_1084 tw_1086 tw_80 dX8_line_71 rfl rfl (Nat.le_of_ble_eq_true rfl) hb9 hc9) (kcX0_leftIn (d := d + 1) hfl r6 l1 m2) (fun x8 m7 => ?_)
    exact pm_iret rfl dX8_line_74
  refine pm_case (c := (2 : Int32)) (fun h9 => ?_) (fun h9_2 => ?_)
  · refine pm_swIn (off := (51)) (tgt := 75) dX8_line_24 (by rw [h9]; decide) (by rw [h9]; decide) (by rw [h9]; decide) (by decide) ?_
    refine pm_aload_n dX8_line_75 rfl rfl ?_
    refine fg_8_8 (y := zX8_line) (Or.inl tw_447) dX8_line_76 (fun r9 => ?_)
    refine fg_0_2 (y := zX8_line) (Or.inr tw_361) dX8_line_79 (fun r10 => ?_)
    refine pm_iload_n dX8_line_82 rfl rfl ?_
    refine pm_iald (y := zX8_line) dX8_line_83 (fun x11 => ?_)
    exact pm_iret rfl dX8_line_84
  refine pm_case (c := (3 : Int32)) (fun h9 => ?_) (fun h9_3 => ?_)
  · refine pm_swIn (off := (61)) (tgt := 85) dX8_line_24 (by rw [h9]; decide) (by rw [h9]; decide) (by rw [h9]; decide) (by decide) ?_
    refine pm_aload_n dX8_line_85 rfl rfl ?_
    refine fg_8_8 (y := zX8_line) (Or.inl tw_447) dX8_line_86 (fun r12 => ?_)
    refine pm_iload_n dX8_line_89 rfl rfl ?_
    refine pm_rcv (fun hb9 hc9 => ?_)
    refine pm_kI (d := d + 2) rfl (pm_VN (y := zX8_line) (z := zX0_firstLeft) (As := [.int l1]) zkX0_firstLeft pm_q0 (by decide) tw_1117 tw_1119 tw_82 dX8_line_90 rfl rfl (Nat.le_of_ble_eq_true rfl) hb9 hc9) (kcX0_firstLeft (d := d + 0) hfl r12 l1 m2) (fun x14 m13 => ?_)
    exact pm_iret rfl dX8_line_93
  refine pm_swOut (tgt := 94) dX8_line_24 (pm_swx l2 (0) 4 (lt_s (lt_s (lt_s (lt_s (lt_0) (pm_ne h9_0 (by decide))) (pm_ne h9_1 (by decide))) (pm_ne h9_2 (by decide))) (pm_ne h9_3 (by decide)))) (by decide) ?_
  refine pm_aload_n dX8_line_94 rfl rfl ?_
  refine fg_8_8 (y := zX8_line) (Or.inl tw_447) dX8_line_95 (fun r15 => ?_)
  refine pm_iload_n dX8_line_98 rfl rfl ?_
  refine pm_rcv (fun hb9 hc9 => ?_)
  refine pm_kI (d := d + 2) rfl (pm_VN (y := zX8_line) (z := zX0_sumOfLeft) (As := [.int l1]) zkX0_sumOfLeft pm_q0 (by decide) tw_1121 tw_1123 tw_83 dX8_line_99 rfl rfl (Nat.le_of_ble_eq_true rfl) hb9 hc9) (kcX0_sumOfLeft (d := d + 0) hfl r15 l1 m2) (fun x17 m16 => ?_)
  exact pm_iret rfl dX8_line_102
set_option maxRecDepth 100000 in
set_option maxHeartbeats 4000000 in
theorem gX8_line_j19 (hfl : l.flags = flags0) (l0 : Nat) (l1 : Int32) (l2 : Int32) (t0 : Nat) (m : pmM) : pm_G l Γ zX8_line (d + 3) 19 [.ref l0, .int l1, .int l2] [.ref t0] m (X8_line_j19 l0 l1 l2 t0 m) := by
  unfold X8_line_j19
  refine pm_iconst (v := 0) dX8_line_19 ki_0 ?_
  exact gX8_line_j20 hfl l0 l1 l2 0 t0 m
set_option maxRecDepth 100000 in
set_option maxHeartbeats 4000000 in
theorem kcX8_line (hfl : l.flags = flags0) (a0 : Nat) (a1 : Int32) (a2 : Int32) (m : pmM) : pm_C l Γ zX8_line (d + 3) [.ref a0, .int a1, .int a2] m (X8_line a0 a1 a2 m) := by
  refine pm_enter (ls := [.ref a0, .int a1, .int a2]) hfl (by decide +kernel) rfl (Nat.le_of_ble_eq_true rfl) rfl (Nat.le_of_ble_eq_true rfl) ?_
  unfold X8_line
  refine pm_aload_n dX8_line_0 rfl rfl ?_
  refine pm_iload_n dX8_line_1 rfl rfl ?_
  refine pm_rcv (fun hb9 hc9 => ?_)
  refine pm_kV (d := d + 2) rfl (pm_V (y := zX8_line) (z := zX8_mustBeLine) (As := [.int a1]) zkX8_mustBeLine pm_q8 (by decide) tw_1096 tw_1098 tw_81 dX8_line_2 rfl rfl (Nat.le_of_ble_eq_true rfl) hb9 hc9) (kcX8_mustBeLine (d := d + 1) hfl a0 a1 m) (fun m1 => ?_)
  refine pm_aload_n dX8_line_5 rfl rfl ?_
  refine pm_iload_n dX8_line_6 rfl rfl ?_
  refine pm_if_lt (tgt := 19) dX8_line_7 rfl ?_ ?_
  · exact gX8_line_j19 hfl a0 a1 a2 a0 m1
  · refine pm_iload_n dX8_line_10 rfl rfl ?_
    refine pm_iconst (v := 4) dX8_line_11 ki_4 ?_
    refine pm_icmp_gt (tgt := 19) dX8_line_12 rfl ?_ ?_
    · exact gX8_line_j19 hfl a0 a1 a2 a0 m1
    · refine pm_iconst (v := 1) dX8_line_15 ki_1 ?_
      refine pm_goto (tgt := 20) dX8_line_16 rfl ?_
      exact gX8_line_j20 hfl a0 a1 a2 1 a0 m1
-- StruckPage.mustBeWord(II)V
def X8_mustBeWord (a0 : Nat) (a1 : Int32) (a2 : Int32) (m : pmM) : pmR := pm_gR 8 a0 1 m fun r1 => pm_rc 2 r1 m <| pm_cI (X2_hasWord r1 a1 a2 m) fun x3 m2 => if x3 = 0 then (pm_gI 8 a0 13 m2 fun x4 => pm_pI 8 a0 13 (x4 + 1) m2 fun m5 => some (.inr 0, pm_al m5 (199, 0, fun _ => none) 6)) else (pm_oV m2)
set_option maxRecDepth 100000 in
set_option maxHeartbeats 4000000 in
theorem kcX8_mustBeWord (hfl : l.flags = flags0) (a0 : Nat) (a1 : Int32) (a2 : Int32) (m : pmM) : pm_C l Γ zX8_mustBeWord (d + 1) [.ref a0, .int a1, .int a2] m (X8_mustBeWord a0 a1 a2 m) := by
  refine pm_enter (ls := [.ref a0, .int a1, .int a2]) hfl (by decide +kernel) rfl (Nat.le_of_ble_eq_true rfl) rfl (Nat.le_of_ble_eq_true rfl) ?_
  unfold X8_mustBeWord
  refine pm_aload_n dX8_mustBeWord_0 rfl rfl ?_
  refine fg_8_1 (y := zX8_mustBeWord) (Or.inl tw_440) dX8_mustBeWord_1 (fun r1 => ?_)
  refine pm_iload_n dX8_mustBeWord_4 rfl rfl ?_
  refine pm_iload_n dX8_mustBeWord_5 rfl rfl ?_
  refine pm_rcv (fun hb9 hc9 => ?_)
  refine pm_kI (d := d + 0) rfl (pm_VN (y := zX8_mustBeWord) (z := zX2_hasWord) (As := [.int a1, .int a2]) zkX2_hasWord pm_q2 (by decide) tw_1136 tw_601 tw_17 dX8_mustBeWord_6 rfl rfl (Nat.le_of_ble_eq_true rfl) hb9 hc9) (kcX2_hasWord (d := d + 0) hfl r1 a1 a2 m) (fun x3 m2 => ?_)
  refine pm_if_ne (tgt := 33) dX8_mustBeWord_9 rfl ?_ ?_
  · exact pm_vret rfl dX8_mustBeWord_33
  · refine pm_aload_n dX8_mustBeWord_12 rfl rfl ?_
    refine pm_dup dX8_mustBeWord_13 rfl ?_
    refine fg_8_13 (y := zX8_mustBeWord) (Or.inl tw_452) dX8_mustBeWord_14 (fun x4 => ?_)
    refine pm_iconst (v := 1) dX8_mustBeWord_17 ki_1 ?_
    refine pm_iadd dX8_mustBeWord_18 ?_
    refine fp_8_13 (y := zX8_mustBeWord) (Or.inl tw_452) dX8_mustBeWord_19 (fun m5 => ?_)
    exact pm_throwNW (y := zX8_mustBeWord) (ik := 360) (is := 368) (ic := 364) (text := "no such word") rfl px_368 (Nat.le_of_ble_eq_true rfl) dX8_mustBeWord_22 dX8_mustBeWord_25 dX8_mustBeWord_26 dX8_mustBeWord_29 dX8_mustBeWord_32
-- StruckPage.word(III)I
def X8_word_j55 (t0 : Int32) (m : pmM) : pmR := pm_oI t0 m
def X8_word_j21 (l0 : Nat) (l1 : Int32) (l2 : Int32) (l3 : Int32) (t0 : Int32) (t1 : Nat) (m : pmM) : pmR := pm_rc 8 t1 m <| pm_cV (X8_must t1 t0 m) fun m2 => if l3 = 0 then (pm_gR 8 l0 1 m2 fun r6 => pm_rc 2 r6 m2 <| pm_cI (X2_wordAt r6 l1 l2 m2) fun x8 m7 => pm_oI x8 m7) else (pm_gR 8 l0 8 m2 fun r3 => pm_rc 0 r3 m2 <| pm_cI (X0_isLeft r3 l1 l2 m2) fun x5 m4 => if x5 = 0 then (X8_word_j55 1 m4) else (X8_word_j55 0 m4))
def X8_word_j16 (l0 : Nat) (l1 : Int32) (l2 : Int32) (l3 : Int32) (t0 : Nat) (m : pmM) : pmR := X8_word_j21 l0 l1 l2 l3 1 t0 m
def X8_word (a0 : Nat) (a1 : Int32) (a2 : Int32) (a3 : Int32) (m : pmM) : pmR := pm_rc 8 a0 m <| pm_cV (X8_mustBeWord a0 a1 a2 m) fun m1 => if a3 = 0 then (X8_word_j16 a0 a1 a2 a3 a0 m1) else (if a3 = 1 then (X8_word_j16 a0 a1 a2 a3 a0 m1) else (X8_word_j21 a0 a1 a2 a3 0 a0 m1))
set_option maxRecDepth 100000 in
set_option maxHeartbeats 4000000 in
theorem gX8_word_j55 (hfl : l.flags = flags0) (t0 : Int32) (m : pmM) : pm_G l Γ zX8_word (d + 2) 55 [pmU, pmU, pmU, pmU] [.int t0] m (X8_word_j55 t0 m) := by
  unfold X8_word_j55
  exact pm_iret rfl dX8_word_55
set_option maxRecDepth 100000 in
set_option maxHeartbeats 4000000 in
theorem gX8_word_j21 (hfl : l.flags = flags0) (l0 : Nat) (l1 : Int32) (l2 : Int32) (l3 : Int32) (t0 : Int32) (t1 : Nat) (m : pmM) : pm_G l Γ zX8_word (d + 2) 21 [.ref l0, .int l1, .int l2, .int l3] [.int t0, .ref t1] m (X8_word_j21 l0 l1 l2 l3 t0 t1 m) := by
  unfold X8_word_j21
  refine pm_rcv (fun hb9 hc9 => ?_)
  refine pm_kV (d := d + 1) rfl (pm_V (y := zX8_word) (z := zX8_must) (As := [.int t0]) zkX8_must pm_q8 (by decide) tw_684 tw_686 tw_30 dX8_word_21 rfl rfl (Nat.le_of_ble_eq_true rfl) hb9 hc9) (kcX8_must (d := d + 1) hfl t1 t0 m) (fun m2 => ?_)
  refine pm_iload_n dX8_word_24 rfl rfl ?_
  refine pm_if_ne (tgt := 38) dX8_word_25 rfl ?_ ?_
  · refine pm_aload_n dX8_word_38 rfl rfl ?_
    refine fg_8_8 (y := zX8_word) (Or.inl tw_447) dX8_word_39 (fun r3 => ?_)
    refine pm_iload_n dX8_word_42 rfl rfl ?_
    refine pm_iload_n dX8_word_43 rfl rfl ?_
    refine pm_rcv (fun hb9 hc9 => ?_)
    refine pm_kI (d := d + 1) rfl (pm_VN (y := zX8_word) (z := zX0_isLeft) (As := [.int l1, .int l2]) zkX0_isLeft pm_q0 (by decide) tw_1139 tw_638 tw_23 dX8_word_44 rfl rfl (Nat.le_of_ble_eq_true rfl) hb9 hc9) (kcX0_isLeft (d := d + 0) hfl r3 l1 l2 m2) (fun x5 m4 => ?_)
    refine pm_if_eq (tgt := 54) dX8_word_47 rfl ?_ ?_
    · refine pm_iconst (v := 1) dX8_word_54 ki_1 ?_
      refine pm_drop (ls2 := [pmU, pmU, pmU, pmU]) (Nat.le_refl _) (pm_le_spec (pm_le_u (pm_le_u (pm_le_u (pm_le_u (pm_le_n)))))) ?_
      exact gX8_word_j55 hfl 1 m4
    · refine pm_iconst (v := 0) dX8_word_50 ki_0 ?_
      refine pm_goto (tgt := 55) dX8_word_51 rfl ?_
      refine pm_drop (ls2 := [pmU, pmU, pmU, pmU]) (Nat.le_refl _) (pm_le_spec (pm_le_u (pm_le_u (pm_le_u (pm_le_u (pm_le_n)))))) ?_
      exact gX8_word_j55 hfl 0 m4
  · refine pm_aload_n dX8_word_28 rfl rfl ?_
    refine fg_8_1 (y := zX8_word) (Or.inl tw_440) dX8_word_29 (fun r6 => ?_)
    refine pm_iload_n dX8_word_32 rfl rfl ?_
    refine pm_iload_n dX8_word_33 rfl rfl ?_
    refine pm_rcv (fun hb9 hc9 => ?_)
    refine pm_kI (d := d + 1) rfl (pm_VN (y := zX8_word) (z := zX2_wordAt) (As := [.int l1, .int l2]) zkX2_wordAt pm_q2 (by decide) tw_1138 tw_579 tw_13 dX8_word_34 rfl rfl (Nat.le_of_ble_eq_true rfl) hb9 hc9) (kcX2_wordAt (d := d + 1) hfl r6 l1 l2 m2) (fun x8 m7 => ?_)
    exact pm_iret rfl dX8_word_37
set_option maxRecDepth 100000 in
set_option maxHeartbeats 4000000 in
theorem gX8_word_j16 (hfl : l.flags = flags0) (l0 : Nat) (l1 : Int32) (l2 : Int32) (l3 : Int32) (t0 : Nat) (m : pmM) : pm_G l Γ zX8_word (d + 2) 16 [.ref l0, .int l1, .int l2, .int l3] [.ref t0] m (X8_word_j16 l0 l1 l2 l3 t0 m) := by
  unfold X8_word_j16
  refine pm_iconst (v := 1) dX8_word_16 ki_1 ?_
  refine pm_goto (tgt := 21) dX8_word_17 rfl ?_
  exact gX8_word_j21 hfl l0 l1 l2 l3 1 t0 m
set_option maxRecDepth 100000 in
set_option maxHeartbeats 4000000 in
theorem kcX8_word (hfl : l.flags = flags0) (a0 : Nat) (a1 : Int32) (a2 : Int32) (a3 : Int32) (m : pmM) : pm_C l Γ zX8_word (d + 2) [.ref a0, .int a1, .int a2, .int a3] m (X8_word a0 a1 a2 a3 m) := by
  refine pm_enter (ls := [.ref a0, .int a1, .int a2, .int a3]) hfl (by decide +kernel) rfl (Nat.le_of_ble_eq_true rfl) rfl (Nat.le_of_ble_eq_true rfl) ?_
  unfold X8_word
  refine pm_aload_n dX8_word_0 rfl rfl ?_
  refine pm_iload_n dX8_word_1 rfl rfl ?_
  refine pm_iload_n dX8_word_2 rfl rfl ?_
  refine pm_rcv (fun hb9 hc9 => ?_)
  refine pm_kV (d := d + 1) rfl (pm_V (y := zX8_word) (z := zX8_mustBeWord) (As := [.int a1, .int a2]) zkX8_mustBeWord pm_q8 (by decide) tw_1132 tw_1134 tw_84 dX8_word_3 rfl rfl (Nat.le_of_ble_eq_true rfl) hb9 hc9) (kcX8_mustBeWord (d := d + 0) hfl a0 a1 a2 m) (fun m1 => ?_)
  refine pm_aload_n dX8_word_6 rfl rfl ?_
  refine pm_iload_n dX8_word_7 rfl rfl ?_
  refine pm_if_eq (tgt := 16) dX8_word_8 rfl ?_ ?_
  · exact gX8_word_j16 hfl a0 a1 a2 a3 a0 m1
  · refine pm_iload_n dX8_word_11 rfl rfl ?_
    refine pm_iconst (v := 1) dX8_word_12 ki_1 ?_
    refine pm_icmp_ne (tgt := 20) dX8_word_13 rfl ?_ ?_
    · refine pm_iconst (v := 0) dX8_word_20 ki_0 ?_
      exact gX8_word_j21 hfl a0 a1 a2 a3 0 a0 m1
    · exact gX8_word_j16 hfl a0 a1 a2 a3 a0 m1
-- StruckPage.reads(I)I
def X8_reads_j77 (again17 : (Int32 × Int32 × pmM) → pmR) (again31 : (Int32 × Int32 × pmM) → pmR) (l0 : Nat) (l1 : Int32) (l2 : Int32) (l3 : Int32) (l4 : Int32) (m : pmM) : pmR := pm_bI (l4 + 1) fun x11 => again31 (l2, x11, m)
def X8_reads_L31 (again17 : (Int32 × Int32 × pmM) → pmR) (l0 : Nat) (l1 : Int32) (l3 : Int32) (again31 : (Int32 × Int32 × pmM) → pmR) (s31 : Int32 × Int32 × pmM) : pmR := pm_gR 8 l0 1 s31.2.2 fun r4 => pm_gR 2 r4 0 s31.2.2 fun r5 => pm_ld 100 r5 l3 s31.2.2 fun x6 => if x6 ≤ s31.2.1 then (pm_bI (l3 + 1) fun x7 => again17 (s31.1, x7, s31.2.2)) else (pm_gR 8 l0 8 s31.2.2 fun r8 => pm_rc 0 r8 s31.2.2 <| pm_cI (X0_isLeft r8 l3 s31.2.1 s31.2.2) fun x10 m9 => if x10 = 0 then (X8_reads_j77 again17 again31 l0 l1 s31.1 l3 s31.2.1 m9) else (if s31.1 = l1 then (pm_gR 8 l0 1 m9 fun r13 => pm_rc 2 r13 m9 <| pm_cI (X2_wordAt r13 l3 s31.2.1 m9) fun x15 m14 => pm_oI x15 m14) else (pm_bI (s31.1 + 1) fun x12 => X8_reads_j77 again17 again31 l0 l1 x12 l3 s31.2.1 m9)))
def X8_reads_L17 (l0 : Nat) (l1 : Int32) (again17 : (Int32 × Int32 × pmM) → pmR) (s17 : Int32 × Int32 × pmM) : pmR := pm_gR 8 l0 1 s17.2.2 fun r2 => pm_gI 2 r2 3 s17.2.2 fun x3 => if x3 ≤ s17.2.1 then (pm_oI (-1) s17.2.2) else (pm_lp pm_N (X8_reads_L31 again17 l0 l1 s17.2.1) (s17.1, 0, s17.2.2))
def X8_reads_j10 (l0 : Nat) (l1 : Int32) (t0 : Int32) (t1 : Nat) (m : pmM) : pmR := pm_rc 8 t1 m <| pm_cV (X8_must t1 t0 m) fun m1 => pm_lp pm_N (X8_reads_L17 l0 l1) (0, 0, m1)
def X8_reads (a0 : Nat) (a1 : Int32) (m : pmM) : pmR := if a1 < 0 then (X8_reads_j10 a0 a1 0 a0 m) else (X8_reads_j10 a0 a1 1 a0 m)
set_option maxRecDepth 100000 in
set_option maxHeartbeats 4000000 in
theorem gX8_reads_j77 (hfl : l.flags = flags0) (again17 : (Int32 × Int32 × pmM) → pmR) (again31 : (Int32 × Int32 × pmM) → pmR) (l0 : Nat) (l1 : Int32) (l2 : Int32) (l3 : Int32) (l4 : Int32) (m : pmM) (hag17 : ∀ s : Int32 × Int32 × pmM, pm_G l Γ zX8_reads (d + 2) 17 [.ref l0, .int l1, .int s.1, .int s.2.1, pmU] [] s.2.2 (again17 s)) (hag31 : ∀ s : Int32 × Int32 × pmM, pm_G l Γ zX8_reads (d + 2) 31 [.ref l0, .int l1, .int s.1, .int l3, .int s.2.1] [] s.2.2 (again31 s)) : pm_G l Γ zX8_reads (d + 2) 77 [.ref l0, .int l1, .int l2, .int l3, .int l4] [] m (X8_reads_j77 again17 again31 l0 l1 l2 l3 l4 m) := by
  unfold X8_reads_j77
  refine pm_iincn (y := zX8_reads) dX8_reads_77 rfl ki_1 rfl (Nat.le_of_ble_eq_true rfl) (fun x11 => ?_)
  refine pm_eqls (ls2 := [.ref l0, .int l1, .int l2, .int l3, .int x11]) rfl ?_
  refine pm_goto (tgt := 31) dX8_reads_80 rfl ?_
  exact hag31 (l2, x11, m)
set_option maxRecDepth 100000 in
set_option maxHeartbeats 4000000 in
theorem gX8_reads_L31 (hfl : l.flags = flags0) (again17 : (Int32 × Int32 × pmM) → pmR) (l0 : Nat) (l1 : Int32) (l3 : Int32) (hag17 : ∀ s : Int32 × Int32 × pmM, pm_G l Γ zX8_reads (d + 2) 17 [.ref l0, .int l1, .int s.1, .int s.2.1, pmU] [] s.2.2 (again17 s)) : ∀ (n : Nat) (s : Int32 × Int32 × pmM), pm_G l Γ zX8_reads (d + 2) 31 [.ref l0, .int l1, .int s.1, .int l3, .int s.2.1] [] s.2.2 (pm_lp n (X8_reads_L31 again17 l0 l1 l3) s) :=
  pm_loop (lsf := fun s : Int32 × Int32 × pmM => [.ref l0, .int l1, .int s.1, .int l3, .int s.2.1]) (mf := fun s : Int32 × Int32 × pmM => s.2.2) (fun again31 hag31 s31 => by
    unfold X8_reads_L31
    refine pm_iload dX8_reads_31 rfl ?_
    refine pm_aload_n dX8_reads_33 rfl rfl ?_
    refine fg_8_1 (y := zX8_reads) (Or.inl tw_440) dX8_reads_34 (fun r4 => ?_)
    refine fg_2_0 (y := zX8_reads) (Or.inr tw_240) dX8_reads_37 (fun r5 => ?_)
    refine pm_iload_n dX8_reads_40 rfl rfl ?_
    refine pm_iald (y := zX8_reads) dX8_reads_41 (fun x6 => ?_)
    refine pm_icmp_ge (tgt := 83) dX8_reads_42 rfl ?_ ?_
    · refine pm_iincn (y := zX8_reads) dX8_reads_83 rfl ki_1 rfl (Nat.le_of_ble_eq_true rfl) (fun x7 => ?_)
      refine pm_eqls (ls2 := [.ref l0, .int l1, .int s31.1, .int x7, .int s31.2.1]) rfl ?_
      refine pm_goto (tgt := 17) dX8_reads_86 rfl ?_
      refine pm_drop (ls2 := [.ref l0, .int l1, .int s31.1, .int x7, pmU]) (Nat.le_refl _) (pm_le_spec (pm_le_v (pm_le_v (pm_le_v (pm_le_v (pm_le_u (pm_le_n))))))) ?_
      exact hag17 (s31.1, x7, s31.2.2)
    · refine pm_aload_n dX8_reads_45 rfl rfl ?_
      refine fg_8_8 (y := zX8_reads) (Or.inl tw_447) dX8_reads_46 (fun r8 => ?_)
      refine pm_iload_n dX8_reads_49 rfl rfl ?_
      refine pm_iload dX8_reads_50 rfl ?_
      refine pm_rcv (fun hb9 hc9 => ?_)
      refine pm_kI (d := d + 1) rfl (pm_VN (y := zX8_reads) (z := zX0_isLeft) (As := [.int l3, .int s31.2.1]) zkX0_isLeft pm_q0 (by decide) tw_1139 tw_638 tw_23 dX8_reads_52 rfl rfl (Nat.le_of_ble_eq_true rfl) hb9 hc9) (kcX0_isLeft (d := d + 0) hfl r8 l3 s31.2.1 s31.2.2) (fun x10 m9 => ?_)
      refine pm_if_eq (tgt := 77) dX8_reads_55 rfl ?_ ?_
      · exact gX8_reads_j77 hfl again17 again31 l0 l1 s31.1 l3 s31.2.1 m9 hag17 hag31
      · refine pm_iload_n dX8_reads_58 rfl rfl ?_
        refine pm_iload_n dX8_reads_59 rfl rfl ?_
        refine pm_icmp_ne (tgt := 74) dX8_reads_60 rfl ?_ ?_
        · refine pm_iincn (y := zX8_reads) dX8_reads_74 rfl ki_1 rfl (Nat.le_of_ble_eq_true rfl) (fun x12 => ?_)
          refine pm_eqls (ls2 := [.ref l0, .int l1, .int x12, .int l3, .int s31.2.1]) rfl ?_
          exact gX8_reads_j77 hfl again17 again31 l0 l1 x12 l3 s31.2.1 m9 hag17 hag31
        · refine pm_aload_n dX8_reads_63 rfl rfl ?_
          refine fg_8_1 (y := zX8_reads) (Or.inl tw_440) dX8_reads_64 (fun r13 => ?_)
          refine pm_iload_n dX8_reads_67 rfl rfl ?_
          refine pm_iload dX8_reads_68 rfl ?_
          refine pm_rcv (fun hb9 hc9 => ?_)
          refine pm_kI (d := d + 1) rfl (pm_VN (y := zX8_reads) (z := zX2_wordAt) (As := [.int l3, .int s31.2.1]) zkX2_wordAt pm_q2 (by decide) tw_1138 tw_579 tw_13 dX8_reads_70 rfl rfl (Nat.le_of_ble_eq_true rfl) hb9 hc9) (kcX2_wordAt (d := d + 1) hfl r13 l3 s31.2.1 m9) (fun x15 m14 => ?_)
          exact pm_iret rfl dX8_reads_73)
set_option maxRecDepth 100000 in
set_option maxHeartbeats 4000000 in
theorem gX8_reads_L17 (hfl : l.flags = flags0) (l0 : Nat) (l1 : Int32) : ∀ (n : Nat) (s : Int32 × Int32 × pmM), pm_G l Γ zX8_reads (d + 2) 17 [.ref l0, .int l1, .int s.1, .int s.2.1, pmU] [] s.2.2 (pm_lp n (X8_reads_L17 l0 l1) s) :=
  pm_loop (lsf := fun s : Int32 × Int32 × pmM => [.ref l0, .int l1, .int s.1, .int s.2.1, pmU]) (mf := fun s : Int32 × Int32 × pmM => s.2.2) (fun again17 hag17 s17 => by
    unfold X8_reads_L17
    refine pm_iload_n dX8_reads_17 rfl rfl ?_
    refine pm_aload_n dX8_reads_18 rfl rfl ?_
    refine fg_8_1 (y := zX8_reads) (Or.inl tw_440) dX8_reads_19 (fun r2 => ?_)
    refine fg_2_3 (y := zX8_reads) (Or.inr tw_246) dX8_reads_22 (fun x3 => ?_)
    refine pm_icmp_ge (tgt := 89) dX8_reads_25 rfl ?_ ?_
    · refine pm_iconst (v := (-1)) dX8_reads_89 ki_n1 ?_
      exact pm_iret rfl dX8_reads_90
    · refine pm_iconst (v := 0) dX8_reads_28 ki_0 ?_
      refine pm_istore (ls2 := [.ref l0, .int l1, .int s17.1, .int s17.2.1, .int 0]) dX8_reads_29 rfl (Nat.le_of_ble_eq_true rfl) rfl ?_
      exact gX8_reads_L31 hfl again17 l0 l1 s17.2.1 hag17 pm_N (s17.1, 0, s17.2.2))
set_option maxRecDepth 100000 in
set_option maxHeartbeats 4000000 in
theorem gX8_reads_j10 (hfl : l.flags = flags0) (l0 : Nat) (l1 : Int32) (t0 : Int32) (t1 : Nat) (m : pmM) : pm_G l Γ zX8_reads (d + 2) 10 [.ref l0, .int l1, pmU, pmU, pmU] [.int t0, .ref t1] m (X8_reads_j10 l0 l1 t0 t1 m) := by
  unfold X8_reads_j10
  refine pm_rcv (fun hb9 hc9 => ?_)
  refine pm_kV (d := d + 1) rfl (pm_V (y := zX8_reads) (z := zX8_must) (As := [.int t0]) zkX8_must pm_q8 (by decide) tw_684 tw_686 tw_30 dX8_reads_10 rfl rfl (Nat.le_of_ble_eq_true rfl) hb9 hc9) (kcX8_must (d := d + 1) hfl t1 t0 m) (fun m1 => ?_)
  refine pm_iconst (v := 0) dX8_reads_13 ki_0 ?_
  refine pm_istore_n (ls2 := [.ref l0, .int l1, .int 0, pmU, pmU]) dX8_reads_14 rfl rfl (Nat.le_of_ble_eq_true rfl) rfl ?_
  refine pm_iconst (v := 0) dX8_reads_15 ki_0 ?_
  refine pm_istore_n (ls2 := [.ref l0, .int l1, .int 0, .int 0, pmU]) dX8_reads_16 rfl rfl (Nat.le_of_ble_eq_true rfl) rfl ?_
  exact gX8_reads_L17 hfl l0 l1 pm_N (0, 0, m1)
set_option maxRecDepth 100000 in
set_option maxHeartbeats 4000000 in
theorem kcX8_reads (hfl : l.flags = flags0) (a0 : Nat) (a1 : Int32) (m : pmM) : pm_C l Γ zX8_reads (d + 2) [.ref a0, .int a1] m (X8_reads a0 a1 m) := by
  refine pm_enter (ls := [.ref a0, .int a1, pmU, pmU, pmU]) hfl (by decide +kernel) rfl (Nat.le_of_ble_eq_true rfl) rfl (Nat.le_of_ble_eq_true rfl) ?_
  unfold X8_reads
  refine pm_aload_n dX8_reads_0 rfl rfl ?_
  refine pm_iload_n dX8_reads_1 rfl rfl ?_
  refine pm_if_lt (tgt := 9) dX8_reads_2 rfl ?_ ?_
  · refine pm_iconst (v := 0) dX8_reads_9 ki_0 ?_
    exact gX8_reads_j10 hfl a0 a1 0 a0 m
  · refine pm_iconst (v := 1) dX8_reads_5 ki_1 ?_
    refine pm_goto (tgt := 10) dX8_reads_6 rfl ?_
    exact gX8_reads_j10 hfl a0 a1 1 a0 m
-- StruckPage.cell(I)I
def X8_cell_j15 (l0 : Nat) (l1 : Int32) (t0 : Int32) (t1 : Nat) (m : pmM) : pmR := pm_rc 8 t1 m <| pm_cV (X8_must t1 t0 m) fun m1 => pm_gR 8 l0 8 m1 fun r2 => pm_gR 0 r2 3 m1 fun r3 => pm_ld 100 r3 l1 m1 fun x4 => pm_oI x4 m1
def X8_cell_j14 (l0 : Nat) (l1 : Int32) (t0 : Nat) (m : pmM) : pmR := X8_cell_j15 l0 l1 0 t0 m
def X8_cell (a0 : Nat) (a1 : Int32) (m : pmM) : pmR := if a1 < 0 then (X8_cell_j14 a0 a1 a0 m) else (if (4 : Int32) ≤ a1 then (X8_cell_j14 a0 a1 a0 m) else (X8_cell_j15 a0 a1 1 a0 m))
set_option maxRecDepth 100000 in
set_option maxHeartbeats 4000000 in
theorem gX8_cell_j15 (hfl : l.flags = flags0) (l0 : Nat) (l1 : Int32) (t0 : Int32) (t1 : Nat) (m : pmM) : pm_G l Γ zX8_cell (d + 1) 15 [.ref l0, .int l1] [.int t0, .ref t1] m (X8_cell_j15 l0 l1 t0 t1 m) := by
  unfold X8_cell_j15
  refine pm_rcv (fun hb9 hc9 => ?_)
  refine pm_kV (d := d + 0) rfl (pm_V (y := zX8_cell) (z := zX8_must) (As := [.int t0]) zkX8_must pm_q8 (by decide) tw_684 tw_686 tw_30 dX8_cell_15 rfl rfl (Nat.le_of_ble_eq_true rfl) hb9 hc9) (kcX8_must (d := d + 0) hfl t1 t0 m) (fun m1 => ?_)
  refine pm_aload_n dX8_cell_18 rfl rfl ?_
  refine fg_8_8 (y := zX8_cell) (Or.inl tw_447) dX8_cell_19 (fun r2 => ?_)
  refine fg_0_3 (y := zX8_cell) (Or.inr tw_363) dX8_cell_22 (fun r3 => ?_)
  refine pm_iload_n dX8_cell_25 rfl rfl ?_
  refine pm_iald (y := zX8_cell) dX8_cell_26 (fun x4 => ?_)
  exact pm_iret rfl dX8_cell_27
set_option maxRecDepth 100000 in
set_option maxHeartbeats 4000000 in
theorem gX8_cell_j14 (hfl : l.flags = flags0) (l0 : Nat) (l1 : Int32) (t0 : Nat) (m : pmM) : pm_G l Γ zX8_cell (d + 1) 14 [.ref l0, .int l1] [.ref t0] m (X8_cell_j14 l0 l1 t0 m) := by
  unfold X8_cell_j14
  refine pm_iconst (v := 0) dX8_cell_14 ki_0 ?_
  exact gX8_cell_j15 hfl l0 l1 0 t0 m
set_option maxRecDepth 100000 in
set_option maxHeartbeats 4000000 in
theorem kcX8_cell (hfl : l.flags = flags0) (a0 : Nat) (a1 : Int32) (m : pmM) : pm_C l Γ zX8_cell (d + 1) [.ref a0, .int a1] m (X8_cell a0 a1 m) := by
  refine pm_enter (ls := [.ref a0, .int a1]) hfl (by decide +kernel) rfl (Nat.le_of_ble_eq_true rfl) rfl (Nat.le_of_ble_eq_true rfl) ?_
  unfold X8_cell
  refine pm_aload_n dX8_cell_0 rfl rfl ?_
  refine pm_iload_n dX8_cell_1 rfl rfl ?_
  refine pm_if_lt (tgt := 14) dX8_cell_2 rfl ?_ ?_
  · exact gX8_cell_j14 hfl a0 a1 a0 m
  · refine pm_iload_n dX8_cell_5 rfl rfl ?_
    refine pm_iconst (v := 4) dX8_cell_6 ki_4 ?_
    refine pm_icmp_ge (tgt := 14) dX8_cell_7 rfl ?_ ?_
    · exact gX8_cell_j14 hfl a0 a1 a0 m
    · refine pm_iconst (v := 1) dX8_cell_10 ki_1 ?_
      refine pm_goto (tgt := 15) dX8_cell_11 rfl ?_
      exact gX8_cell_j15 hfl a0 a1 1 a0 m
-- StruckPage.often(I)I
def X8_often_j77 (t0 : Int32) (m : pmM) : pmR := pm_oI t0 m
def X8_often_j55 (again25 : (Int32 × Int32 × Int32 × pmM) → pmR) (l0 : Nat) (l1 : Int32) (l2 : Int32) (l3 : Int32) (l4 : Int32) (m : pmM) : pmR := pm_bI (l4 + 1) fun x5 => again25 (l2, l3, x5, m)
def X8_often_L25 (l0 : Nat) (l1 : Int32) (again25 : (Int32 × Int32 × Int32 × pmM) → pmR) (s25 : Int32 × Int32 × Int32 × pmM) : pmR := if (15 : Int32) < s25.2.2.1 then (if s25.2.1 = (-1) then (pm_oI (-1) s25.2.2.2) else (if l1 = 0 then (X8_often_j77 s25.2.1 s25.2.2.2) else (X8_often_j77 s25.1 s25.2.2.2))) else (pm_gR 8 l0 8 s25.2.2.2 fun r2 => pm_rc 0 r2 s25.2.2.2 <| pm_cI (X0_timesSaid r2 s25.2.2.1 s25.2.2.2) fun x4 m3 => if x4 ≤ s25.1 then (X8_often_j55 again25 l0 l1 s25.1 s25.2.1 s25.2.2.1 m3) else (X8_often_j55 again25 l0 l1 x4 s25.2.2.1 s25.2.2.1 m3))
def X8_often_j15 (l0 : Nat) (l1 : Int32) (t0 : Int32) (t1 : Nat) (m : pmM) : pmR := pm_rc 8 t1 m <| pm_cV (X8_must t1 t0 m) fun m1 => pm_lp pm_N (X8_often_L25 l0 l1) (0, (-1), 0, m1)
def X8_often_j10 (l0 : Nat) (l1 : Int32) (t0 : Nat) (m : pmM) : pmR := X8_often_j15 l0 l1 1 t0 m
def X8_often (a0 : Nat) (a1 : Int32) (m : pmM) : pmR := if a1 = 0 then (X8_often_j10 a0 a1 a0 m) else (if a1 = 1 then (X8_often_j10 a0 a1 a0 m) else (X8_often_j15 a0 a1 0 a0 m))
set_option maxRecDepth 100000 in
set_option maxHeartbeats 4000000 in
theorem gX8_often_j77 (hfl : l.flags = flags0) (t0 : Int32) (m : pmM) : pm_G l Γ zX8_often (d + 3) 77 [pmU, pmU, pmU, pmU, pmU, pmU] [.int t0] m (X8_often_j77 t0 m) := by
  unfold X8_often_j77
  exact pm_iret rfl dX8_often_77
set_option maxRecDepth 100000 in
set_option maxHeartbeats 4000000 in
theorem gX8_often_j55 (hfl : l.flags = flags0) (again25 : (Int32 × Int32 × Int32 × pmM) → pmR) (l0 : Nat) (l1 : Int32) (l2 : Int32) (l3 : Int32) (l4 : Int32) (m : pmM) (hag25 : ∀ s : Int32 × Int32 × Int32 × pmM, pm_G l Γ zX8_often (d + 3) 25 [.ref l0, .int l1, .int s.1, .int s.2.1, .int s.2.2.1, pmU] [] s.2.2.2 (again25 s)) : pm_G l Γ zX8_often (d + 3) 55 [.ref l0, .int l1, .int l2, .int l3, .int l4, pmU] [] m (X8_often_j55 again25 l0 l1 l2 l3 l4 m) := by
  unfold X8_often_j55
  refine pm_iincn (y := zX8_often) dX8_often_55 rfl ki_1 rfl (Nat.le_of_ble_eq_true rfl) (fun x5 => ?_)
  refine pm_eqls (ls2 := [.ref l0, .int l1, .int l2, .int l3, .int x5, pmU]) rfl ?_
  refine pm_goto (tgt := 25) dX8_often_58 rfl ?_
  exact hag25 (l2, l3, x5, m)
set_option maxRecDepth 100000 in
set_option maxHeartbeats 4000000 in
theorem gX8_often_L25 (hfl : l.flags = flags0) (l0 : Nat) (l1 : Int32) : ∀ (n : Nat) (s : Int32 × Int32 × Int32 × pmM), pm_G l Γ zX8_often (d + 3) 25 [.ref l0, .int l1, .int s.1, .int s.2.1, .int s.2.2.1, pmU] [] s.2.2.2 (pm_lp n (X8_often_L25 l0 l1) s) :=
  pm_loop (lsf := fun s : Int32 × Int32 × Int32 × pmM => [.ref l0, .int l1, .int s.1, .int s.2.1, .int s.2.2.1, pmU]) (mf := fun s : Int32 × Int32 × Int32 × pmM => s.2.2.2) (fun again25 hag25 s25 => by
    unfold X8_often_L25
    refine pm_iload dX8_often_25 rfl ?_
    refine pm_bipush (v := 15) dX8_often_27 kb_15 ?_
    refine pm_icmp_gt (tgt := 61) dX8_often_29 rfl ?_ ?_
    · refine pm_iload_n dX8_often_61 rfl rfl ?_
      refine pm_iconst (v := (-1)) dX8_often_62 ki_n1 ?_
      refine pm_icmp_ne (tgt := 68) dX8_often_63 rfl ?_ ?_
      · refine pm_iload_n dX8_often_68 rfl rfl ?_
        refine pm_if_ne (tgt := 76) dX8_often_69 rfl ?_ ?_
        · refine pm_iload_n dX8_often_76 rfl rfl ?_
          refine pm_drop (ls2 := [pmU, pmU, pmU, pmU, pmU, pmU]) (Nat.le_refl _) (pm_le_spec (pm_le_u (pm_le_u (pm_le_u (pm_le_u (pm_le_u (pm_le_u (pm_le_n)))))))) ?_
          exact gX8_often_j77 hfl s25.1 s25.2.2.2
        · refine pm_iload_n dX8_often_72 rfl rfl ?_
          refine pm_goto (tgt := 77) dX8_often_73 rfl ?_
          refine pm_drop (ls2 := [pmU, pmU, pmU, pmU, pmU, pmU]) (Nat.le_refl _) (pm_le_spec (pm_le_u (pm_le_u (pm_le_u (pm_le_u (pm_le_u (pm_le_u (pm_le_n)))))))) ?_
          exact gX8_often_j77 hfl s25.2.1 s25.2.2.2
      · refine pm_iconst (v := (-1)) dX8_often_66 ki_n1 ?_
        exact pm_iret rfl dX8_often_67
    · refine pm_aload_n dX8_often_32 rfl rfl ?_
      refine fg_8_8 (y := zX8_often) (Or.inl tw_447) dX8_often_33 (fun r2 => ?_)
      refine pm_iload dX8_often_36 rfl ?_
      refine pm_rcv (fun hb9 hc9 => ?_)
      refine pm_kI (d := d + 2) rfl (pm_VN (y := zX8_often) (z := zX0_timesSaid) (As := [.int s25.2.2.1]) zkX0_timesSaid pm_q0 (by decide) tw_1296 tw_1298 tw_93 dX8_often_38 rfl rfl (Nat.le_of_ble_eq_true rfl) hb9 hc9) (kcX0_timesSaid (d := d + 0) hfl r2 s25.2.2.1 s25.2.2.2) (fun x4 m3 => ?_)
      refine pm_istore (ls2 := [.ref l0, .int l1, .int s25.1, .int s25.2.1, .int s25.2.2.1, .int x4]) dX8_often_41 rfl (Nat.le_of_ble_eq_true rfl) rfl ?_
      refine pm_iload dX8_often_43 rfl ?_
      refine pm_iload_n dX8_often_45 rfl rfl ?_
      refine pm_icmp_le (tgt := 55) dX8_often_46 rfl ?_ ?_
      · refine pm_drop (ls2 := [.ref l0, .int l1, .int s25.1, .int s25.2.1, .int s25.2.2.1, pmU]) (Nat.le_refl _) (pm_le_spec (pm_le_v (pm_le_v (pm_le_v (pm_le_v (pm_le_v (pm_le_u (pm_le_n)))))))) ?_
        exact gX8_often_j55 hfl again25 l0 l1 s25.1 s25.2.1 s25.2.2.1 m3 hag25
      · refine pm_iload dX8_often_49 rfl ?_
        refine pm_istore_n (ls2 := [.ref l0, .int l1, .int x4, .int s25.2.1, .int s25.2.2.1, .int x4]) dX8_often_51 rfl rfl (Nat.le_of_ble_eq_true rfl) rfl ?_
        refine pm_iload dX8_often_52 rfl ?_
        refine pm_istore_n (ls2 := [.ref l0, .int l1, .int x4, .int s25.2.2.1, .int s25.2.2.1, .int x4]) dX8_often_54 rfl rfl (Nat.le_of_ble_eq_true rfl) rfl ?_
        refine pm_drop (ls2 := [.ref l0, .int l1, .int x4, .int s25.2.2.1, .int s25.2.2.1, pmU]) (Nat.le_refl _) (pm_le_spec (pm_le_v (pm_le_v (pm_le_v (pm_le_v (pm_le_v (pm_le_u (pm_le_n)))))))) ?_
        exact gX8_often_j55 hfl again25 l0 l1 x4 s25.2.2.1 s25.2.2.1 m3 hag25)
set_option maxRecDepth 100000 in
set_option maxHeartbeats 4000000 in
theorem gX8_often_j15 (hfl : l.flags = flags0) (l0 : Nat) (l1 : Int32) (t0 : Int32) (t1 : Nat) (m : pmM) : pm_G l Γ zX8_often (d + 3) 15 [.ref l0, .int l1, pmU, pmU, pmU, pmU] [.int t0, .ref t1] m (X8_often_j15 l0 l1 t0 t1 m) := by
  unfold X8_often_j15
  refine pm_rcv (fun hb9 hc9 => ?_)
  refine pm_kV (d := d + 2) rfl (pm_V (y := zX8_often) (z := zX8_must) (As := [.int t0]) zkX8_must pm_q8 (by decide) tw_684 tw_686 tw_30 dX8_often_15 rfl rfl (Nat.le_of_ble_eq_true rfl) hb9 hc9) (kcX8_must (d := d + 2) hfl t1 t0 m) (fun m1 => ?_)
  refine pm_iconst (v := 0) dX8_often_18 ki_0 ?_
  refine pm_istore_n (ls2 := [.ref l0, .int l1, .int 0, pmU, pmU, pmU]) dX8_often_19 rfl rfl (Nat.le_of_ble_eq_true rfl) rfl ?_
  refine pm_iconst (v := (-1)) dX8_often_20 ki_n1 ?_
  refine pm_istore_n (ls2 := [.ref l0, .int l1, .int 0, .int (-1), pmU, pmU]) dX8_often_21 rfl rfl (Nat.le_of_ble_eq_true rfl) rfl ?_
  refine pm_iconst (v := 0) dX8_often_22 ki_0 ?_
  refine pm_istore (ls2 := [.ref l0, .int l1, .int 0, .int (-1), .int 0, pmU]) dX8_often_23 rfl (Nat.le_of_ble_eq_true rfl) rfl ?_
  exact gX8_often_L25 hfl l0 l1 pm_N (0, (-1), 0, m1)
set_option maxRecDepth 100000 in
set_option maxHeartbeats 4000000 in
theorem gX8_often_j10 (hfl : l.flags = flags0) (l0 : Nat) (l1 : Int32) (t0 : Nat) (m : pmM) : pm_G l Γ zX8_often (d + 3) 10 [.ref l0, .int l1, pmU, pmU, pmU, pmU] [.ref t0] m (X8_often_j10 l0 l1 t0 m) := by
  unfold X8_often_j10
  refine pm_iconst (v := 1) dX8_often_10 ki_1 ?_
  refine pm_goto (tgt := 15) dX8_often_11 rfl ?_
  exact gX8_often_j15 hfl l0 l1 1 t0 m
set_option maxRecDepth 100000 in
set_option maxHeartbeats 4000000 in
theorem kcX8_often (hfl : l.flags = flags0) (a0 : Nat) (a1 : Int32) (m : pmM) : pm_C l Γ zX8_often (d + 3) [.ref a0, .int a1] m (X8_often a0 a1 m) := by
  refine pm_enter (ls := [.ref a0, .int a1, pmU, pmU, pmU, pmU]) hfl (by decide +kernel) rfl (Nat.le_of_ble_eq_true rfl) rfl (Nat.le_of_ble_eq_true rfl) ?_
  unfold X8_often
  refine pm_aload_n dX8_often_0 rfl rfl ?_
  refine pm_iload_n dX8_often_1 rfl rfl ?_
  refine pm_if_eq (tgt := 10) dX8_often_2 rfl ?_ ?_
  · exact gX8_often_j10 hfl a0 a1 a0 m
  · refine pm_iload_n dX8_often_5 rfl rfl ?_
    refine pm_iconst (v := 1) dX8_often_6 ki_1 ?_
    refine pm_icmp_ne (tgt := 14) dX8_often_7 rfl ?_ ?_
    · refine pm_iconst (v := 0) dX8_often_14 ki_0 ?_
      exact gX8_often_j15 hfl a0 a1 0 a0 m
    · exact gX8_often_j10 hfl a0 a1 a0 m
-- StruckPage.deeds(I)I
def X8_deeds_j52 (again23 : (Int32 × Int32 × pmM) → pmR) (l0 : Nat) (l1 : Int32) (l2 : Int32) (l3 : Int32) (m : pmM) : pmR := pm_bI (l3 + 1) fun x7 => again23 (l2, x7, m)
def X8_deeds_L23 (l0 : Nat) (l1 : Int32) (again23 : (Int32 × Int32 × pmM) → pmR) (s23 : Int32 × Int32 × pmM) : pmR := pm_gR 8 l0 1 s23.2.2 fun r2 => pm_gI 2 r2 3 s23.2.2 fun x3 => if x3 ≤ s23.2.1 then (pm_oI s23.1 s23.2.2) else (pm_gR 8 l0 8 s23.2.2 fun r4 => pm_rc 0 r4 s23.2.2 <| pm_cI (X0_firstLeft r4 s23.2.1 s23.2.2) fun x6 m5 => if x6 = l1 then (pm_bI (s23.1 ||| ((1 : Int32) <<< (s23.2.1 &&& 31))) fun x8 => X8_deeds_j52 again23 l0 l1 x8 s23.2.1 m5) else (X8_deeds_j52 again23 l0 l1 s23.1 s23.2.1 m5))
def X8_deeds_j16 (l0 : Nat) (l1 : Int32) (t0 : Int32) (t1 : Nat) (m : pmM) : pmR := pm_rc 8 t1 m <| pm_cV (X8_must t1 t0 m) fun m1 => pm_lp pm_N (X8_deeds_L23 l0 l1) (0, 0, m1)
def X8_deeds_j15 (l0 : Nat) (l1 : Int32) (t0 : Nat) (m : pmM) : pmR := X8_deeds_j16 l0 l1 0 t0 m
def X8_deeds (a0 : Nat) (a1 : Int32) (m : pmM) : pmR := if a1 < 0 then (X8_deeds_j15 a0 a1 a0 m) else (if (15 : Int32) < a1 then (X8_deeds_j15 a0 a1 a0 m) else (X8_deeds_j16 a0 a1 1 a0 m))
set_option maxRecDepth 100000 in
set_option maxHeartbeats 4000000 in
theorem gX8_deeds_j52 (hfl : l.flags = flags0) (again23 : (Int32 × Int32 × pmM) → pmR) (l0 : Nat) (l1 : Int32) (l2 : Int32) (l3 : Int32) (m : pmM) (hag23 : ∀ s : Int32 × Int32 × pmM, pm_G l Γ zX8_deeds (d + 3) 23 [.ref l0, .int l1, .int s.1, .int s.2.1] [] s.2.2 (again23 s)) : pm_G l Γ zX8_deeds (d + 3) 52 [.ref l0, .int l1, .int l2, .int l3] [] m (X8_deeds_j52 again23 l0 l1 l2 l3 m) := by
  unfold X8_deeds_j52
  refine pm_iincn (y := zX8_deeds) dX8_deeds_52 rfl ki_1 rfl (Nat.le_of_ble_eq_true rfl) (fun x7 => ?_)
  refine pm_eqls (ls2 := [.ref l0, .int l1, .int l2, .int x7]) rfl ?_
  refine pm_goto (tgt := 23) dX8_deeds_55 rfl ?_
  exact hag23 (l2, x7, m)
set_option maxRecDepth 100000 in
set_option maxHeartbeats 4000000 in
theorem gX8_deeds_L23 (hfl : l.flags = flags0) (l0 : Nat) (l1 : Int32) : ∀ (n : Nat) (s : Int32 × Int32 × pmM), pm_G l Γ zX8_deeds (d + 3) 23 [.ref l0, .int l1, .int s.1, .int s.2.1] [] s.2.2 (pm_lp n (X8_deeds_L23 l0 l1) s) :=
  pm_loop (lsf := fun s : Int32 × Int32 × pmM => [.ref l0, .int l1, .int s.1, .int s.2.1]) (mf := fun s : Int32 × Int32 × pmM => s.2.2) (fun again23 hag23 s23 => by
    unfold X8_deeds_L23
    refine pm_iload_n dX8_deeds_23 rfl rfl ?_
    refine pm_aload_n dX8_deeds_24 rfl rfl ?_
    refine fg_8_1 (y := zX8_deeds) (Or.inl tw_440) dX8_deeds_25 (fun r2 => ?_)
    refine fg_2_3 (y := zX8_deeds) (Or.inr tw_246) dX8_deeds_28 (fun x3 => ?_)
    refine pm_icmp_ge (tgt := 58) dX8_deeds_31 rfl ?_ ?_
    · refine pm_iload_n dX8_deeds_58 rfl rfl ?_
      exact pm_iret rfl dX8_deeds_59
    · refine pm_aload_n dX8_deeds_34 rfl rfl ?_
      refine fg_8_8 (y := zX8_deeds) (Or.inl tw_447) dX8_deeds_35 (fun r4 => ?_)
      refine pm_iload_n dX8_deeds_38 rfl rfl ?_
      refine pm_rcv (fun hb9 hc9 => ?_)
      refine pm_kI (d := d + 2) rfl (pm_VN (y := zX8_deeds) (z := zX0_firstLeft) (As := [.int s23.2.1]) zkX0_firstLeft pm_q0 (by decide) tw_1117 tw_1119 tw_82 dX8_deeds_39 rfl rfl (Nat.le_of_ble_eq_true rfl) hb9 hc9) (kcX0_firstLeft (d := d + 0) hfl r4 s23.2.1 s23.2.2) (fun x6 m5 => ?_)
      refine pm_iload_n dX8_deeds_42 rfl rfl ?_
      refine pm_icmp_ne (tgt := 52) dX8_deeds_43 rfl ?_ ?_
      · exact gX8_deeds_j52 hfl again23 l0 l1 s23.1 s23.2.1 m5 hag23
      · refine pm_iload_n dX8_deeds_46 rfl rfl ?_
        refine pm_iconst (v := 1) dX8_deeds_47 ki_1 ?_
        refine pm_iload_n dX8_deeds_48 rfl rfl ?_
        refine pm_ishl dX8_deeds_49 ?_
        refine pm_ior dX8_deeds_50 ?_
        refine pm_bIn (fun x8 => ?_)
        refine pm_istore_n (ls2 := [.ref l0, .int l1, .int x8, .int s23.2.1]) dX8_deeds_51 rfl rfl (Nat.le_of_ble_eq_true rfl) rfl ?_
        exact gX8_deeds_j52 hfl again23 l0 l1 x8 s23.2.1 m5 hag23)
set_option maxRecDepth 100000 in
set_option maxHeartbeats 4000000 in
theorem gX8_deeds_j16 (hfl : l.flags = flags0) (l0 : Nat) (l1 : Int32) (t0 : Int32) (t1 : Nat) (m : pmM) : pm_G l Γ zX8_deeds (d + 3) 16 [.ref l0, .int l1, pmU, pmU] [.int t0, .ref t1] m (X8_deeds_j16 l0 l1 t0 t1 m) := by
  unfold X8_deeds_j16
  refine pm_rcv (fun hb9 hc9 => ?_)
  refine pm_kV (d := d + 2) rfl (pm_V (y := zX8_deeds) (z := zX8_must) (As := [.int t0]) zkX8_must pm_q8 (by decide) tw_684 tw_686 tw_30 dX8_deeds_16 rfl rfl (Nat.le_of_ble_eq_true rfl) hb9 hc9) (kcX8_must (d := d + 2) hfl t1 t0 m) (fun m1 => ?_)
  refine pm_iconst (v := 0) dX8_deeds_19 ki_0 ?_
  refine pm_istore_n (ls2 := [.ref l0, .int l1, .int 0, pmU]) dX8_deeds_20 rfl rfl (Nat.le_of_ble_eq_true rfl) rfl ?_
  refine pm_iconst (v := 0) dX8_deeds_21 ki_0 ?_
  refine pm_istore_n (ls2 := [.ref l0, .int l1, .int 0, .int 0]) dX8_deeds_22 rfl rfl (Nat.le_of_ble_eq_true rfl) rfl ?_
  exact gX8_deeds_L23 hfl l0 l1 pm_N (0, 0, m1)
set_option maxRecDepth 100000 in
set_option maxHeartbeats 4000000 in
theorem gX8_deeds_j15 (hfl : l.flags = flags0) (l0 : Nat) (l1 : Int32) (t0 : Nat) (m : pmM) : pm_G l Γ zX8_deeds (d + 3) 15 [.ref l0, .int l1, pmU, pmU] [.ref t0] m (X8_deeds_j15 l0 l1 t0 m) := by
  unfold X8_deeds_j15
  refine pm_iconst (v := 0) dX8_deeds_15 ki_0 ?_
  exact gX8_deeds_j16 hfl l0 l1 0 t0 m
set_option maxRecDepth 100000 in
set_option maxHeartbeats 4000000 in
theorem kcX8_deeds (hfl : l.flags = flags0) (a0 : Nat) (a1 : Int32) (m : pmM) : pm_C l Γ zX8_deeds (d + 3) [.ref a0, .int a1] m (X8_deeds a0 a1 m) := by
  refine pm_enter (ls := [.ref a0, .int a1, pmU, pmU]) hfl (by decide +kernel) rfl (Nat.le_of_ble_eq_true rfl) rfl (Nat.le_of_ble_eq_true rfl) ?_
  unfold X8_deeds
  refine pm_aload_n dX8_deeds_0 rfl rfl ?_
  refine pm_iload_n dX8_deeds_1 rfl rfl ?_
  refine pm_if_lt (tgt := 15) dX8_deeds_2 rfl ?_ ?_
  · exact gX8_deeds_j15 hfl a0 a1 a0 m
  · refine pm_iload_n dX8_deeds_5 rfl rfl ?_
    refine pm_bipush (v := 15) dX8_deeds_6 kb_15 ?_
    refine pm_icmp_gt (tgt := 15) dX8_deeds_8 rfl ?_ ?_
    · exact gX8_deeds_j15 hfl a0 a1 a0 m
    · refine pm_iconst (v := 1) dX8_deeds_11 ki_1 ?_
      refine pm_goto (tgt := 16) dX8_deeds_12 rfl ?_
      exact gX8_deeds_j16 hfl a0 a1 1 a0 m
-- StruckPage.longest(I)I
def X8_longest_j78 (t0 : Int32) (m : pmM) : pmR := pm_oI t0 m
def X8_longest_j63 (again25 : (Int32 × Int32 × Int32 × pmM) → pmR) (l0 : Nat) (l1 : Int32) (l2 : Int32) (l3 : Int32) (l4 : Int32) (m : pmM) : pmR := pm_bI (l4 + 1) fun x7 => again25 (l2, l3, x7, m)
def X8_longest_L25 (l0 : Nat) (l1 : Int32) (again25 : (Int32 × Int32 × Int32 × pmM) → pmR) (s25 : Int32 × Int32 × Int32 × pmM) : pmR := pm_gR 8 l0 1 s25.2.2.2 fun r2 => pm_gI 2 r2 3 s25.2.2.2 fun x3 => if x3 ≤ s25.2.2.1 then (if l1 = 0 then (X8_longest_j78 s25.2.1 s25.2.2.2) else (X8_longest_j78 s25.1 s25.2.2.2)) else (pm_gR 8 l0 8 s25.2.2.2 fun r4 => pm_rc 0 r4 s25.2.2.2 <| pm_cI (X0_leftIn r4 s25.2.2.1 s25.2.2.2) fun x6 m5 => if x6 ≤ s25.1 then (X8_longest_j63 again25 l0 l1 s25.1 s25.2.1 s25.2.2.1 m5) else (pm_gR 8 l0 8 m5 fun r8 => pm_rc 0 r8 m5 <| pm_cI (X0_leftIn r8 s25.2.2.1 m5) fun x10 m9 => X8_longest_j63 again25 l0 l1 x10 s25.2.2.1 s25.2.2.1 m9))
def X8_longest_j15 (l0 : Nat) (l1 : Int32) (t0 : Int32) (t1 : Nat) (m : pmM) : pmR := pm_rc 8 t1 m <| pm_cV (X8_must t1 t0 m) fun m1 => pm_lp pm_N (X8_longest_L25 l0 l1) ((-1), (-1), 0, m1)
def X8_longest_j10 (l0 : Nat) (l1 : Int32) (t0 : Nat) (m : pmM) : pmR := X8_longest_j15 l0 l1 1 t0 m
def X8_longest (a0 : Nat) (a1 : Int32) (m : pmM) : pmR := if a1 = 0 then (X8_longest_j10 a0 a1 a0 m) else (if a1 = 1 then (X8_longest_j10 a0 a1 a0 m) else (X8_longest_j15 a0 a1 0 a0 m))
set_option maxRecDepth 100000 in
set_option maxHeartbeats 4000000 in
theorem gX8_longest_j78 (hfl : l.flags = flags0) (t0 : Int32) (m : pmM) : pm_G l Γ zX8_longest (d + 2) 78 [pmU, pmU, pmU, pmU, pmU] [.int t0] m (X8_longest_j78 t0 m) := by
  unfold X8_longest_j78
  exact pm_iret rfl dX8_longest_78
set_option maxRecDepth 100000 in
set_option maxHeartbeats 4000000 in
theorem gX8_longest_j63 (hfl : l.flags = flags0) (again25 : (Int32 × Int32 × Int32 × pmM) → pmR) (l0 : Nat) (l1 : Int32) (l2 : Int32) (l3 : Int32) (l4 : Int32) (m : pmM) (hag25 : ∀ s : Int32 × Int32 × Int32 × pmM, pm_G l Γ zX8_longest (d + 2) 25 [.ref l0, .int l1, .int s.1, .int s.2.1, .int s.2.2.1] [] s.2.2.2 (again25 s)) : pm_G l Γ zX8_longest (d + 2) 63 [.ref l0, .int l1, .int l2, .int l3, .int l4] [] m (X8_longest_j63 again25 l0 l1 l2 l3 l4 m) := by
  unfold X8_longest_j63
  refine pm_iincn (y := zX8_longest) dX8_longest_63 rfl ki_1 rfl (Nat.le_of_ble_eq_true rfl) (fun x7 => ?_)
  refine pm_eqls (ls2 := [.ref l0, .int l1, .int l2, .int l3, .int x7]) rfl ?_
  refine pm_goto (tgt := 25) dX8_longest_66 rfl ?_
  exact hag25 (l2, l3, x7, m)
set_option maxRecDepth 100000 in
set_option maxHeartbeats 4000000 in
theorem gX8_longest_L25 (hfl : l.flags = flags0) (l0 : Nat) (l1 : Int32) : ∀ (n : Nat) (s : Int32 × Int32 × Int32 × pmM), pm_G l Γ zX8_longest (d + 2) 25 [.ref l0, .int l1, .int s.1, .int s.2.1, .int s.2.2.1] [] s.2.2.2 (pm_lp n (X8_longest_L25 l0 l1) s) :=
  pm_loop (lsf := fun s : Int32 × Int32 × Int32 × pmM => [.ref l0, .int l1, .int s.1, .int s.2.1, .int s.2.2.1]) (mf := fun s : Int32 × Int32 × Int32 × pmM => s.2.2.2) (fun again25 hag25 s25 => by
    unfold X8_longest_L25
    refine pm_iload dX8_longest_25 rfl ?_
    refine pm_aload_n dX8_longest_27 rfl rfl ?_
    refine fg_8_1 (y := zX8_longest) (Or.inl tw_440) dX8_longest_28 (fun r2 => ?_)
    refine fg_2_3 (y := zX8_longest) (Or.inr tw_246) dX8_longest_31 (fun x3 => ?_)
    refine pm_icmp_ge (tgt := 69) dX8_longest_34 rfl ?_ ?_
    · refine pm_iload_n dX8_longest_69 rfl rfl ?_
      refine pm_if_ne (tgt := 77) dX8_longest_70 rfl ?_ ?_
      · refine pm_iload_n dX8_longest_77 rfl rfl ?_
        refine pm_drop (ls2 := [pmU, pmU, pmU, pmU, pmU]) (Nat.le_refl _) (pm_le_spec (pm_le_u (pm_le_u (pm_le_u (pm_le_u (pm_le_u (pm_le_n))))))) ?_
        exact gX8_longest_j78 hfl s25.1 s25.2.2.2
      · refine pm_iload_n dX8_longest_73 rfl rfl ?_
        refine pm_goto (tgt := 78) dX8_longest_74 rfl ?_
        refine pm_drop (ls2 := [pmU, pmU, pmU, pmU, pmU]) (Nat.le_refl _) (pm_le_spec (pm_le_u (pm_le_u (pm_le_u (pm_le_u (pm_le_u (pm_le_n))))))) ?_
        exact gX8_longest_j78 hfl s25.2.1 s25.2.2.2
    · refine pm_aload_n dX8_longest_37 rfl rfl ?_
      refine fg_8_8 (y := zX8_longest) (Or.inl tw_447) dX8_longest_38 (fun r4 => ?_)
      refine pm_iload dX8_longest_41 rfl ?_
      refine pm_rcv (fun hb9 hc9 => ?_)
      refine pm_kI (d := d + 1) rfl (pm_VN (y := zX8_longest) (z := zX0_leftIn) (As := [.int s25.2.2.1]) zkX0_leftIn pm_q0 (by decide) tw_1084 tw_1086 tw_80 dX8_longest_43 rfl rfl (Nat.le_of_ble_eq_true rfl) hb9 hc9) (kcX0_leftIn (d := d + 0) hfl r4 s25.2.2.1 s25.2.2.2) (fun x6 m5 => ?_)
      refine pm_iload_n dX8_longest_46 rfl rfl ?_
      refine pm_icmp_le (tgt := 63) dX8_longest_47 rfl ?_ ?_
      · exact gX8_longest_j63 hfl again25 l0 l1 s25.1 s25.2.1 s25.2.2.1 m5 hag25
      · refine pm_aload_n dX8_longest_50 rfl rfl ?_
        refine fg_8_8 (y := zX8_longest) (Or.inl tw_447) dX8_longest_51 (fun r8 => ?_)
        refine pm_iload dX8_longest_54 rfl ?_
        refine pm_rcv (fun hb9 hc9 => ?_)
        refine pm_kI (d := d + 1) rfl (pm_VN (y := zX8_longest) (z := zX0_leftIn) (As := [.int s25.2.2.1]) zkX0_leftIn pm_q0 (by decide) tw_1084 tw_1086 tw_80 dX8_longest_56 rfl rfl (Nat.le_of_ble_eq_true rfl) hb9 hc9) (kcX0_leftIn (d := d + 0) hfl r8 s25.2.2.1 m5) (fun x10 m9 => ?_)
        refine pm_istore_n (ls2 := [.ref l0, .int l1, .int x10, .int s25.2.1, .int s25.2.2.1]) dX8_longest_59 rfl rfl (Nat.le_of_ble_eq_true rfl) rfl ?_
        refine pm_iload dX8_longest_60 rfl ?_
        refine pm_istore_n (ls2 := [.ref l0, .int l1, .int x10, .int s25.2.2.1, .int s25.2.2.1]) dX8_longest_62 rfl rfl (Nat.le_of_ble_eq_true rfl) rfl ?_
        exact gX8_longest_j63 hfl again25 l0 l1 x10 s25.2.2.1 s25.2.2.1 m9 hag25)
set_option maxRecDepth 100000 in
set_option maxHeartbeats 4000000 in
theorem gX8_longest_j15 (hfl : l.flags = flags0) (l0 : Nat) (l1 : Int32) (t0 : Int32) (t1 : Nat) (m : pmM) : pm_G l Γ zX8_longest (d + 2) 15 [.ref l0, .int l1, pmU, pmU, pmU] [.int t0, .ref t1] m (X8_longest_j15 l0 l1 t0 t1 m) := by
  unfold X8_longest_j15
  refine pm_rcv (fun hb9 hc9 => ?_)
  refine pm_kV (d := d + 1) rfl (pm_V (y := zX8_longest) (z := zX8_must) (As := [.int t0]) zkX8_must pm_q8 (by decide) tw_684 tw_686 tw_30 dX8_longest_15 rfl rfl (Nat.le_of_ble_eq_true rfl) hb9 hc9) (kcX8_must (d := d + 1) hfl t1 t0 m) (fun m1 => ?_)
  refine pm_iconst (v := (-1)) dX8_longest_18 ki_n1 ?_
  refine pm_istore_n (ls2 := [.ref l0, .int l1, .int (-1), pmU, pmU]) dX8_longest_19 rfl rfl (Nat.le_of_ble_eq_true rfl) rfl ?_
  refine pm_iconst (v := (-1)) dX8_longest_20 ki_n1 ?_
  refine pm_istore_n (ls2 := [.ref l0, .int l1, .int (-1), .int (-1), pmU]) dX8_longest_21 rfl rfl (Nat.le_of_ble_eq_true rfl) rfl ?_
  refine pm_iconst (v := 0) dX8_longest_22 ki_0 ?_
  refine pm_istore (ls2 := [.ref l0, .int l1, .int (-1), .int (-1), .int 0]) dX8_longest_23 rfl (Nat.le_of_ble_eq_true rfl) rfl ?_
  exact gX8_longest_L25 hfl l0 l1 pm_N ((-1), (-1), 0, m1)
set_option maxRecDepth 100000 in
set_option maxHeartbeats 4000000 in
theorem gX8_longest_j10 (hfl : l.flags = flags0) (l0 : Nat) (l1 : Int32) (t0 : Nat) (m : pmM) : pm_G l Γ zX8_longest (d + 2) 10 [.ref l0, .int l1, pmU, pmU, pmU] [.ref t0] m (X8_longest_j10 l0 l1 t0 m) := by
  unfold X8_longest_j10
  refine pm_iconst (v := 1) dX8_longest_10 ki_1 ?_
  refine pm_goto (tgt := 15) dX8_longest_11 rfl ?_
  exact gX8_longest_j15 hfl l0 l1 1 t0 m
set_option maxRecDepth 100000 in
set_option maxHeartbeats 4000000 in
theorem kcX8_longest (hfl : l.flags = flags0) (a0 : Nat) (a1 : Int32) (m : pmM) : pm_C l Γ zX8_longest (d + 2) [.ref a0, .int a1] m (X8_longest a0 a1 m) := by
  refine pm_enter (ls := [.ref a0, .int a1, pmU, pmU, pmU]) hfl (by decide +kernel) rfl (Nat.le_of_ble_eq_true rfl) rfl (Nat.le_of_ble_eq_true rfl) ?_
  unfold X8_longest
  refine pm_aload_n dX8_longest_0 rfl rfl ?_
  refine pm_iload_n dX8_longest_1 rfl rfl ?_
  refine pm_if_eq (tgt := 10) dX8_longest_2 rfl ?_ ?_
  · exact gX8_longest_j10 hfl a0 a1 a0 m
  · refine pm_iload_n dX8_longest_5 rfl rfl ?_
    refine pm_iconst (v := 1) dX8_longest_6 ki_1 ?_
    refine pm_icmp_ne (tgt := 14) dX8_longest_7 rfl ?_ ?_
    · refine pm_iconst (v := 0) dX8_longest_14 ki_0 ?_
      exact gX8_longest_j15 hfl a0 a1 0 a0 m
    · exact gX8_longest_j10 hfl a0 a1 a0 m
end GEN10
