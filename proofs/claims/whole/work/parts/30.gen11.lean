section GEN11
variable {l : Launch} {Γ : pmG} {d : Nat}
-- StruckPage.cost(III)I
def X8_cost_j23 (l0 : Nat) (l1 : Int32) (l2 : Int32) (l3 : Int32) (t0 : Int32) (t1 : Nat) (m : pmM) : pmR := pm_rc 8 t1 m <| pm_cV (X8_must t1 t0 m) fun m3 => pm_gR 8 l0 8 m3 fun r4 => pm_rc 0 r4 m3 <| pm_cI (X0_priceOf r4 l1 l2 l3 m3) fun x6 m5 => pm_oI x6 m5
def X8_cost (a0 : Nat) (a1 : Int32) (a2 : Int32) (a3 : Int32) (m : pmM) : pmR := pm_rc 8 a0 m <| pm_cV (X8_mustBeWord a0 a1 a2 m) fun m1 => pm_rc 8 a0 m1 <| pm_cV (X8_mustBeWord a0 a1 a3 m1) fun m2 => if a3 < a2 then (X8_cost_j23 a0 a1 a2 a3 0 a0 m2) else (X8_cost_j23 a0 a1 a2 a3 1 a0 m2)
set_option maxRecDepth 100000 in
set_option maxHeartbeats 4000000 in
theorem gX8_cost_j23 (hfl : l.flags = flags0) (l0 : Nat) (l1 : Int32) (l2 : Int32) (l3 : Int32) (t0 : Int32) (t1 : Nat) (m : pmM) : pm_G l Γ zX8_cost (d + 3) 23 [.ref l0, .int l1, .int l2, .int l3] [.int t0, .ref t1] m (X8_cost_j23 l0 l1 l2 l3 t0 t1 m) := by
  unfold X8_cost_j23
  refine pm_rcv (fun hb9 hc9 => ?_)
  refine pm_kV (d := d + 2) rfl (pm_V (y := zX8_cost) (z := zX8_must) (As := [.int t0]) zkX8_must pm_q8 (by decide) tw_684 tw_686 tw_30 dX8_cost_23 rfl rfl (Nat.le_of_ble_eq_true rfl) hb9 hc9) (kcX8_must (d := d + 2) hfl t1 t0 m) (fun m3 => ?_)
  refine pm_aload_n dX8_cost_26 rfl rfl ?_
  refine fg_8_8 (y := zX8_cost) (Or.inl tw_447) dX8_cost_27 (fun r4 => ?_)
  refine pm_iload_n dX8_cost_30 rfl rfl ?_
  refine pm_iload_n dX8_cost_31 rfl rfl ?_
  refine pm_iload_n dX8_cost_32 rfl rfl ?_
  refine pm_rcv (fun hb9 hc9 => ?_)
  refine pm_kI (d := d + 2) rfl (pm_VN (y := zX8_cost) (z := zX0_priceOf) (As := [.int l1, .int l2, .int l3]) zkX0_priceOf pm_q0 (by decide) tw_1161 tw_1007 tw_68 dX8_cost_33 rfl rfl (Nat.le_of_ble_eq_true rfl) hb9 hc9) (kcX0_priceOf (d := d + 0) hfl r4 l1 l2 l3 m3) (fun x6 m5 => ?_)
  exact pm_iret rfl dX8_cost_36
set_option maxRecDepth 100000 in
set_option maxHeartbeats 4000000 in
theorem kcX8_cost (hfl : l.flags = flags0) (a0 : Nat) (a1 : Int32) (a2 : Int32) (a3 : Int32) (m : pmM) : pm_C l Γ zX8_cost (d + 3) [.ref a0, .int a1, .int a2, .int a3] m (X8_cost a0 a1 a2 a3 m) := by
  refine pm_enter (ls := [.ref a0, .int a1, .int a2, .int a3]) hfl (by decide +kernel) rfl (Nat.le_of_ble_eq_true rfl) rfl (Nat.le_of_ble_eq_true rfl) ?_
  unfold X8_cost
  refine pm_aload_n dX8_cost_0 rfl rfl ?_
  refine pm_iload_n dX8_cost_1 rfl rfl ?_
  refine pm_iload_n dX8_cost_2 rfl rfl ?_
  refine pm_rcv (fun hb9 hc9 => ?_)
  refine pm_kV (d := d + 2) rfl (pm_V (y := zX8_cost) (z := zX8_mustBeWord) (As := [.int a1, .int a2]) zkX8_mustBeWord pm_q8 (by decide) tw_1132 tw_1134 tw_84 dX8_cost_3 rfl rfl (Nat.le_of_ble_eq_true rfl) hb9 hc9) (kcX8_mustBeWord (d := d + 1) hfl a0 a1 a2 m) (fun m1 => ?_)
  refine pm_aload_n dX8_cost_6 rfl rfl ?_
  refine pm_iload_n dX8_cost_7 rfl rfl ?_
  refine pm_iload_n dX8_cost_8 rfl rfl ?_
  refine pm_rcv (fun hb9 hc9 => ?_)
  refine pm_kV (d := d + 2) rfl (pm_V (y := zX8_cost) (z := zX8_mustBeWord) (As := [.int a1, .int a3]) zkX8_mustBeWord pm_q8 (by decide) tw_1132 tw_1134 tw_84 dX8_cost_9 rfl rfl (Nat.le_of_ble_eq_true rfl) hb9 hc9) (kcX8_mustBeWord (d := d + 1) hfl a0 a1 a3 m1) (fun m2 => ?_)
  refine pm_aload_n dX8_cost_12 rfl rfl ?_
  refine pm_iload_n dX8_cost_13 rfl rfl ?_
  refine pm_iload_n dX8_cost_14 rfl rfl ?_
  refine pm_icmp_gt (tgt := 22) dX8_cost_15 rfl ?_ ?_
  · refine pm_iconst (v := 0) dX8_cost_22 ki_0 ?_
    exact gX8_cost_j23 hfl a0 a1 a2 a3 0 a0 m2
  · refine pm_iconst (v := 1) dX8_cost_18 ki_1 ?_
    refine pm_goto (tgt := 23) dX8_cost_19 rfl ?_
    exact gX8_cost_j23 hfl a0 a1 a2 a3 1 a0 m2
-- StruckPage.would(IIIIIII)I
def X8_would_j114 (l0 : Nat) (l1 : Int32) (l2 : Int32) (l3 : Int32) (l4 : Int32) (l5 : Int32) (l6 : Int32) (l7 : Int32) (t0 : Int32) (t1 : Nat) (m : pmM) : pmR := pm_rc 8 t1 m <| pm_cV (X8_must t1 t0 m) fun m4 => pm_gR 8 l0 3 m4 fun r5 => pm_rc 1 r5 m4 <| pm_cI (X1_priceFor r5 l1 l2 l3 l4 l5 l6 l7 m4) fun x7 m6 => pm_oI x7 m6
def X8_would_j113 (l0 : Nat) (l1 : Int32) (l2 : Int32) (l3 : Int32) (l4 : Int32) (l5 : Int32) (l6 : Int32) (l7 : Int32) (t0 : Nat) (m : pmM) : pmR := X8_would_j114 l0 l1 l2 l3 l4 l5 l6 l7 0 t0 m
def X8_would_j79 (l0 : Nat) (l1 : Int32) (l2 : Int32) (l3 : Int32) (l4 : Int32) (l5 : Int32) (l6 : Int32) (l7 : Int32) (t0 : Int32) (t1 : Nat) (m : pmM) : pmR := pm_rc 8 t1 m <| pm_cV (X8_must t1 t0 m) fun m3 => if l6 < 0 then (X8_would_j113 l0 l1 l2 l3 l4 l5 l6 l7 l0 m3) else (if (200 : Int32) < l6 then (X8_would_j113 l0 l1 l2 l3 l4 l5 l6 l7 l0 m3) else (if l7 < 0 then (X8_would_j113 l0 l1 l2 l3 l4 l5 l6 l7 l0 m3) else (if (999 : Int32) < l7 then (X8_would_j113 l0 l1 l2 l3 l4 l5 l6 l7 l0 m3) else (X8_would_j114 l0 l1 l2 l3 l4 l5 l6 l7 1 l0 m3))))
def X8_would_j78 (l0 : Nat) (l1 : Int32) (l2 : Int32) (l3 : Int32) (l4 : Int32) (l5 : Int32) (l6 : Int32) (l7 : Int32) (t0 : Nat) (m : pmM) : pmR := X8_would_j79 l0 l1 l2 l3 l4 l5 l6 l7 0 t0 m
def X8_would_j58 (l0 : Nat) (l1 : Int32) (l2 : Int32) (l3 : Int32) (l4 : Int32) (l5 : Int32) (l6 : Int32) (l7 : Int32) (t0 : Int32) (t1 : Nat) (m : pmM) : pmR := pm_rc 8 t1 m <| pm_cV (X8_must t1 t0 m) fun m2 => if l5 < 0 then (X8_would_j78 l0 l1 l2 l3 l4 l5 l6 l7 l0 m2) else (if (48 : Int32) < l5 then (X8_would_j78 l0 l1 l2 l3 l4 l5 l6 l7 l0 m2) else (X8_would_j79 l0 l1 l2 l3 l4 l5 l6 l7 1 l0 m2))
def X8_would_j57 (l0 : Nat) (l1 : Int32) (l2 : Int32) (l3 : Int32) (l4 : Int32) (l5 : Int32) (l6 : Int32) (l7 : Int32) (t0 : Nat) (m : pmM) : pmR := X8_would_j58 l0 l1 l2 l3 l4 l5 l6 l7 0 t0 m
def X8_would_j27 (l0 : Nat) (l1 : Int32) (l2 : Int32) (l3 : Int32) (l4 : Int32) (l5 : Int32) (l6 : Int32) (l7 : Int32) (t0 : Int32) (t1 : Nat) (m : pmM) : pmR := pm_rc 8 t1 m <| pm_cV (X8_must t1 t0 m) fun m1 => if l3 < 0 then (X8_would_j57 l0 l1 l2 l3 l4 l5 l6 l7 l0 m1) else (if (8 : Int32) ≤ l3 then (X8_would_j57 l0 l1 l2 l3 l4 l5 l6 l7 l0 m1) else (if l4 < 0 then (X8_would_j57 l0 l1 l2 l3 l4 l5 l6 l7 l0 m1) else (if (6 : Int32) ≤ l4 then (X8_would_j57 l0 l1 l2 l3 l4 l5 l6 l7 l0 m1) else (X8_would_j58 l0 l1 l2 l3 l4 l5 l6 l7 1 l0 m1))))
def X8_would_j26 (l0 : Nat) (l1 : Int32) (l2 : Int32) (l3 : Int32) (l4 : Int32) (l5 : Int32) (l6 : Int32) (l7 : Int32) (t0 : Nat) (m : pmM) : pmR := X8_would_j27 l0 l1 l2 l3 l4 l5 l6 l7 0 t0 m
def X8_would (a0 : Nat) (a1 : Int32) (a2 : Int32) (a3 : Int32) (a4 : Int32) (a5 : Int32) (a6 : Int32) (a7 : Int32) (m : pmM) : pmR := if a1 < 1 then (X8_would_j26 a0 a1 a2 a3 a4 a5 a6 a7 a0 m) else (if (8 : Int32) < a1 then (X8_would_j26 a0 a1 a2 a3 a4 a5 a6 a7 a0 m) else (if a2 < 0 then (X8_would_j26 a0 a1 a2 a3 a4 a5 a6 a7 a0 m) else (if (8 : Int32) < a2 then (X8_would_j26 a0 a1 a2 a3 a4 a5 a6 a7 a0 m) else (X8_would_j27 a0 a1 a2 a3 a4 a5 a6 a7 1 a0 m))))
set_option maxRecDepth 100000 in
set_option maxHeartbeats 4000000 in
theorem gX8_would_j114 (hfl : l.flags = flags0) (l0 : Nat) (l1 : Int32) (l2 : Int32) (l3 : Int32) (l4 : Int32) (l5 : Int32) (l6 : Int32) (l7 : Int32) (t0 : Int32) (t1 : Nat) (m : pmM) : pm_G l Γ zX8_would (d + 2) 114 [.ref l0, .int l1, .int l2, .int l3, .int l4, .int l5, .int l6, .int l7] [.int t0, .ref t1] m (X8_would_j114 l0 l1 l2 l3 l4 l5 l6 l7 t0 t1 m) := by
  unfold X8_would_j114
  refine pm_rcv (fun hb9 hc9 => ?_)
  refine pm_kV (d := d + 1) rfl (pm_V (y := zX8_would) (z := zX8_must) (As := [.int t0]) zkX8_must pm_q8 (by decide) tw_684 tw_686 tw_30 dX8_would_114 rfl rfl (Nat.le_of_ble_eq_true rfl) hb9 hc9) (kcX8_must (d := d + 1) hfl t1 t0 m) (fun m4 => ?_)
  refine pm_aload_n dX8_would_117 rfl rfl ?_
  refine fg_8_3 (y := zX8_would) (Or.inl tw_442) dX8_would_118 (fun r5 => ?_)
  refine pm_iload_n dX8_would_121 rfl rfl ?_
  refine pm_iload_n dX8_would_122 rfl rfl ?_
  refine pm_iload_n dX8_would_123 rfl rfl ?_
  refine pm_iload dX8_would_124 rfl ?_
  refine pm_iload dX8_would_126 rfl ?_
  refine pm_iload dX8_would_128 rfl ?_
  refine pm_iload dX8_would_130 rfl ?_
  refine pm_rcv (fun hb9 hc9 => ?_)
  refine pm_kI (d := d + 1) rfl (pm_VN (y := zX8_would) (z := zX1_priceFor) (As := [.int l1, .int l2, .int l3, .int l4, .int l5, .int l6, .int l7]) zkX1_priceFor pm_q1 (by decide) tw_1169 tw_1014 tw_69 dX8_would_132 rfl rfl (Nat.le_of_ble_eq_true rfl) hb9 hc9) (kcX1_priceFor (d := d + 0) hfl r5 l1 l2 l3 l4 l5 l6 l7 m4) (fun x7 m6 => ?_)
  exact pm_iret rfl dX8_would_135
set_option maxRecDepth 100000 in
set_option maxHeartbeats 4000000 in
theorem gX8_would_j113 (hfl : l.flags = flags0) (l0 : Nat) (l1 : Int32) (l2 : Int32) (l3 : Int32) (l4 : Int32) (l5 : Int32) (l6 : Int32) (l7 : Int32) (t0 : Nat) (m : pmM) : pm_G l Γ zX8_would (d + 2) 113 [.ref l0, .int l1, .int l2, .int l3, .int l4, .int l5, .int l6, .int l7] [.ref t0] m (X8_would_j113 l0 l1 l2 l3 l4 l5 l6 l7 t0 m) := by
  unfold X8_would_j113
  refine pm_iconst (v := 0) dX8_would_113 ki_0 ?_
  exact gX8_would_j114 hfl l0 l1 l2 l3 l4 l5 l6 l7 0 t0 m
set_option maxRecDepth 100000 in
set_option maxHeartbeats 4000000 in
theorem gX8_would_j79 (hfl : l.flags = flags0) (l0 : Nat) (l1 : Int32) (l2 : Int32) (l3 : Int32) (l4 : Int32) (l5 : Int32) (l6 : Int32) (l7 : Int32) (t0 : Int32) (t1 : Nat) (m : pmM) : pm_G l Γ zX8_would (d + 2) 79 [.ref l0, .int l1, .int l2, .int l3, .int l4, .int l5, .int l6, .int l7] [.int t0, .ref t1] m (X8_would_j79 l0 l1 l2 l3 l4 l5 l6 l7 t0 t1 m) := by
  unfold X8_would_j79
  refine pm_rcv (fun hb9 hc9 => ?_)
  refine pm_kV (d := d + 1) rfl (pm_V (y := zX8_would) (z := zX8_must) (As := [.int t0]) zkX8_must pm_q8 (by decide) tw_684 tw_686 tw_30 dX8_would_79 rfl rfl (Nat.le_of_ble_eq_true rfl) hb9 hc9) (kcX8_must (d := d + 1) hfl t1 t0 m) (fun m3 => ?_)
  refine pm_aload_n dX8_would_82 rfl rfl ?_
  refine pm_iload dX8_would_83 rfl ?_
  refine pm_if_lt (tgt := 113) dX8_would_85 rfl ?_ ?_
  · exact gX8_would_j113 hfl l0 l1 l2 l3 l4 l5 l6 l7 l0 m3
  · refine pm_iload dX8_would_88 rfl ?_
    refine pm_sipush (v := 200) dX8_would_90 ks_200 ?_
    refine pm_icmp_gt (tgt := 113) dX8_would_93 rfl ?_ ?_
    · exact gX8_would_j113 hfl l0 l1 l2 l3 l4 l5 l6 l7 l0 m3
    · refine pm_iload dX8_would_96 rfl ?_
      refine pm_if_lt (tgt := 113) dX8_would_98 rfl ?_ ?_
      · exact gX8_would_j113 hfl l0 l1 l2 l3 l4 l5 l6 l7 l0 m3
      · refine pm_iload dX8_would_101 rfl ?_
        refine pm_sipush (v := 999) dX8_would_103 ks_999 ?_
        refine pm_icmp_gt (tgt := 113) dX8_would_106 rfl ?_ ?_
        · exact gX8_would_j113 hfl l0 l1 l2 l3 l4 l5 l6 l7 l0 m3
        · refine pm_iconst (v := 1) dX8_would_109 ki_1 ?_
          refine pm_goto (tgt := 114) dX8_would_110 rfl ?_
          exact gX8_would_j114 hfl l0 l1 l2 l3 l4 l5 l6 l7 1 l0 m3
set_option maxRecDepth 100000 in
set_option maxHeartbeats 4000000 in
theorem gX8_would_j78 (hfl : l.flags = flags0) (l0 : Nat) (l1 : Int32) (l2 : Int32) (l3 : Int32) (l4 : Int32) (l5 : Int32) (l6 : Int32) (l7 : Int32) (t0 : Nat) (m : pmM) : pm_G l Γ zX8_would (d + 2) 78 [.ref l0, .int l1, .int l2, .int l3, .int l4, .int l5, .int l6, .int l7] [.ref t0] m (X8_would_j78 l0 l1 l2 l3 l4 l5 l6 l7 t0 m) := by
  unfold X8_would_j78
  refine pm_iconst (v := 0) dX8_would_78 ki_0 ?_
  exact gX8_would_j79 hfl l0 l1 l2 l3 l4 l5 l6 l7 0 t0 m
set_option maxRecDepth 100000 in
set_option maxHeartbeats 4000000 in
theorem gX8_would_j58 (hfl : l.flags = flags0) (l0 : Nat) (l1 : Int32) (l2 : Int32) (l3 : Int32) (l4 : Int32) (l5 : Int32) (l6 : Int32) (l7 : Int32) (t0 : Int32) (t1 : Nat) (m : pmM) : pm_G l Γ zX8_would (d + 2) 58 [.ref l0, .int l1, .int l2, .int l3, .int l4, .int l5, .int l6, .int l7] [.int t0, .ref t1] m (X8_would_j58 l0 l1 l2 l3 l4 l5 l6 l7 t0 t1 m) := by
  unfold X8_would_j58
  refine pm_rcv (fun hb9 hc9 => ?_)
  refine pm_kV (d := d + 1) rfl (pm_V (y := zX8_would) (z := zX8_must) (As := [.int t0]) zkX8_must pm_q8 (by decide) tw_684 tw_686 tw_30 dX8_would_58 rfl rfl (Nat.le_of_ble_eq_true rfl) hb9 hc9) (kcX8_must (d := d + 1) hfl t1 t0 m) (fun m2 => ?_)
  refine pm_aload_n dX8_would_61 rfl rfl ?_
  refine pm_iload dX8_would_62 rfl ?_
  refine pm_if_lt (tgt := 78) dX8_would_64 rfl ?_ ?_
  · exact gX8_would_j78 hfl l0 l1 l2 l3 l4 l5 l6 l7 l0 m2
  · refine pm_iload dX8_would_67 rfl ?_
    refine pm_bipush (v := 48) dX8_would_69 kb_48 ?_
    refine pm_icmp_gt (tgt := 78) dX8_would_71 rfl ?_ ?_
    · exact gX8_would_j78 hfl l0 l1 l2 l3 l4 l5 l6 l7 l0 m2
    · refine pm_iconst (v := 1) dX8_would_74 ki_1 ?_
      refine pm_goto (tgt := 79) dX8_would_75 rfl ?_
      exact gX8_would_j79 hfl l0 l1 l2 l3 l4 l5 l6 l7 1 l0 m2
set_option maxRecDepth 100000 in
set_option maxHeartbeats 4000000 in
theorem gX8_would_j57 (hfl : l.flags = flags0) (l0 : Nat) (l1 : Int32) (l2 : Int32) (l3 : Int32) (l4 : Int32) (l5 : Int32) (l6 : Int32) (l7 : Int32) (t0 : Nat) (m : pmM) : pm_G l Γ zX8_would (d + 2) 57 [.ref l0, .int l1, .int l2, .int l3, .int l4, .int l5, .int l6, .int l7] [.ref t0] m (X8_would_j57 l0 l1 l2 l3 l4 l5 l6 l7 t0 m) := by
  unfold X8_would_j57
  refine pm_iconst (v := 0) dX8_would_57 ki_0 ?_
  exact gX8_would_j58 hfl l0 l1 l2 l3 l4 l5 l6 l7 0 t0 m
set_option maxRecDepth 100000 in
set_option maxHeartbeats 4000000 in
theorem gX8_would_j27 (hfl : l.flags = flags0) (l0 : Nat) (l1 : Int32) (l2 : Int32) (l3 : Int32) (l4 : Int32) (l5 : Int32) (l6 : Int32) (l7 : Int32) (t0 : Int32) (t1 : Nat) (m : pmM) : pm_G l Γ zX8_would (d + 2) 27 [.ref l0, .int l1, .int l2, .int l3, .int l4, .int l5, .int l6, .int l7] [.int t0, .ref t1] m (X8_would_j27 l0 l1 l2 l3 l4 l5 l6 l7 t0 t1 m) := by
  unfold X8_would_j27
  refine pm_rcv (fun hb9 hc9 => ?_)
  refine pm_kV (d := d + 1) rfl (pm_V (y := zX8_would) (z := zX8_must) (As := [.int t0]) zkX8_must pm_q8 (by decide) tw_684 tw_686 tw_30 dX8_would_27 rfl rfl (Nat.le_of_ble_eq_true rfl) hb9 hc9) (kcX8_must (d := d + 1) hfl t1 t0 m) (fun m1 => ?_)
  refine pm_aload_n dX8_would_30 rfl rfl ?_
  refine pm_iload_n dX8_would_31 rfl rfl ?_
  refine pm_if_lt (tgt := 57) dX8_would_32 rfl ?_ ?_
  · exact gX8_would_j57 hfl l0 l1 l2 l3 l4 l5 l6 l7 l0 m1
  · refine pm_iload_n dX8_would_35 rfl rfl ?_
    refine pm_bipush (v := 8) dX8_would_36 kb_8 ?_
    refine pm_icmp_ge (tgt := 57) dX8_would_38 rfl ?_ ?_
    · exact gX8_would_j57 hfl l0 l1 l2 l3 l4 l5 l6 l7 l0 m1
    · refine pm_iload dX8_would_41 rfl ?_
      refine pm_if_lt (tgt := 57) dX8_would_43 rfl ?_ ?_
      · exact gX8_would_j57 hfl l0 l1 l2 l3 l4 l5 l6 l7 l0 m1
      · refine pm_iload dX8_would_46 rfl ?_
        refine pm_bipush (v := 6) dX8_would_48 kb_6 ?_
        refine pm_icmp_ge (tgt := 57) dX8_would_50 rfl ?_ ?_
        · exact gX8_would_j57 hfl l0 l1 l2 l3 l4 l5 l6 l7 l0 m1
        · refine pm_iconst (v := 1) dX8_would_53 ki_1 ?_
          refine pm_goto (tgt := 58) dX8_would_54 rfl ?_
          exact gX8_would_j58 hfl l0 l1 l2 l3 l4 l5 l6 l7 1 l0 m1
set_option maxRecDepth 100000 in
set_option maxHeartbeats 4000000 in
theorem gX8_would_j26 (hfl : l.flags = flags0) (l0 : Nat) (l1 : Int32) (l2 : Int32) (l3 : Int32) (l4 : Int32) (l5 : Int32) (l6 : Int32) (l7 : Int32) (t0 : Nat) (m : pmM) : pm_G l Γ zX8_would (d + 2) 26 [.ref l0, .int l1, .int l2, .int l3, .int l4, .int l5, .int l6, .int l7] [.ref t0] m (X8_would_j26 l0 l1 l2 l3 l4 l5 l6 l7 t0 m) := by
  unfold X8_would_j26
  refine pm_iconst (v := 0) dX8_would_26 ki_0 ?_
  exact gX8_would_j27 hfl l0 l1 l2 l3 l4 l5 l6 l7 0 t0 m
set_option maxRecDepth 100000 in
set_option maxHeartbeats 4000000 in
theorem kcX8_would (hfl : l.flags = flags0) (a0 : Nat) (a1 : Int32) (a2 : Int32) (a3 : Int32) (a4 : Int32) (a5 : Int32) (a6 : Int32) (a7 : Int32) (m : pmM) : pm_C l Γ zX8_would (d + 2) [.ref a0, .int a1, .int a2, .int a3, .int a4, .int a5, .int a6, .int a7] m (X8_would a0 a1 a2 a3 a4 a5 a6 a7 m) := by
  refine pm_enter (ls := [.ref a0, .int a1, .int a2, .int a3, .int a4, .int a5, .int a6, .int a7]) hfl (by decide +kernel) rfl (Nat.le_of_ble_eq_true rfl) rfl (Nat.le_of_ble_eq_true rfl) ?_
  unfold X8_would
  refine pm_aload_n dX8_would_0 rfl rfl ?_
  refine pm_iload_n dX8_would_1 rfl rfl ?_
  refine pm_iconst (v := 1) dX8_would_2 ki_1 ?_
  refine pm_icmp_lt (tgt := 26) dX8_would_3 rfl ?_ ?_
  · exact gX8_would_j26 hfl a0 a1 a2 a3 a4 a5 a6 a7 a0 m
  · refine pm_iload_n dX8_would_6 rfl rfl ?_
    refine pm_bipush (v := 8) dX8_would_7 kb_8 ?_
    refine pm_icmp_gt (tgt := 26) dX8_would_9 rfl ?_ ?_
    · exact gX8_would_j26 hfl a0 a1 a2 a3 a4 a5 a6 a7 a0 m
    · refine pm_iload_n dX8_would_12 rfl rfl ?_
      refine pm_if_lt (tgt := 26) dX8_would_13 rfl ?_ ?_
      · exact gX8_would_j26 hfl a0 a1 a2 a3 a4 a5 a6 a7 a0 m
      · refine pm_iload_n dX8_would_16 rfl rfl ?_
        refine pm_bipush (v := 8) dX8_would_17 kb_8 ?_
        refine pm_icmp_gt (tgt := 26) dX8_would_19 rfl ?_ ?_
        · exact gX8_would_j26 hfl a0 a1 a2 a3 a4 a5 a6 a7 a0 m
        · refine pm_iconst (v := 1) dX8_would_22 ki_1 ?_
          refine pm_goto (tgt := 27) dX8_would_23 rfl ?_
          exact gX8_would_j27 hfl a0 a1 a2 a3 a4 a5 a6 a7 1 a0 m
-- StruckPage.ahead(II)I
def X8_ahead_j26 (l0 : Nat) (l1 : Int32) (l2 : Int32) (t0 : Int32) (t1 : Nat) (m : pmM) : pmR := pm_rc 8 t1 m <| pm_cV (X8_must t1 t0 m) fun m1 => pm_gR 8 l0 9 m1 fun r2 => pm_gR 8 l0 8 m1 fun r3 => pm_rc 0 r2 m1 <| pm_cV (X0_takeOver r2 r3 m1) fun m4 => pm_gR 8 l0 9 m4 fun r5 => pm_rc 0 r5 m4 <| pm_cI (X0_runOn r5 l1 m4) fun x7 m6 => if l2 = (0 : Int32) then (pm_gR 8 l0 9 m6 fun r8 => pm_gI 0 r8 4 m6 fun x9 => pm_oI x9 m6) else if l2 = (1 : Int32) then (pm_gR 8 l0 9 m6 fun r10 => pm_rc 0 r10 m6 <| pm_cI (X0_inAllCells r10 m6) fun x12 m11 => pm_oI x12 m11) else (pm_gR 8 l0 9 m6 fun r13 => pm_rc 0 r13 m6 <| pm_cI (X0_leftInAll r13 m6) fun x15 m14 => pm_oI x15 m14)
def X8_ahead_j25 (l0 : Nat) (l1 : Int32) (l2 : Int32) (t0 : Nat) (m : pmM) : pmR := X8_ahead_j26 l0 l1 l2 0 t0 m
def X8_ahead (a0 : Nat) (a1 : Int32) (a2 : Int32) (m : pmM) : pmR := if a1 < 0 then (X8_ahead_j25 a0 a1 a2 a0 m) else (if (999 : Int32) < a1 then (X8_ahead_j25 a0 a1 a2 a0 m) else (if a2 < 0 then (X8_ahead_j25 a0 a1 a2 a0 m) else (if (2 : Int32) < a2 then (X8_ahead_j25 a0 a1 a2 a0 m) else (X8_ahead_j26 a0 a1 a2 1 a0 m))))
set_option maxRecDepth 100000 in
set_option maxHeartbeats 4000000 in
theorem gX8_ahead_j26 (hfl : l.flags = flags0) (l0 : Nat) (l1 : Int32) (l2 : Int32) (t0 : Int32) (t1 : Nat) (m : pmM) : pm_G l Γ zX8_ahead (d + 4) 26 [.ref l0, .int l1, .int l2] [.int t0, .ref t1] m (X8_ahead_j26 l0 l1 l2 t0 t1 m) := by
  unfold X8_ahead_j26
  refine pm_rcv (fun hb9 hc9 => ?_)
  refine pm_kV (d := d + 3) rfl (pm_V (y := zX8_ahead) (z := zX8_must) (As := [.int t0]) zkX8_must pm_q8 (by decide) tw_684 tw_686 tw_30 dX8_ahead_26 rfl rfl (Nat.le_of_ble_eq_true rfl) hb9 hc9) (kcX8_must (d := d + 3) hfl t1 t0 m) (fun m1 => ?_)
  refine pm_aload_n dX8_ahead_29 rfl rfl ?_
  refine fg_8_9 (y := zX8_ahead) (Or.inl tw_448) dX8_ahead_30 (fun r2 => ?_)
  refine pm_aload_n dX8_ahead_33 rfl rfl ?_
  refine fg_8_8 (y := zX8_ahead) (Or.inl tw_447) dX8_ahead_34 (fun r3 => ?_)
  refine pm_rcv (fun hb9 hc9 => ?_)
  refine pm_kV (d := d + 3) rfl (pm_VN (y := zX8_ahead) (z := zX0_takeOver) (As := [.ref r3]) zkX0_takeOver pm_q0 (by decide) tw_556 tw_558 tw_8 dX8_ahead_37 rfl rfl (Nat.le_of_ble_eq_true rfl) hb9 hc9) (kcX0_takeOver (d := d + 3) hfl r2 r3 m1) (fun m4 => ?_)
  refine pm_aload_n dX8_ahead_40 rfl rfl ?_
  refine fg_8_9 (y := zX8_ahead) (Or.inl tw_448) dX8_ahead_41 (fun r5 => ?_)
  refine pm_iload_n dX8_ahead_44 rfl rfl ?_
  refine pm_rcv (fun hb9 hc9 => ?_)
  refine pm_kI (d := d + 3) rfl (pm_VN (y := zX8_ahead) (z := zX0_runOn) (As := [.int l1]) zkX0_runOn pm_q0 (by decide) tw_1177 tw_1023 tw_70 dX8_ahead_45 rfl rfl (Nat.le_of_ble_eq_true rfl) hb9 hc9) (kcX0_runOn (d := d + 0) hfl r5 l1 m4) (fun x7 m6 => ?_)
  refine pm_pop dX8_ahead_48 rfl ?_
  refine pm_iload_n dX8_ahead_49 rfl rfl ?_
  refine pm_case (c := (0 : Int32)) (fun h9 => ?_) (fun h9_0 => ?_)
  · refine pm_swL (off := (26)) (tgt := 76) dX8_ahead_50 (by decide) (by rw [h9]; decide) (by decide) ?_
    refine pm_aload_n dX8_ahead_76 rfl rfl ?_
    refine fg_8_9 (y := zX8_ahead) (Or.inl tw_448) dX8_ahead_77 (fun r8 => ?_)
    refine fg_0_4 (y := zX8_ahead) (Or.inr tw_365) dX8_ahead_80 (fun x9 => ?_)
    exact pm_iret rfl dX8_ahead_83
  refine pm_case (c := (1 : Int32)) (fun h9 => ?_) (fun h9_1 => ?_)
  · refine pm_swL (off := (34)) (tgt := 84) dX8_ahead_50 (by decide) (by rw [h9]; decide) (by decide) ?_
    refine pm_aload_n dX8_ahead_84 rfl rfl ?_
    refine fg_8_9 (y := zX8_ahead) (Or.inl tw_448) dX8_ahead_85 (fun r10 => ?_)
    refine pm_rcv (fun hb9 hc9 => ?_)
    refine pm_kI (d := d + 3) rfl (pm_VN (y := zX8_ahead) (z := zX0_inAllCells) (As := []) zkX0_inAllCells pm_q0 (by decide) tw_1076 tw_1078 tw_78 dX8_ahead_88 rfl rfl (Nat.le_of_ble_eq_true rfl) hb9 hc9) (kcX0_inAllCells (d := d + 3) hfl r10 m6) (fun x12 m11 => ?_)
    exact pm_iret rfl dX8_ahead_91
  refine pm_swL (tgt := 92) dX8_ahead_50 (by decide) (pm_lk2 l2 0 1 (pm_ne h9_0 (by decide)) (pm_ne h9_1 (by decide))) (by decide) ?_
  refine pm_aload_n dX8_ahead_92 rfl rfl ?_
  refine fg_8_9 (y := zX8_ahead) (Or.inl tw_448) dX8_ahead_93 (fun r13 => ?_)
  refine pm_rcv (fun hb9 hc9 => ?_)
  refine pm_kI (d := d + 3) rfl (pm_VN (y := zX8_ahead) (z := zX0_leftInAll) (As := []) zkX0_leftInAll pm_q0 (by decide) tw_1075 tw_613 tw_19 dX8_ahead_96 rfl rfl (Nat.le_of_ble_eq_true rfl) hb9 hc9) (kcX0_leftInAll (d := d + 2) hfl r13 m6) (fun x15 m14 => ?_)
  exact pm_iret rfl dX8_ahead_99
set_option maxRecDepth 100000 in
set_option maxHeartbeats 4000000 in
theorem gX8_ahead_j25 (hfl : l.flags = flags0) (l0 : Nat) (l1 : Int32) (l2 : Int32) (t0 : Nat) (m : pmM) : pm_G l Γ zX8_ahead (d + 4) 25 [.ref l0, .int l1, .int l2] [.ref t0] m (X8_ahead_j25 l0 l1 l2 t0 m) := by
  unfold X8_ahead_j25
  refine pm_iconst (v := 0) dX8_ahead_25 ki_0 ?_
  exact gX8_ahead_j26 hfl l0 l1 l2 0 t0 m
set_option maxRecDepth 100000 in
set_option maxHeartbeats 4000000 in
theorem kcX8_ahead (hfl : l.flags = flags0) (a0 : Nat) (a1 : Int32) (a2 : Int32) (m : pmM) : pm_C l Γ zX8_ahead (d + 4) [.ref a0, .int a1, .int a2] m (X8_ahead a0 a1 a2 m) := by
  refine pm_enter (ls := [.ref a0, .int a1, .int a2]) hfl (by decide +kernel) rfl (Nat.le_of_ble_eq_true rfl) rfl (Nat.le_of_ble_eq_true rfl) ?_
  unfold X8_ahead
  refine pm_aload_n dX8_ahead_0 rfl rfl ?_
  refine pm_iload_n dX8_ahead_1 rfl rfl ?_
  refine pm_if_lt (tgt := 25) dX8_ahead_2 rfl ?_ ?_
  · exact gX8_ahead_j25 hfl a0 a1 a2 a0 m
  · refine pm_iload_n dX8_ahead_5 rfl rfl ?_
    refine pm_sipush (v := 999) dX8_ahead_6 ks_999 ?_
    refine pm_icmp_gt (tgt := 25) dX8_ahead_9 rfl ?_ ?_
    · exact gX8_ahead_j25 hfl a0 a1 a2 a0 m
    · refine pm_iload_n dX8_ahead_12 rfl rfl ?_
      refine pm_if_lt (tgt := 25) dX8_ahead_13 rfl ?_ ?_
      · exact gX8_ahead_j25 hfl a0 a1 a2 a0 m
      · refine pm_iload_n dX8_ahead_16 rfl rfl ?_
        refine pm_iconst (v := 2) dX8_ahead_17 ki_2 ?_
        refine pm_icmp_gt (tgt := 25) dX8_ahead_18 rfl ?_ ?_
        · exact gX8_ahead_j25 hfl a0 a1 a2 a0 m
        · refine pm_iconst (v := 1) dX8_ahead_21 ki_1 ?_
          refine pm_goto (tgt := 26) dX8_ahead_22 rfl ?_
          exact gX8_ahead_j26 hfl a0 a1 a2 1 a0 m
-- StruckPage.ends()I
def X8_ends_L13 (l0 : Nat) (again13 : (Int32 × pmM) → pmR) (s13 : Int32 × pmM) : pmR := if (999 : Int32) < s13.1 then (pm_oI (-1) s13.2) else (pm_gR 8 l0 9 s13.2 fun r4 => pm_rc 0 r4 s13.2 <| pm_cI (X0_doDeed r4 s13.2) fun x6 m5 => if x6 = 0 then (pm_oI s13.1 m5) else (pm_bI (s13.1 + 1) fun x7 => again13 (x7, m5)))
def X8_ends (a0 : Nat) (m : pmM) : pmR := pm_gR 8 a0 9 m fun r1 => pm_gR 8 a0 8 m fun r2 => pm_rc 0 r1 m <| pm_cV (X0_takeOver r1 r2 m) fun m3 => pm_lp pm_N (X8_ends_L13 a0) (0, m3)
set_option maxRecDepth 100000 in
set_option maxHeartbeats 4000000 in
theorem gX8_ends_L13 (hfl : l.flags = flags0) (l0 : Nat) : ∀ (n : Nat) (s : Int32 × pmM), pm_G l Γ zX8_ends (d + 3) 13 [.ref l0, .int s.1] [] s.2 (pm_lp n (X8_ends_L13 l0) s) :=
  pm_loop (lsf := fun s : Int32 × pmM => [.ref l0, .int s.1]) (mf := fun s : Int32 × pmM => s.2) (fun again13 hag13 s13 => by
    unfold X8_ends_L13
    refine pm_iload_n dX8_ends_13 rfl rfl ?_
    refine pm_sipush (v := 999) dX8_ends_14 ks_999 ?_
    refine pm_icmp_gt (tgt := 38) dX8_ends_17 rfl ?_ ?_
    · refine pm_iconst (v := (-1)) dX8_ends_38 ki_n1 ?_
      exact pm_iret rfl dX8_ends_39
    · refine pm_aload_n dX8_ends_20 rfl rfl ?_
      refine fg_8_9 (y := zX8_ends) (Or.inl tw_448) dX8_ends_21 (fun r4 => ?_)
      refine pm_rcv (fun hb9 hc9 => ?_)
      refine pm_kI (d := d + 2) rfl (pm_VN (y := zX8_ends) (z := zX0_doDeed) (As := []) zkX0_doDeed pm_q0 (by decide) tw_560 tw_562 tw_9 dX8_ends_24 rfl rfl (Nat.le_of_ble_eq_true rfl) hb9 hc9) (kcX0_doDeed (d := d + 0) hfl r4 s13.2) (fun x6 m5 => ?_)
      refine pm_if_ne (tgt := 32) dX8_ends_27 rfl ?_ ?_
      · refine pm_iincn (y := zX8_ends) dX8_ends_32 rfl ki_1 rfl (Nat.le_of_ble_eq_true rfl) (fun x7 => ?_)
        refine pm_eqls (ls2 := [.ref l0, .int x7]) rfl ?_
        refine pm_goto (tgt := 13) dX8_ends_35 rfl ?_
        exact hag13 (x7, m5)
      · refine pm_iload_n dX8_ends_30 rfl rfl ?_
        exact pm_iret rfl dX8_ends_31)
set_option maxRecDepth 100000 in
set_option maxHeartbeats 4000000 in
theorem kcX8_ends (hfl : l.flags = flags0) (a0 : Nat) (m : pmM) : pm_C l Γ zX8_ends (d + 3) [.ref a0] m (X8_ends a0 m) := by
  refine pm_enter (ls := [.ref a0, pmU]) hfl (by decide +kernel) rfl (Nat.le_of_ble_eq_true rfl) rfl (Nat.le_of_ble_eq_true rfl) ?_
  unfold X8_ends
  refine pm_aload_n dX8_ends_0 rfl rfl ?_
  refine fg_8_9 (y := zX8_ends) (Or.inl tw_448) dX8_ends_1 (fun r1 => ?_)
  refine pm_aload_n dX8_ends_4 rfl rfl ?_
  refine fg_8_8 (y := zX8_ends) (Or.inl tw_447) dX8_ends_5 (fun r2 => ?_)
  refine pm_rcv (fun hb9 hc9 => ?_)
  refine pm_kV (d := d + 2) rfl (pm_VN (y := zX8_ends) (z := zX0_takeOver) (As := [.ref r2]) zkX0_takeOver pm_q0 (by decide) tw_556 tw_558 tw_8 dX8_ends_8 rfl rfl (Nat.le_of_ble_eq_true rfl) hb9 hc9) (kcX0_takeOver (d := d + 2) hfl r1 r2 m) (fun m3 => ?_)
  refine pm_iconst (v := 0) dX8_ends_11 ki_0 ?_
  refine pm_istore_n (ls2 := [.ref a0, .int 0]) dX8_ends_12 rfl rfl (Nat.le_of_ble_eq_true rfl) rfl ?_
  exact gX8_ends_L13 hfl a0 pm_N (0, m3)
-- StruckPage.says()Z
def X8_says (a0 : Nat) (m : pmM) : pmR := pm_gR 8 a0 8 m fun r1 => pm_gR 8 a0 5 m fun r2 => pm_rc 0 r1 m <| pm_cI (X0_speaks r1 r2 m) fun x4 m3 => pm_oI (vp_nar .boolean x4) m3
set_option maxRecDepth 100000 in
set_option maxHeartbeats 4000000 in
theorem kcX8_says (hfl : l.flags = flags0) (a0 : Nat) (m : pmM) : pm_C l Γ zX8_says (d + 3) [.ref a0] m (X8_says a0 m) := by
  refine pm_enter (ls := [.ref a0]) hfl (by decide +kernel) rfl (Nat.le_of_ble_eq_true rfl) rfl (Nat.le_of_ble_eq_true rfl) ?_
  unfold X8_says
  refine pm_aload_n dX8_says_0 rfl rfl ?_
  refine fg_8_8 (y := zX8_says) (Or.inl tw_447) dX8_says_1 (fun r1 => ?_)
  refine pm_aload_n dX8_says_4 rfl rfl ?_
  refine fg_8_5 (y := zX8_says) (Or.inl tw_444) dX8_says_5 (fun r2 => ?_)
  refine pm_rcv (fun hb9 hc9 => ?_)
  refine pm_kI (d := d + 2) rfl (pm_VN (y := zX8_says) (z := zX0_speaks) (As := [.ref r2]) zkX0_speaks pm_q0 (by decide) tw_607 tw_609 tw_18 dX8_says_8 rfl rfl (Nat.le_of_ble_eq_true rfl) hb9 hc9) (kcX0_speaks (d := d + 0) hfl r1 r2 m) (fun x4 m3 => ?_)
  exact pm_nret (ty := .boolean) (w := vp_nar .boolean x4) rfl (by decide) rfl dX8_says_11
-- StruckPage.ways()J
def X8_ways (a0 : Nat) (m : pmM) : pmR := pm_gR 8 a0 11 m fun r1 => pm_gR 8 a0 5 m fun r2 => pm_rc 4 r1 m <| pm_cL (X4_waysTo r1 r2 m) fun x4 m3 => pm_oL x4 m3
set_option maxRecDepth 100000 in
set_option maxHeartbeats 4000000 in
theorem kcX8_ways (hfl : l.flags = flags0) (a0 : Nat) (m : pmM) : pm_C l Γ zX8_ways (d + 2) [.ref a0] m (X8_ways a0 m) := by
  refine pm_enter (ls := [.ref a0]) hfl (by decide +kernel) rfl (Nat.le_of_ble_eq_true rfl) rfl (Nat.le_of_ble_eq_true rfl) ?_
  unfold X8_ways
  refine pm_aload_n dX8_ways_0 rfl rfl ?_
  refine fg_8_11 (y := zX8_ways) (Or.inl tw_450) dX8_ways_1 (fun r1 => ?_)
  refine pm_aload_n dX8_ways_4 rfl rfl ?_
  refine fg_8_5 (y := zX8_ways) (Or.inl tw_444) dX8_ways_5 (fun r2 => ?_)
  refine pm_rcv (fun hb9 hc9 => ?_)
  refine pm_kL (d := d + 1) rfl (pm_VN (y := zX8_ways) (z := zX4_waysTo) (As := [.ref r2]) zkX4_waysTo pm_q4 (by decide) tw_619 tw_621 tw_20 dX8_ways_8 rfl rfl (Nat.le_of_ble_eq_true rfl) hb9 hc9) (kcX4_waysTo (d := d + 0) hfl r1 r2 m) (fun x4 m3 => ?_)
  exact pm_lret rfl dX8_ways_11
-- StruckPage.strokes()I
def X8_strokes (a0 : Nat) (m : pmM) : pmR := pm_gR 8 a0 11 m fun r1 => pm_gR 8 a0 8 m fun r2 => pm_gR 8 a0 5 m fun r3 => pm_rc 4 r1 m <| pm_cV (X4_seekFewest r1 r2 r3 m) fun m4 => pm_gR 8 a0 11 m4 fun r5 => pm_gR 8 a0 5 m4 fun r6 => pm_gI 3 r6 1 m4 fun x7 => pm_rc 4 r5 m4 <| pm_cI (X4_foundFewest r5 x7 m4) fun x9 m8 => pm_oI x9 m8
set_option maxRecDepth 100000 in
set_option maxHeartbeats 4000000 in
theorem kcX8_strokes (hfl : l.flags = flags0) (a0 : Nat) (m : pmM) : pm_C l Γ zX8_strokes (d + 3) [.ref a0] m (X8_strokes a0 m) := by
  refine pm_enter (ls := [.ref a0]) hfl (by decide +kernel) rfl (Nat.le_of_ble_eq_true rfl) rfl (Nat.le_of_ble_eq_true rfl) ?_
  unfold X8_strokes
  refine pm_aload_n dX8_strokes_0 rfl rfl ?_
  refine fg_8_11 (y := zX8_strokes) (Or.inl tw_450) dX8_strokes_1 (fun r1 => ?_)
  refine pm_aload_n dX8_strokes_4 rfl rfl ?_
  refine fg_8_8 (y := zX8_strokes) (Or.inl tw_447) dX8_strokes_5 (fun r2 => ?_)
  refine pm_aload_n dX8_strokes_8 rfl rfl ?_
  refine fg_8_5 (y := zX8_strokes) (Or.inl tw_444) dX8_strokes_9 (fun r3 => ?_)
  refine pm_rcv (fun hb9 hc9 => ?_)
  refine pm_kV (d := d + 2) rfl (pm_VN (y := zX8_strokes) (z := zX4_seekFewest) (As := [.ref r2, .ref r3]) zkX4_seekFewest pm_q4 (by decide) tw_632 tw_634 tw_22 dX8_strokes_12 rfl rfl (Nat.le_of_ble_eq_true rfl) hb9 hc9) (kcX4_seekFewest (d := d + 0) hfl r1 r2 r3 m) (fun m4 => ?_)
  refine pm_aload_n dX8_strokes_15 rfl rfl ?_
  refine fg_8_11 (y := zX8_strokes) (Or.inl tw_450) dX8_strokes_16 (fun r5 => ?_)
  refine pm_aload_n dX8_strokes_19 rfl rfl ?_
  refine fg_8_5 (y := zX8_strokes) (Or.inl tw_444) dX8_strokes_20 (fun r6 => ?_)
  refine fg_3_1 (y := zX8_strokes) (Or.inr tw_305) dX8_strokes_23 (fun x7 => ?_)
  refine pm_rcv (fun hb9 hc9 => ?_)
  refine pm_kI (d := d + 2) rfl (pm_VN (y := zX8_strokes) (z := zX4_foundFewest) (As := [.int x7]) zkX4_foundFewest pm_q4 (by decide) tw_652 tw_654 tw_27 dX8_strokes_26 rfl rfl (Nat.le_of_ble_eq_true rfl) hb9 hc9) (kcX4_foundFewest (d := d + 2) hfl r5 x7 m4) (fun x9 m8 => ?_)
  exact pm_iret rfl dX8_strokes_29
-- StruckPage.best()J
def X8_best (a0 : Nat) (m : pmM) : pmR := pm_gR 8 a0 11 m fun r1 => pm_gR 8 a0 8 m fun r2 => pm_gR 8 a0 5 m fun r3 => pm_rc 4 r1 m <| pm_cV (X4_seekFewest r1 r2 r3 m) fun m4 => pm_gR 8 a0 11 m4 fun r5 => pm_gR 8 a0 5 m4 fun r6 => pm_gI 3 r6 1 m4 fun x7 => pm_rc 4 r5 m4 <| pm_cL (X4_foundMany r5 x7 m4) fun x9 m8 => pm_oL x9 m8
set_option maxRecDepth 100000 in
set_option maxHeartbeats 4000000 in
theorem kcX8_best (hfl : l.flags = flags0) (a0 : Nat) (m : pmM) : pm_C l Γ zX8_best (d + 3) [.ref a0] m (X8_best a0 m) := by
  refine pm_enter (ls := [.ref a0]) hfl (by decide +kernel) rfl (Nat.le_of_ble_eq_true rfl) rfl (Nat.le_of_ble_eq_true rfl) ?_
  unfold X8_best
  refine pm_aload_n dX8_best_0 rfl rfl ?_
  refine fg_8_11 (y := zX8_best) (Or.inl tw_450) dX8_best_1 (fun r1 => ?_)
  refine pm_aload_n dX8_best_4 rfl rfl ?_
  refine fg_8_8 (y := zX8_best) (Or.inl tw_447) dX8_best_5 (fun r2 => ?_)
  refine pm_aload_n dX8_best_8 rfl rfl ?_
  refine fg_8_5 (y := zX8_best) (Or.inl tw_444) dX8_best_9 (fun r3 => ?_)
  refine pm_rcv (fun hb9 hc9 => ?_)
  refine pm_kV (d := d + 2) rfl (pm_VN (y := zX8_best) (z := zX4_seekFewest) (As := [.ref r2, .ref r3]) zkX4_seekFewest pm_q4 (by decide) tw_632 tw_634 tw_22 dX8_best_12 rfl rfl (Nat.le_of_ble_eq_true rfl) hb9 hc9) (kcX4_seekFewest (d := d + 0) hfl r1 r2 r3 m) (fun m4 => ?_)
  refine pm_aload_n dX8_best_15 rfl rfl ?_
  refine fg_8_11 (y := zX8_best) (Or.inl tw_450) dX8_best_16 (fun r5 => ?_)
  refine pm_aload_n dX8_best_19 rfl rfl ?_
  refine fg_8_5 (y := zX8_best) (Or.inl tw_444) dX8_best_20 (fun r6 => ?_)
  refine fg_3_1 (y := zX8_best) (Or.inr tw_305) dX8_best_23 (fun x7 => ?_)
  refine pm_rcv (fun hb9 hc9 => ?_)
  refine pm_kL (d := d + 2) rfl (pm_VN (y := zX8_best) (z := zX4_foundMany) (As := [.int x7]) zkX4_foundMany pm_q4 (by decide) tw_660 tw_662 tw_28 dX8_best_26 rfl rfl (Nat.le_of_ble_eq_true rfl) hb9 hc9) (kcX4_foundMany (d := d + 2) hfl r5 x7 m4) (fun x9 m8 => ?_)
  exact pm_lret rfl dX8_best_29
-- StruckPage.unlike(I)J
def X8_unlike_j16 (l0 : Nat) (l1 : Int32) (t0 : Int32) (t1 : Nat) (m : pmM) : pmR := pm_rc 8 t1 m <| pm_cV (X8_must t1 t0 m) fun m1 => pm_gR 8 l0 11 m1 fun r2 => pm_rc 4 r2 m1 <| pm_cL (X4_unlikeRows r2 l1 m1) fun x4 m3 => pm_oL x4 m3
def X8_unlike_j15 (l0 : Nat) (l1 : Int32) (t0 : Nat) (m : pmM) : pmR := X8_unlike_j16 l0 l1 0 t0 m
def X8_unlike (a0 : Nat) (a1 : Int32) (m : pmM) : pmR := if a1 < 0 then (X8_unlike_j15 a0 a1 a0 m) else (if (12 : Int32) < a1 then (X8_unlike_j15 a0 a1 a0 m) else (X8_unlike_j16 a0 a1 1 a0 m))
set_option maxRecDepth 100000 in
set_option maxHeartbeats 4000000 in
theorem gX8_unlike_j16 (hfl : l.flags = flags0) (l0 : Nat) (l1 : Int32) (t0 : Int32) (t1 : Nat) (m : pmM) : pm_G l Γ zX8_unlike (d + 2) 16 [.ref l0, .int l1] [.int t0, .ref t1] m (X8_unlike_j16 l0 l1 t0 t1 m) := by
  unfold X8_unlike_j16
  refine pm_rcv (fun hb9 hc9 => ?_)
  refine pm_kV (d := d + 1) rfl (pm_V (y := zX8_unlike) (z := zX8_must) (As := [.int t0]) zkX8_must pm_q8 (by decide) tw_684 tw_686 tw_30 dX8_unlike_16 rfl rfl (Nat.le_of_ble_eq_true rfl) hb9 hc9) (kcX8_must (d := d + 1) hfl t1 t0 m) (fun m1 => ?_)
  refine pm_aload_n dX8_unlike_19 rfl rfl ?_
  refine fg_8_11 (y := zX8_unlike) (Or.inl tw_450) dX8_unlike_20 (fun r2 => ?_)
  refine pm_iload_n dX8_unlike_23 rfl rfl ?_
  refine pm_rcv (fun hb9 hc9 => ?_)
  refine pm_kL (d := d + 1) rfl (pm_VN (y := zX8_unlike) (z := zX4_unlikeRows) (As := [.int l1]) zkX4_unlikeRows pm_q4 (by decide) tw_1185 tw_1187 tw_85 dX8_unlike_24 rfl rfl (Nat.le_of_ble_eq_true rfl) hb9 hc9) (kcX4_unlikeRows (d := d + 0) hfl r2 l1 m1) (fun x4 m3 => ?_)
  exact pm_lret rfl dX8_unlike_27
set_option maxRecDepth 100000 in
set_option maxHeartbeats 4000000 in
theorem gX8_unlike_j15 (hfl : l.flags = flags0) (l0 : Nat) (l1 : Int32) (t0 : Nat) (m : pmM) : pm_G l Γ zX8_unlike (d + 2) 15 [.ref l0, .int l1] [.ref t0] m (X8_unlike_j15 l0 l1 t0 m) := by
  unfold X8_unlike_j15
  refine pm_iconst (v := 0) dX8_unlike_15 ki_0 ?_
  exact gX8_unlike_j16 hfl l0 l1 0 t0 m
set_option maxRecDepth 100000 in
set_option maxHeartbeats 4000000 in
theorem kcX8_unlike (hfl : l.flags = flags0) (a0 : Nat) (a1 : Int32) (m : pmM) : pm_C l Γ zX8_unlike (d + 2) [.ref a0, .int a1] m (X8_unlike a0 a1 m) := by
  refine pm_enter (ls := [.ref a0, .int a1]) hfl (by decide +kernel) rfl (Nat.le_of_ble_eq_true rfl) rfl (Nat.le_of_ble_eq_true rfl) ?_
  unfold X8_unlike
  refine pm_aload_n dX8_unlike_0 rfl rfl ?_
  refine pm_iload_n dX8_unlike_1 rfl rfl ?_
  refine pm_if_lt (tgt := 15) dX8_unlike_2 rfl ?_ ?_
  · exact gX8_unlike_j15 hfl a0 a1 a0 m
  · refine pm_iload_n dX8_unlike_5 rfl rfl ?_
    refine pm_bipush (v := 12) dX8_unlike_6 kb_12 ?_
    refine pm_icmp_gt (tgt := 15) dX8_unlike_8 rfl ?_ ?_
    · exact gX8_unlike_j15 hfl a0 a1 a0 m
    · refine pm_iconst (v := 1) dX8_unlike_11 ki_1 ?_
      refine pm_goto (tgt := 16) dX8_unlike_12 rfl ?_
      exact gX8_unlike_j16 hfl a0 a1 1 a0 m
-- StruckPage.named(III)I
def X8_named (a0 : Int32) (a1 : Int32) (a2 : Int32) (m : pmM) : pmR := pm_oI ((((100 : Int32) * a0) + ((10 : Int32) * a1)) + a2) m
set_option maxRecDepth 100000 in
set_option maxHeartbeats 4000000 in
theorem kcX8_named (hfl : l.flags = flags0) (a0 : Int32) (a1 : Int32) (a2 : Int32) (m : pmM) : pm_C l Γ zX8_named (d + 0) [.int a0, .int a1, .int a2] m (X8_named a0 a1 a2 m) := by
  refine pm_enter (ls := [.int a0, .int a1, .int a2]) hfl (by decide +kernel) rfl (Nat.le_of_ble_eq_true rfl) rfl (Nat.le_of_ble_eq_true rfl) ?_
  unfold X8_named
  refine pm_bipush (v := 100) dX8_named_0 kb_100 ?_
  refine pm_iload_n dX8_named_2 rfl rfl ?_
  refine pm_imul dX8_named_3 ?_
  refine pm_bipush (v := 10) dX8_named_4 kb_10 ?_
  refine pm_iload_n dX8_named_6 rfl rfl ?_
  refine pm_imul dX8_named_7 ?_
  refine pm_iadd dX8_named_8 ?_
  refine pm_iload_n dX8_named_9 rfl rfl ?_
  refine pm_iadd dX8_named_10 ?_
  exact pm_iret rfl dX8_named_11
-- StruckPage.forged(I)I
def X8_forged_j156 (t0 : Int32) (m : pmM) : pmR := pm_oI t0 m
def X8_forged_j129 (again36 : (Int32 × Int32 × Int32 × pmM) → pmR) (again51 : (Int32 × Int32 × Int32 × pmM) → pmR) (again70 : (Int32 × Int32 × Int32 × pmM) → pmR) (l0 : Nat) (l1 : Int32) (l2 : Int32) (l3 : Int32) (l4 : Int32) (l5 : Int32) (l6 : Int32) (m : pmM) : pmR := pm_bI (l6 + 1) fun x21 => again70 (l2, l3, x21, m)
def X8_forged_j125 (again36 : (Int32 × Int32 × Int32 × pmM) → pmR) (again51 : (Int32 × Int32 × Int32 × pmM) → pmR) (again70 : (Int32 × Int32 × Int32 × pmM) → pmR) (l0 : Nat) (l1 : Int32) (l2 : Int32) (l4 : Int32) (l5 : Int32) (l6 : Int32) (t0 : Int32) (m : pmM) : pmR := pm_bI (l2 + 1) fun x22 => X8_forged_j129 again36 again51 again70 l0 l1 x22 t0 l4 l5 l6 m
def X8_forged_L70 (again36 : (Int32 × Int32 × Int32 × pmM) → pmR) (again51 : (Int32 × Int32 × Int32 × pmM) → pmR) (l0 : Nat) (l1 : Int32) (l4 : Int32) (l5 : Int32) (again70 : (Int32 × Int32 × Int32 × pmM) → pmR) (s70 : Int32 × Int32 × Int32 × pmM) : pmR := pm_gR 8 l0 1 s70.2.2.2 fun r11 => pm_gR 2 r11 0 s70.2.2.2 fun r12 => pm_ld 100 r12 l4 s70.2.2.2 fun x13 => if x13 ≤ s70.2.2.1 then (pm_bI (l5 + 1) fun x14 => again51 (s70.1, s70.2.1, x14, s70.2.2.2)) else (pm_gR 8 l0 9 s70.2.2.2 fun r15 => pm_gR 8 l0 5 s70.2.2.2 fun r16 => pm_cI (X8_bitsOf l5 s70.2.2.1 s70.2.2.2) fun x18 m17 => pm_rc 0 r15 m17 <| pm_cI (X0_speaksBehind r15 r16 l4 x18 m17) fun x20 m19 => if x20 = 0 then (X8_forged_j129 again36 again51 again70 l0 l1 s70.1 s70.2.1 l4 l5 s70.2.2.1 m19) else (if s70.1 = 0 then (pm_cI (X8_named l4 l5 s70.2.2.1 m19) fun x24 m23 => X8_forged_j125 again36 again51 again70 l0 l1 s70.1 l4 l5 s70.2.2.1 x24 m23) else (X8_forged_j125 again36 again51 again70 l0 l1 s70.1 l4 l5 s70.2.2.1 s70.2.1 m19)))
def X8_forged_L51 (again36 : (Int32 × Int32 × Int32 × pmM) → pmR) (l0 : Nat) (l1 : Int32) (l4 : Int32) (again51 : (Int32 × Int32 × Int32 × pmM) → pmR) (s51 : Int32 × Int32 × Int32 × pmM) : pmR := pm_gR 8 l0 1 s51.2.2.2 fun r7 => pm_gR 2 r7 0 s51.2.2.2 fun r8 => pm_ld 100 r8 l4 s51.2.2.2 fun x9 => if x9 ≤ s51.2.2.1 then (pm_bI (l4 + 1) fun x10 => again36 (s51.1, s51.2.1, x10, s51.2.2.2)) else (pm_lp pm_N (X8_forged_L70 again36 again51 l0 l1 l4 s51.2.2.1) (s51.1, s51.2.1, s51.2.2.1, s51.2.2.2))
def X8_forged_L36 (l0 : Nat) (l1 : Int32) (again36 : (Int32 × Int32 × Int32 × pmM) → pmR) (s36 : Int32 × Int32 × Int32 × pmM) : pmR := pm_gR 8 l0 1 s36.2.2.2 fun r5 => pm_gI 2 r5 3 s36.2.2.2 fun x6 => if x6 ≤ s36.2.2.1 then (if l1 = 0 then (X8_forged_j156 s36.1 s36.2.2.2) else (X8_forged_j156 s36.2.1 s36.2.2.2)) else (pm_lp pm_N (X8_forged_L51 again36 l0 l1 s36.2.2.1) (s36.1, s36.2.1, 0, s36.2.2.2))
def X8_forged_j15 (l0 : Nat) (l1 : Int32) (t0 : Int32) (t1 : Nat) (m : pmM) : pmR := pm_rc 8 t1 m <| pm_cV (X8_must t1 t0 m) fun m1 => pm_gR 8 l0 9 m1 fun r2 => pm_gR 8 l0 8 m1 fun r3 => pm_rc 0 r2 m1 <| pm_cV (X0_takeOver r2 r3 m1) fun m4 => pm_lp pm_N (X8_forged_L36 l0 l1) (0, (-1), 0, m4)
def X8_forged_j10 (l0 : Nat) (l1 : Int32) (t0 : Nat) (m : pmM) : pmR := X8_forged_j15 l0 l1 1 t0 m
def X8_forged (a0 : Nat) (a1 : Int32) (m : pmM) : pmR := if a1 = 0 then (X8_forged_j10 a0 a1 a0 m) else (if a1 = 1 then (X8_forged_j10 a0 a1 a0 m) else (X8_forged_j15 a0 a1 0 a0 m))
set_option maxRecDepth 100000 in
set_option maxHeartbeats 4000000 in
theorem gX8_forged_j156 (hfl : l.flags = flags0) (t0 : Int32) (m : pmM) : pm_G l Γ zX8_forged (d + 4) 156 [pmU, pmU, pmU, pmU, pmU, pmU, pmU] [.int t0] m (X8_forged_j156 t0 m) := by
  unfold X8_forged_j156
  exact pm_iret rfl dX8_forged_156
set_option maxRecDepth 100000 in
set_option maxHeartbeats 4000000 in
theorem gX8_forged_j129 (hfl : l.flags = flags0) (again36 : (Int32 × Int32 × Int32 × pmM) → pmR) (again51 : (Int32 × Int32 × Int32 × pmM) → pmR) (again70 : (Int32 × Int32 × Int32 × pmM) → pmR) (l0 : Nat) (l1 : Int32) (l2 : Int32) (l3 : Int32) (l4 : Int32) (l5 : Int32) (l6 : Int32) (m : pmM) (hag36 : ∀ s : Int32 × Int32 × Int32 × pmM, pm_G l Γ zX8_forged (d + 4) 36 [.ref l0, .int l1, .int s.1, .int s.2.1, .int s.2.2.1, pmU, pmU] [] s.2.2.2 (again36 s)) (hag51 : ∀ s : Int32 × Int32 × Int32 × pmM, pm_G l Γ zX8_forged (d + 4) 51 [.ref l0, .int l1, .int s.1, .int s.2.1, .int l4, .int s.2.2.1, pmU] [] s.2.2.2 (again51 s)) (hag70 : ∀ s : Int32 × Int32 × Int32 × pmM, pm_G l Γ zX8_forged (d + 4) 70 [.ref l0, .int l1, .int s.1, .int s.2.1, .int l4, .int l5, .int s.2.2.1] [] s.2.2.2 (again70 s)) : pm_G l Γ zX8_forged (d + 4) 129 [.ref l0, .int l1, .int l2, .int l3, .int l4, .int l5, .int l6] [] m (X8_forged_j129 again36 again51 again70 l0 l1 l2 l3 l4 l5 l6 m) := by
  unfold X8_forged_j129
  refine pm_iincn (y := zX8_forged) dX8_forged_129 rfl ki_1 rfl (Nat.le_of_ble_eq_true rfl) (fun x21 => ?_)
  refine pm_eqls (ls2 := [.ref l0, .int l1, .int l2, .int l3, .int l4, .int l5, .int x21]) rfl ?_
  refine pm_goto (tgt := 70) dX8_forged_132 rfl ?_
  exact hag70 (l2, l3, x21, m)
set_option maxRecDepth 100000 in
set_option maxHeartbeats 4000000 in
theorem gX8_forged_j125 (hfl : l.flags = flags0) (again36 : (Int32 × Int32 × Int32 × pmM) → pmR) (again51 : (Int32 × Int32 × Int32 × pmM) → pmR) (again70 : (Int32 × Int32 × Int32 × pmM) → pmR) (l0 : Nat) (l1 : Int32) (l2 : Int32) (l4 : Int32) (l5 : Int32) (l6 : Int32) (t0 : Int32) (m : pmM) (hag36 : ∀ s : Int32 × Int32 × Int32 × pmM, pm_G l Γ zX8_forged (d + 4) 36 [.ref l0, .int l1, .int s.1, .int s.2.1, .int s.2.2.1, pmU, pmU] [] s.2.2.2 (again36 s)) (hag51 : ∀ s : Int32 × Int32 × Int32 × pmM, pm_G l Γ zX8_forged (d + 4) 51 [.ref l0, .int l1, .int s.1, .int s.2.1, .int l4, .int s.2.2.1, pmU] [] s.2.2.2 (again51 s)) (hag70 : ∀ s : Int32 × Int32 × Int32 × pmM, pm_G l Γ zX8_forged (d + 4) 70 [.ref l0, .int l1, .int s.1, .int s.2.1, .int l4, .int l5, .int s.2.2.1] [] s.2.2.2 (again70 s)) : pm_G l Γ zX8_forged (d + 4) 125 [.ref l0, .int l1, .int l2, pmU, .int l4, .int l5, .int l6] [.int t0] m (X8_forged_j125 again36 again51 again70 l0 l1 l2 l4 l5 l6 t0 m) := by
  unfold X8_forged_j125
  refine pm_istore_n (ls2 := [.ref l0, .int l1, .int l2, .int t0, .int l4, .int l5, .int l6]) dX8_forged_125 rfl rfl (Nat.le_of_ble_eq_true rfl) rfl ?_
  refine pm_iincn (y := zX8_forged) dX8_forged_126 rfl ki_1 rfl (Nat.le_of_ble_eq_true rfl) (fun x22 => ?_)
  refine pm_eqls (ls2 := [.ref l0, .int l1, .int x22, .int t0, .int l4, .int l5, .int l6]) rfl ?_
  exact gX8_forged_j129 hfl again36 again51 again70 l0 l1 x22 t0 l4 l5 l6 m hag36 hag51 hag70
set_option maxRecDepth 100000 in
set_option maxHeartbeats 4000000 in
theorem gX8_forged_L70 (hfl : l.flags = flags0) (again36 : (Int32 × Int32 × Int32 × pmM) → pmR) (again51 : (Int32 × Int32 × Int32 × pmM) → pmR) (l0 : Nat) (l1 : Int32) (l4 : Int32) (l5 : Int32) (hag36 : ∀ s : Int32 × Int32 × Int32 × pmM, pm_G l Γ zX8_forged (d + 4) 36 [.ref l0, .int l1, .int s.1, .int s.2.1, .int s.2.2.1, pmU, pmU] [] s.2.2.2 (again36 s)) (hag51 : ∀ s : Int32 × Int32 × Int32 × pmM, pm_G l Γ zX8_forged (d + 4) 51 [.ref l0, .int l1, .int s.1, .int s.2.1, .int l4, .int s.2.2.1, pmU] [] s.2.2.2 (again51 s)) : ∀ (n : Nat) (s : Int32 × Int32 × Int32 × pmM), pm_G l Γ zX8_forged (d + 4) 70 [.ref l0, .int l1, .int s.1, .int s.2.1, .int l4, .int l5, .int s.2.2.1] [] s.2.2.2 (pm_lp n (X8_forged_L70 again36 again51 l0 l1 l4 l5) s) :=
  pm_loop (lsf := fun s : Int32 × Int32 × Int32 × pmM => [.ref l0, .int l1, .int s.1, .int s.2.1, .int l4, .int l5, .int s.2.2.1]) (mf := fun s : Int32 × Int32 × Int32 × pmM => s.2.2.2) (fun again70 hag70 s70 => by
    unfold X8_forged_L70
    refine pm_iload dX8_forged_70 rfl ?_
    refine pm_aload_n dX8_forged_72 rfl rfl ?_
    refine fg_8_1 (y := zX8_forged) (Or.inl tw_440) dX8_forged_73 (fun r11 => ?_)
    refine fg_2_0 (y := zX8_forged) (Or.inr tw_240) dX8_forged_76 (fun r12 => ?_)
    refine pm_iload dX8_forged_79 rfl ?_
    refine pm_iald (y := zX8_forged) dX8_forged_81 (fun x13 => ?_)
    refine pm_icmp_ge (tgt := 135) dX8_forged_82 rfl ?_ ?_
    · refine pm_iincn (y := zX8_forged) dX8_forged_135 rfl ki_1 rfl (Nat.le_of_ble_eq_true rfl) (fun x14 => ?_)
      refine pm_eqls (ls2 := [.ref l0, .int l1, .int s70.1, .int s70.2.1, .int l4, .int x14, .int s70.2.2.1]) rfl ?_
      refine pm_goto (tgt := 51) dX8_forged_138 rfl ?_
      refine pm_drop (ls2 := [.ref l0, .int l1, .int s70.1, .int s70.2.1, .int l4, .int x14, pmU]) (Nat.le_refl _) (pm_le_spec (pm_le_v (pm_le_v (pm_le_v (pm_le_v (pm_le_v (pm_le_v (pm_le_u (pm_le_n))))))))) ?_
      exact hag51 (s70.1, s70.2.1, x14, s70.2.2.2)
    · refine pm_aload_n dX8_forged_85 rfl rfl ?_
      refine fg_8_9 (y := zX8_forged) (Or.inl tw_448) dX8_forged_86 (fun r15 => ?_)
      refine pm_aload_n dX8_forged_89 rfl rfl ?_
      refine fg_8_5 (y := zX8_forged) (Or.inl tw_444) dX8_forged_90 (fun r16 => ?_)
      refine pm_iload dX8_forged_93 rfl ?_
      refine pm_iload dX8_forged_95 rfl ?_
      refine pm_iload dX8_forged_97 rfl ?_
      refine pm_kI (d := d + 3) rfl (pm_S (y := zX8_forged) (z := zX8_bitsOf) (As := [.int l5, .int s70.2.2.1]) zkX8_bitsOf tw_1200 tw_1010 dX8_forged_99 rfl rfl (Nat.le_of_ble_eq_true rfl)) (kcX8_bitsOf (d := d + 3) hfl l5 s70.2.2.1 s70.2.2.2) (fun x18 m17 => ?_)
      refine pm_rcv (fun hb9 hc9 => ?_)
      refine pm_kI (d := d + 3) rfl (pm_VN (y := zX8_forged) (z := zX0_speaksBehind) (As := [.ref r16, .int l4, .int x18]) zkX0_speaksBehind pm_q0 (by decide) tw_1201 tw_1203 tw_87 dX8_forged_102 rfl rfl (Nat.le_of_ble_eq_true rfl) hb9 hc9) (kcX0_speaksBehind (d := d + 0) hfl r15 r16 l4 x18 m17) (fun x20 m19 => ?_)
      refine pm_if_eq (tgt := 129) dX8_forged_105 rfl ?_ ?_
      · exact gX8_forged_j129 hfl again36 again51 again70 l0 l1 s70.1 s70.2.1 l4 l5 s70.2.2.1 m19 hag36 hag51 hag70
      · refine pm_iload_n dX8_forged_108 rfl rfl ?_
        refine pm_if_ne (tgt := 124) dX8_forged_109 rfl ?_ ?_
        · refine pm_iload_n dX8_forged_124 rfl rfl ?_
          refine pm_drop (ls2 := [.ref l0, .int l1, .int s70.1, pmU, .int l4, .int l5, .int s70.2.2.1]) (Nat.le_refl _) (pm_le_spec (pm_le_v (pm_le_v (pm_le_v (pm_le_u (pm_le_v (pm_le_v (pm_le_v (pm_le_n))))))))) ?_
          exact gX8_forged_j125 hfl again36 again51 again70 l0 l1 s70.1 l4 l5 s70.2.2.1 s70.2.1 m19 hag36 hag51 hag70
        · refine pm_iload dX8_forged_112 rfl ?_
          refine pm_iload dX8_forged_114 rfl ?_
          refine pm_iload dX8_forged_116 rfl ?_
          refine pm_kI (d := d + 3) rfl (pm_S (y := zX8_forged) (z := zX8_named) (As := [.int l4, .int l5, .int s70.2.2.1]) zkX8_named tw_1206 tw_1207 dX8_forged_118 rfl rfl (Nat.le_of_ble_eq_true rfl)) (kcX8_named (d := d + 3) hfl l4 l5 s70.2.2.1 m19) (fun x24 m23 => ?_)
          refine pm_goto (tgt := 125) dX8_forged_121 rfl ?_
          refine pm_drop (ls2 := [.ref l0, .int l1, .int s70.1, pmU, .int l4, .int l5, .int s70.2.2.1]) (Nat.le_refl _) (pm_le_spec (pm_le_v (pm_le_v (pm_le_v (pm_le_u (pm_le_v (pm_le_v (pm_le_v (pm_le_n))))))))) ?_
          exact gX8_forged_j125 hfl again36 again51 again70 l0 l1 s70.1 l4 l5 s70.2.2.1 x24 m23 hag36 hag51 hag70)
set_option maxRecDepth 100000 in
set_option maxHeartbeats 4000000 in
theorem gX8_forged_L51 (hfl : l.flags = flags0) (again36 : (Int32 × Int32 × Int32 × pmM) → pmR) (l0 : Nat) (l1 : Int32) (l4 : Int32) (hag36 : ∀ s : Int32 × Int32 × Int32 × pmM, pm_G l Γ zX8_forged (d + 4) 36 [.ref l0, .int l1, .int s.1, .int s.2.1, .int s.2.2.1, pmU, pmU] [] s.2.2.2 (again36 s)) : ∀ (n : Nat) (s : Int32 × Int32 × Int32 × pmM), pm_G l Γ zX8_forged (d + 4) 51 [.ref l0, .int l1, .int s.1, .int s.2.1, .int l4, .int s.2.2.1, pmU] [] s.2.2.2 (pm_lp n (X8_forged_L51 again36 l0 l1 l4) s) :=
  pm_loop (lsf := fun s : Int32 × Int32 × Int32 × pmM => [.ref l0, .int l1, .int s.1, .int s.2.1, .int l4, .int s.2.2.1, pmU]) (mf := fun s : Int32 × Int32 × Int32 × pmM => s.2.2.2) (fun again51 hag51 s51 => by
    unfold X8_forged_L51
    refine pm_iload dX8_forged_51 rfl ?_
    refine pm_aload_n dX8_forged_53 rfl rfl ?_
    refine fg_8_1 (y := zX8_forged) (Or.inl tw_440) dX8_forged_54 (fun r7 => ?_)
    refine fg_2_0 (y := zX8_forged) (Or.inr tw_240) dX8_forged_57 (fun r8 => ?_)
    refine pm_iload dX8_forged_60 rfl ?_
    refine pm_iald (y := zX8_forged) dX8_forged_62 (fun x9 => ?_)
    refine pm_icmp_ge (tgt := 141) dX8_forged_63 rfl ?_ ?_
    · refine pm_iincn (y := zX8_forged) dX8_forged_141 rfl ki_1 rfl (Nat.le_of_ble_eq_true rfl) (fun x10 => ?_)
      refine pm_eqls (ls2 := [.ref l0, .int l1, .int s51.1, .int s51.2.1, .int x10, .int s51.2.2.1, pmU]) rfl ?_
      refine pm_goto (tgt := 36) dX8_forged_144 rfl ?_
      refine pm_drop (ls2 := [.ref l0, .int l1, .int s51.1, .int s51.2.1, .int x10, pmU, pmU]) (Nat.le_refl _) (pm_le_spec (pm_le_v (pm_le_v (pm_le_v (pm_le_v (pm_le_v (pm_le_u (pm_le_u (pm_le_n))))))))) ?_
      exact hag36 (s51.1, s51.2.1, x10, s51.2.2.2)
    · refine pm_iload dX8_forged_66 rfl ?_
      refine pm_istore (ls2 := [.ref l0, .int l1, .int s51.1, .int s51.2.1, .int l4, .int s51.2.2.1, .int s51.2.2.1]) dX8_forged_68 rfl (Nat.le_of_ble_eq_true rfl) rfl ?_
      exact gX8_forged_L70 hfl again36 again51 l0 l1 l4 s51.2.2.1 hag36 hag51 pm_N (s51.1, s51.2.1, s51.2.2.1, s51.2.2.2))
set_option maxRecDepth 100000 in
set_option maxHeartbeats 4000000 in
theorem gX8_forged_L36 (hfl : l.flags = flags0) (l0 : Nat) (l1 : Int32) : ∀ (n : Nat) (s : Int32 × Int32 × Int32 × pmM), pm_G l Γ zX8_forged (d + 4) 36 [.ref l0, .int l1, .int s.1, .int s.2.1, .int s.2.2.1, pmU, pmU] [] s.2.2.2 (pm_lp n (X8_forged_L36 l0 l1) s) :=
  pm_loop (lsf := fun s : Int32 × Int32 × Int32 × pmM => [.ref l0, .int l1, .int s.1, .int s.2.1, .int s.2.2.1, pmU, pmU]) (mf := fun s : Int32 × Int32 × Int32 × pmM => s.2.2.2) (fun again36 hag36 s36 => by
    unfold X8_forged_L36
    refine pm_iload dX8_forged_36 rfl ?_
    refine pm_aload_n dX8_forged_38 rfl rfl ?_
    refine fg_8_1 (y := zX8_forged) (Or.inl tw_440) dX8_forged_39 (fun r5 => ?_)
    refine fg_2_3 (y := zX8_forged) (Or.inr tw_246) dX8_forged_42 (fun x6 => ?_)
    refine pm_icmp_ge (tgt := 147) dX8_forged_45 rfl ?_ ?_
    · refine pm_iload_n dX8_forged_147 rfl rfl ?_
      refine pm_if_ne (tgt := 155) dX8_forged_148 rfl ?_ ?_
      · refine pm_iload_n dX8_forged_155 rfl rfl ?_
        refine pm_drop (ls2 := [pmU, pmU, pmU, pmU, pmU, pmU, pmU]) (Nat.le_refl _) (pm_le_spec (pm_le_u (pm_le_u (pm_le_u (pm_le_u (pm_le_u (pm_le_u (pm_le_u (pm_le_n))))))))) ?_
        exact gX8_forged_j156 hfl s36.2.1 s36.2.2.2
      · refine pm_iload_n dX8_forged_151 rfl rfl ?_
        refine pm_goto (tgt := 156) dX8_forged_152 rfl ?_
        refine pm_drop (ls2 := [pmU, pmU, pmU, pmU, pmU, pmU, pmU]) (Nat.le_refl _) (pm_le_spec (pm_le_u (pm_le_u (pm_le_u (pm_le_u (pm_le_u (pm_le_u (pm_le_u (pm_le_n))))))))) ?_
        exact gX8_forged_j156 hfl s36.1 s36.2.2.2
    · refine pm_iconst (v := 0) dX8_forged_48 ki_0 ?_
      refine pm_istore (ls2 := [.ref l0, .int l1, .int s36.1, .int s36.2.1, .int s36.2.2.1, .int 0, pmU]) dX8_forged_49 rfl (Nat.le_of_ble_eq_true rfl) rfl ?_
      exact gX8_forged_L51 hfl again36 l0 l1 s36.2.2.1 hag36 pm_N (s36.1, s36.2.1, 0, s36.2.2.2))
set_option maxRecDepth 100000 in
set_option maxHeartbeats 4000000 in
theorem gX8_forged_j15 (hfl : l.flags = flags0) (l0 : Nat) (l1 : Int32) (t0 : Int32) (t1 : Nat) (m : pmM) : pm_G l Γ zX8_forged (d + 4) 15 [.ref l0, .int l1, pmU, pmU, pmU, pmU, pmU] [.int t0, .ref t1] m (X8_forged_j15 l0 l1 t0 t1 m) := by
  unfold X8_forged_j15
  refine pm_rcv (fun hb9 hc9 => ?_)
  refine pm_kV (d := d + 3) rfl (pm_V (y := zX8_forged) (z := zX8_must) (As := [.int t0]) zkX8_must pm_q8 (by decide) tw_684 tw_686 tw_30 dX8_forged_15 rfl rfl (Nat.le_of_ble_eq_true rfl) hb9 hc9) (kcX8_must (d := d + 3) hfl t1 t0 m) (fun m1 => ?_)
  refine pm_aload_n dX8_forged_18 rfl rfl ?_
  refine fg_8_9 (y := zX8_forged) (Or.inl tw_448) dX8_forged_19 (fun r2 => ?_)
  refine pm_aload_n dX8_forged_22 rfl rfl ?_
  refine fg_8_8 (y := zX8_forged) (Or.inl tw_447) dX8_forged_23 (fun r3 => ?_)
  refine pm_rcv (fun hb9 hc9 => ?_)
  refine pm_kV (d := d + 3) rfl (pm_VN (y := zX8_forged) (z := zX0_takeOver) (As := [.ref r3]) zkX0_takeOver pm_q0 (by decide) tw_556 tw_558 tw_8 dX8_forged_26 rfl rfl (Nat.le_of_ble_eq_true rfl) hb9 hc9) (kcX0_takeOver (d := d + 3) hfl r2 r3 m1) (fun m4 => ?_)
  refine pm_iconst (v := 0) dX8_forged_29 ki_0 ?_
  refine pm_istore_n (ls2 := [.ref l0, .int l1, .int 0, pmU, pmU, pmU, pmU]) dX8_forged_30 rfl rfl (Nat.le_of_ble_eq_true rfl) rfl ?_
  refine pm_iconst (v := (-1)) dX8_forged_31 ki_n1 ?_
  refine pm_istore_n (ls2 := [.ref l0, .int l1, .int 0, .int (-1), pmU, pmU, pmU]) dX8_forged_32 rfl rfl (Nat.le_of_ble_eq_true rfl) rfl ?_
  refine pm_iconst (v := 0) dX8_forged_33 ki_0 ?_
  refine pm_istore (ls2 := [.ref l0, .int l1, .int 0, .int (-1), .int 0, pmU, pmU]) dX8_forged_34 rfl (Nat.le_of_ble_eq_true rfl) rfl ?_
  exact gX8_forged_L36 hfl l0 l1 pm_N (0, (-1), 0, m4)
set_option maxRecDepth 100000 in
set_option maxHeartbeats 4000000 in
theorem gX8_forged_j10 (hfl : l.flags = flags0) (l0 : Nat) (l1 : Int32) (t0 : Nat) (m : pmM) : pm_G l Γ zX8_forged (d + 4) 10 [.ref l0, .int l1, pmU, pmU, pmU, pmU, pmU] [.ref t0] m (X8_forged_j10 l0 l1 t0 m) := by
  unfold X8_forged_j10
  refine pm_iconst (v := 1) dX8_forged_10 ki_1 ?_
  refine pm_goto (tgt := 15) dX8_forged_11 rfl ?_
  exact gX8_forged_j15 hfl l0 l1 1 t0 m
set_option maxRecDepth 100000 in
set_option maxHeartbeats 4000000 in
theorem kcX8_forged (hfl : l.flags = flags0) (a0 : Nat) (a1 : Int32) (m : pmM) : pm_C l Γ zX8_forged (d + 4) [.ref a0, .int a1] m (X8_forged a0 a1 m) := by
  refine pm_enter (ls := [.ref a0, .int a1, pmU, pmU, pmU, pmU, pmU]) hfl (by decide +kernel) rfl (Nat.le_of_ble_eq_true rfl) rfl (Nat.le_of_ble_eq_true rfl) ?_
  unfold X8_forged
  refine pm_aload_n dX8_forged_0 rfl rfl ?_
  refine pm_iload_n dX8_forged_1 rfl rfl ?_
  refine pm_if_eq (tgt := 10) dX8_forged_2 rfl ?_ ?_
  · exact gX8_forged_j10 hfl a0 a1 a0 m
  · refine pm_iload_n dX8_forged_5 rfl rfl ?_
    refine pm_iconst (v := 1) dX8_forged_6 ki_1 ?_
    refine pm_icmp_ne (tgt := 14) dX8_forged_7 rfl ?_ ?_
    · refine pm_iconst (v := 0) dX8_forged_14 ki_0 ?_
      exact gX8_forged_j15 hfl a0 a1 0 a0 m
    · exact gX8_forged_j10 hfl a0 a1 a0 m
-- StruckPage.value(I)I
def X8_value (a0 : Nat) (a1 : Int32) (m : pmM) : pmR := pm_rc 8 a0 m <| pm_cV (X8_mustBeLine a0 a1 m) fun m1 => pm_gR 8 a0 8 m1 fun r2 => pm_rc 0 r2 m1 <| pm_cI (X0_leftBits r2 a1 m1) fun x4 m3 => pm_cI (X4_valueOf x4 m3) fun x6 m5 => pm_oI x6 m5
set_option maxRecDepth 100000 in
set_option maxHeartbeats 4000000 in
theorem kcX8_value (hfl : l.flags = flags0) (a0 : Nat) (a1 : Int32) (m : pmM) : pm_C l Γ zX8_value (d + 2) [.ref a0, .int a1] m (X8_value a0 a1 m) := by
  refine pm_enter (ls := [.ref a0, .int a1]) hfl (by decide +kernel) rfl (Nat.le_of_ble_eq_true rfl) rfl (Nat.le_of_ble_eq_true rfl) ?_
  unfold X8_value
  refine pm_aload_n dX8_value_0 rfl rfl ?_
  refine pm_iload_n dX8_value_1 rfl rfl ?_
  refine pm_rcv (fun hb9 hc9 => ?_)
  refine pm_kV (d := d + 1) rfl (pm_V (y := zX8_value) (z := zX8_mustBeLine) (As := [.int a1]) zkX8_mustBeLine pm_q8 (by decide) tw_1096 tw_1098 tw_81 dX8_value_2 rfl rfl (Nat.le_of_ble_eq_true rfl) hb9 hc9) (kcX8_mustBeLine (d := d + 0) hfl a0 a1 m) (fun m1 => ?_)
  refine pm_aload_n dX8_value_5 rfl rfl ?_
  refine fg_8_8 (y := zX8_value) (Or.inl tw_447) dX8_value_6 (fun r2 => ?_)
  refine pm_iload_n dX8_value_9 rfl rfl ?_
  refine pm_rcv (fun hb9 hc9 => ?_)
  refine pm_kI (d := d + 1) rfl (pm_VN (y := zX8_value) (z := zX0_leftBits) (As := [.int a1]) zkX0_leftBits pm_q0 (by decide) tw_1216 tw_566 tw_10 dX8_value_10 rfl rfl (Nat.le_of_ble_eq_true rfl) hb9 hc9) (kcX0_leftBits (d := d + 0) hfl r2 a1 m1) (fun x4 m3 => ?_)
  refine pm_kI (d := d + 1) rfl (pm_SN (y := zX8_value) (z := zX4_valueOf) (As := [.int x4]) zkX4_valueOf tw_1217 tw_1218 dX8_value_13 rfl rfl (Nat.le_of_ble_eq_true rfl)) (kcX4_valueOf (d := d + 1) hfl x4 m3) (fun x6 m5 => ?_)
  exact pm_iret rfl dX8_value_16
-- StruckPage.mustBeBits(I)V
def X8_mustBeBits_j23 (t0 : Int32) (t1 : Nat) (m : pmM) : pmR := pm_rc 8 t1 m <| pm_cV (X8_must t1 t0 m) fun m1 => pm_oV m1
def X8_mustBeBits_j22 (t0 : Nat) (m : pmM) : pmR := X8_mustBeBits_j23 0 t0 m
def X8_mustBeBits (a0 : Nat) (a1 : Int32) (m : pmM) : pmR := if a1 < 0 then (X8_mustBeBits_j22 a0 m) else (pm_gR 8 a0 1 m fun r2 => pm_gI 2 r2 3 m fun x3 => if ((1 : Int32) <<< (x3 &&& 31)) ≤ a1 then (X8_mustBeBits_j22 a0 m) else (X8_mustBeBits_j23 1 a0 m))
set_option maxRecDepth 100000 in
set_option maxHeartbeats 4000000 in
theorem gX8_mustBeBits_j23 (hfl : l.flags = flags0) (t0 : Int32) (t1 : Nat) (m : pmM) : pm_G l Γ zX8_mustBeBits (d + 1) 23 [pmU, pmU] [.int t0, .ref t1] m (X8_mustBeBits_j23 t0 t1 m) := by
  unfold X8_mustBeBits_j23
  refine pm_rcv (fun hb9 hc9 => ?_)
  refine pm_kV (d := d + 0) rfl (pm_V (y := zX8_mustBeBits) (z := zX8_must) (As := [.int t0]) zkX8_must pm_q8 (by decide) tw_684 tw_686 tw_30 dX8_mustBeBits_23 rfl rfl (Nat.le_of_ble_eq_true rfl) hb9 hc9) (kcX8_must (d := d + 0) hfl t1 t0 m) (fun m1 => ?_)
  exact pm_vret rfl dX8_mustBeBits_26
set_option maxRecDepth 100000 in
set_option maxHeartbeats 4000000 in
theorem gX8_mustBeBits_j22 (hfl : l.flags = flags0) (t0 : Nat) (m : pmM) : pm_G l Γ zX8_mustBeBits (d + 1) 22 [pmU, pmU] [.ref t0] m (X8_mustBeBits_j22 t0 m) := by
  unfold X8_mustBeBits_j22
  refine pm_iconst (v := 0) dX8_mustBeBits_22 ki_0 ?_
  exact gX8_mustBeBits_j23 hfl 0 t0 m
set_option maxRecDepth 100000 in
set_option maxHeartbeats 4000000 in
theorem kcX8_mustBeBits (hfl : l.flags = flags0) (a0 : Nat) (a1 : Int32) (m : pmM) : pm_C l Γ zX8_mustBeBits (d + 1) [.ref a0, .int a1] m (X8_mustBeBits a0 a1 m) := by
  refine pm_enter (ls := [.ref a0, .int a1]) hfl (by decide +kernel) rfl (Nat.le_of_ble_eq_true rfl) rfl (Nat.le_of_ble_eq_true rfl) ?_
  unfold X8_mustBeBits
  refine pm_aload_n dX8_mustBeBits_0 rfl rfl ?_
  refine pm_iload_n dX8_mustBeBits_1 rfl rfl ?_
  refine pm_if_lt (tgt := 22) dX8_mustBeBits_2 rfl ?_ ?_
  · refine pm_drop (ls2 := [pmU, pmU]) (Nat.le_refl _) (pm_le_spec (pm_le_u (pm_le_u (pm_le_n)))) ?_
    exact gX8_mustBeBits_j22 hfl a0 m
  · refine pm_iload_n dX8_mustBeBits_5 rfl rfl ?_
    refine pm_iconst (v := 1) dX8_mustBeBits_6 ki_1 ?_
    refine pm_aload_n dX8_mustBeBits_7 rfl rfl ?_
    refine fg_8_1 (y := zX8_mustBeBits) (Or.inl tw_440) dX8_mustBeBits_8 (fun r2 => ?_)
    refine fg_2_3 (y := zX8_mustBeBits) (Or.inr tw_246) dX8_mustBeBits_11 (fun x3 => ?_)
    refine pm_ishl dX8_mustBeBits_14 ?_
    refine pm_icmp_ge (tgt := 22) dX8_mustBeBits_15 rfl ?_ ?_
    · refine pm_drop (ls2 := [pmU, pmU]) (Nat.le_refl _) (pm_le_spec (pm_le_u (pm_le_u (pm_le_n)))) ?_
      exact gX8_mustBeBits_j22 hfl a0 m
    · refine pm_iconst (v := 1) dX8_mustBeBits_18 ki_1 ?_
      refine pm_goto (tgt := 23) dX8_mustBeBits_19 rfl ?_
      refine pm_drop (ls2 := [pmU, pmU]) (Nat.le_refl _) (pm_le_spec (pm_le_u (pm_le_u (pm_le_n)))) ?_
      exact gX8_mustBeBits_j23 hfl 1 a0 m
end GEN11
