section GEN15
variable {l : Launch} {Γ : pmG} {d : Nat}
-- StruckPageModel.more(II)I
def X9_more_j10 (t0 : Int32) (m : pmM) : pmR := pm_oI t0 m
def X9_more (a0 : Int32) (a1 : Int32) (m : pmM) : pmR := if a0 ≤ a1 then (X9_more_j10 a1 m) else (X9_more_j10 a0 m)
set_option maxRecDepth 100000 in
set_option maxHeartbeats 4000000 in
theorem gX9_more_j10 (hfl : l.flags = flags0) (t0 : Int32) (m : pmM) : pm_G l Γ zX9_more (d + 0) 10 [pmU, pmU] [.int t0] m (X9_more_j10 t0 m) := by
  unfold X9_more_j10
  exact pm_iret rfl dX9_more_10
set_option maxRecDepth 100000 in
set_option maxHeartbeats 4000000 in
theorem kcX9_more (hfl : l.flags = flags0) (a0 : Int32) (a1 : Int32) (m : pmM) : pm_C l Γ zX9_more (d + 0) [.int a0, .int a1] m (X9_more a0 a1 m) := by
  refine pm_enter (ls := [.int a0, .int a1]) hfl (by decide +kernel) rfl (Nat.le_of_ble_eq_true rfl) rfl (Nat.le_of_ble_eq_true rfl) ?_
  unfold X9_more
  refine pm_iload_n dX9_more_0 rfl rfl ?_
  refine pm_iload_n dX9_more_1 rfl rfl ?_
  refine pm_icmp_le (tgt := 9) dX9_more_2 rfl ?_ ?_
  · refine pm_iload_n dX9_more_9 rfl rfl ?_
    refine pm_drop (ls2 := [pmU, pmU]) (Nat.le_refl _) (pm_le_spec (pm_le_u (pm_le_u (pm_le_n)))) ?_
    exact gX9_more_j10 hfl a1 m
  · refine pm_iload_n dX9_more_5 rfl rfl ?_
    refine pm_goto (tgt := 10) dX9_more_6 rfl ?_
    refine pm_drop (ls2 := [pmU, pmU]) (Nat.le_refl _) (pm_le_spec (pm_le_u (pm_le_u (pm_le_n)))) ?_
    exact gX9_more_j10 hfl a0 m
-- StruckPageModel.has(II)Z
def X9_has_j14 (t0 : Int32) (m : pmM) : pmR := pm_oI (vp_nar .boolean t0) m
def X9_has (a0 : Int32) (a1 : Int32) (m : pmM) : pmR := if ((a0 >>> (a1 &&& 31)) &&& 1) = 1 then (X9_has_j14 1 m) else (X9_has_j14 0 m)
set_option maxRecDepth 100000 in
set_option maxHeartbeats 4000000 in
theorem gX9_has_j14 (hfl : l.flags = flags0) (t0 : Int32) (m : pmM) : pm_G l Γ zX9_has (d + 0) 14 [pmU, pmU] [.int t0] m (X9_has_j14 t0 m) := by
  unfold X9_has_j14
  exact pm_nret (ty := .boolean) (w := vp_nar .boolean t0) rfl (by decide) rfl dX9_has_14
set_option maxRecDepth 100000 in
set_option maxHeartbeats 4000000 in
theorem kcX9_has (hfl : l.flags = flags0) (a0 : Int32) (a1 : Int32) (m : pmM) : pm_C l Γ zX9_has (d + 0) [.int a0, .int a1] m (X9_has a0 a1 m) := by
  refine pm_enter (ls := [.int a0, .int a1]) hfl (by decide +kernel) rfl (Nat.le_of_ble_eq_true rfl) rfl (Nat.le_of_ble_eq_true rfl) ?_
  unfold X9_has
  refine pm_iload_n dX9_has_0 rfl rfl ?_
  refine pm_iload_n dX9_has_1 rfl rfl ?_
  refine pm_ishr dX9_has_2 ?_
  refine pm_iconst (v := 1) dX9_has_3 ki_1 ?_
  refine pm_iand dX9_has_4 ?_
  refine pm_iconst (v := 1) dX9_has_5 ki_1 ?_
  refine pm_icmp_ne (tgt := 13) dX9_has_6 rfl ?_ ?_
  · refine pm_iconst (v := 0) dX9_has_13 ki_0 ?_
    refine pm_drop (ls2 := [pmU, pmU]) (Nat.le_refl _) (pm_le_spec (pm_le_u (pm_le_u (pm_le_n)))) ?_
    exact gX9_has_j14 hfl 0 m
  · refine pm_iconst (v := 1) dX9_has_9 ki_1 ?_
    refine pm_goto (tgt := 14) dX9_has_10 rfl ?_
    refine pm_drop (ls2 := [pmU, pmU]) (Nat.le_refl _) (pm_le_spec (pm_le_u (pm_le_u (pm_le_n)))) ?_
    exact gX9_has_j14 hfl 1 m
-- StruckPageModel.feed(IIIII)I
def X9_feed_j76 (again23 : (Int32 × pmM) → pmR) (l0 : Nat) (l1 : Int32) (l2 : Int32) (l3 : Int32) (l4 : Int32) (l5 : Int32) (l6 : Int32) (t0 : Int32) (m : pmM) : pmR := pm_gR 9 l0 9 m fun r4 => pm_gI 9 l0 1 m fun x5 => if (4 : Int32) = 0 then none else pm_st 100 r4 x5 ((t0 >>> (((24 : Int32) - ((8 : Int32) * (l6 - l6 / 4 * 4))) &&& 31)) &&& 255) m fun m6 => pm_gI 9 l0 1 m6 fun x7 => pm_pI 9 l0 1 (x7 + 1) m6 fun m8 => pm_bI (l6 + 1) fun x9 => again23 (x9, m8)
def X9_feed_L23 (l0 : Nat) (l1 : Int32) (l2 : Int32) (l3 : Int32) (l4 : Int32) (l5 : Int32) (again23 : (Int32 × pmM) → pmR) (s23 : Int32 × pmM) : pmR := if (20 : Int32) ≤ s23.1 then (pm_gI 9 l0 1 s23.2 fun x3 => pm_oI x3 s23.2) else (if (4 : Int32) ≤ s23.1 then (if (8 : Int32) ≤ s23.1 then (if (12 : Int32) ≤ s23.1 then (if (16 : Int32) ≤ s23.1 then (X9_feed_j76 again23 l0 l1 l2 l3 l4 l5 s23.1 l5 s23.2) else (X9_feed_j76 again23 l0 l1 l2 l3 l4 l5 s23.1 l4 s23.2)) else (X9_feed_j76 again23 l0 l1 l2 l3 l4 l5 s23.1 l3 s23.2)) else (X9_feed_j76 again23 l0 l1 l2 l3 l4 l5 s23.1 l2 s23.2)) else (X9_feed_j76 again23 l0 l1 l2 l3 l4 l5 s23.1 l1 s23.2))
def X9_feed (a0 : Nat) (a1 : Int32) (a2 : Int32) (a3 : Int32) (a4 : Int32) (a5 : Int32) (m : pmM) : pmR := pm_pI 9 a0 0 0 m fun m1 => pm_gI 9 a0 1 m1 fun x2 => if (x2 + 20) ≤ 600 then (pm_lp pm_N (X9_feed_L23 a0 a1 a2 a3 a4 a5) (0, m1)) else (pm_oI (-1) m1)
set_option maxRecDepth 100000 in
set_option maxHeartbeats 4000000 in
theorem gX9_feed_j76 (hfl : l.flags = flags0) (again23 : (Int32 × pmM) → pmR) (l0 : Nat) (l1 : Int32) (l2 : Int32) (l3 : Int32) (l4 : Int32) (l5 : Int32) (l6 : Int32) (t0 : Int32) (m : pmM) (hag23 : ∀ s : Int32 × pmM, pm_G l Γ zX9_feed (d + 0) 23 [.ref l0, .int l1, .int l2, .int l3, .int l4, .int l5, .int s.1, pmU] [] s.2 (again23 s)) : pm_G l Γ zX9_feed (d + 0) 76 [.ref l0, .int l1, .int l2, .int l3, .int l4, .int l5, .int l6, pmU] [.int t0] m (X9_feed_j76 again23 l0 l1 l2 l3 l4 l5 l6 t0 m) := by
  unfold X9_feed_j76
  refine pm_istore (ls2 := [.ref l0, .int l1, .int l2, .int l3, .int l4, .int l5, .int l6, .int t0]) dX9_feed_76 rfl (Nat.le_of_ble_eq_true rfl) rfl ?_
  refine pm_aload_n dX9_feed_78 rfl rfl ?_
  refine fg_9_9 (y := zX9_feed) (Or.inl tw_1375) dX9_feed_79 (fun r4 => ?_)
  refine pm_aload_n dX9_feed_82 rfl rfl ?_
  refine fg_9_1 (y := zX9_feed) (Or.inl tw_1367) dX9_feed_83 (fun x5 => ?_)
  refine pm_iload dX9_feed_86 rfl ?_
  refine pm_bipush (v := 24) dX9_feed_88 kb_24 ?_
  refine pm_bipush (v := 8) dX9_feed_90 kb_8 ?_
  refine pm_iload dX9_feed_92 rfl ?_
  refine pm_iconst (v := 4) dX9_feed_94 ki_4 ?_
  refine pm_irem dX9_feed_95 ?_
  refine pm_imul dX9_feed_96 ?_
  refine pm_isub dX9_feed_97 ?_
  refine pm_ishr dX9_feed_98 ?_
  refine pm_sipush (v := 255) dX9_feed_99 ks_255 ?_
  refine pm_iand dX9_feed_102 ?_
  refine pm_iast (y := zX9_feed) dX9_feed_103 (fun m6 => ?_)
  refine pm_aload_n dX9_feed_104 rfl rfl ?_
  refine pm_dup dX9_feed_105 rfl ?_
  refine fg_9_1 (y := zX9_feed) (Or.inl tw_1367) dX9_feed_106 (fun x7 => ?_)
  refine pm_iconst (v := 1) dX9_feed_109 ki_1 ?_
  refine pm_iadd dX9_feed_110 ?_
  refine fp_9_1 (y := zX9_feed) (Or.inl tw_1367) dX9_feed_111 (fun m8 => ?_)
  refine pm_iincn (y := zX9_feed) dX9_feed_114 rfl ki_1 rfl (Nat.le_of_ble_eq_true rfl) (fun x9 => ?_)
  refine pm_eqls (ls2 := [.ref l0, .int l1, .int l2, .int l3, .int l4, .int l5, .int x9, .int t0]) rfl ?_
  refine pm_goto (tgt := 23) dX9_feed_117 rfl ?_
  refine pm_drop (ls2 := [.ref l0, .int l1, .int l2, .int l3, .int l4, .int l5, .int x9, pmU]) (Nat.le_refl _) (pm_le_spec (pm_le_v (pm_le_v (pm_le_v (pm_le_v (pm_le_v (pm_le_v (pm_le_v (pm_le_u (pm_le_n)))))))))) ?_
  exact hag23 (x9, m8)
set_option maxRecDepth 100000 in
set_option maxHeartbeats 4000000 in
theorem gX9_feed_L23 (hfl : l.flags = flags0) (l0 : Nat) (l1 : Int32) (l2 : Int32) (l3 : Int32) (l4 : Int32) (l5 : Int32) : ∀ (n : Nat) (s : Int32 × pmM), pm_G l Γ zX9_feed (d + 0) 23 [.ref l0, .int l1, .int l2, .int l3, .int l4, .int l5, .int s.1, pmU] [] s.2 (pm_lp n (X9_feed_L23 l0 l1 l2 l3 l4 l5) s) :=
  pm_loop (lsf := fun s : Int32 × pmM => [.ref l0, .int l1, .int l2, .int l3, .int l4, .int l5, .int s.1, pmU]) (mf := fun s : Int32 × pmM => s.2) (fun again23 hag23 s23 => by
    unfold X9_feed_L23
    refine pm_iload dX9_feed_23 rfl ?_
    refine pm_bipush (v := 20) dX9_feed_25 kb_20 ?_
    refine pm_icmp_ge (tgt := 120) dX9_feed_27 rfl ?_ ?_
    · refine pm_aload_n dX9_feed_120 rfl rfl ?_
      refine fg_9_1 (y := zX9_feed) (Or.inl tw_1367) dX9_feed_121 (fun x3 => ?_)
      exact pm_iret rfl dX9_feed_124
    · refine pm_iload dX9_feed_30 rfl ?_
      refine pm_iconst (v := 4) dX9_feed_32 ki_4 ?_
      refine pm_icmp_ge (tgt := 40) dX9_feed_33 rfl ?_ ?_
      · refine pm_iload dX9_feed_40 rfl ?_
        refine pm_bipush (v := 8) dX9_feed_42 kb_8 ?_
        refine pm_icmp_ge (tgt := 51) dX9_feed_44 rfl ?_ ?_
        · refine pm_iload dX9_feed_51 rfl ?_
          refine pm_bipush (v := 12) dX9_feed_53 kb_12 ?_
          refine pm_icmp_ge (tgt := 62) dX9_feed_55 rfl ?_ ?_
          · refine pm_iload dX9_feed_62 rfl ?_
            refine pm_bipush (v := 16) dX9_feed_64 kb_16 ?_
            refine pm_icmp_ge (tgt := 74) dX9_feed_66 rfl ?_ ?_
            · refine pm_iload dX9_feed_74 rfl ?_
              exact gX9_feed_j76 hfl again23 l0 l1 l2 l3 l4 l5 s23.1 l5 s23.2 hag23
            · refine pm_iload dX9_feed_69 rfl ?_
              refine pm_goto (tgt := 76) dX9_feed_71 rfl ?_
              exact gX9_feed_j76 hfl again23 l0 l1 l2 l3 l4 l5 s23.1 l4 s23.2 hag23
          · refine pm_iload_n dX9_feed_58 rfl rfl ?_
            refine pm_goto (tgt := 76) dX9_feed_59 rfl ?_
            exact gX9_feed_j76 hfl again23 l0 l1 l2 l3 l4 l5 s23.1 l3 s23.2 hag23
        · refine pm_iload_n dX9_feed_47 rfl rfl ?_
          refine pm_goto (tgt := 76) dX9_feed_48 rfl ?_
          exact gX9_feed_j76 hfl again23 l0 l1 l2 l3 l4 l5 s23.1 l2 s23.2 hag23
      · refine pm_iload_n dX9_feed_36 rfl rfl ?_
        refine pm_goto (tgt := 76) dX9_feed_37 rfl ?_
        exact gX9_feed_j76 hfl again23 l0 l1 l2 l3 l4 l5 s23.1 l1 s23.2 hag23)
set_option maxRecDepth 100000 in
set_option maxHeartbeats 4000000 in
theorem kcX9_feed (hfl : l.flags = flags0) (a0 : Nat) (a1 : Int32) (a2 : Int32) (a3 : Int32) (a4 : Int32) (a5 : Int32) (m : pmM) : pm_C l Γ zX9_feed (d + 0) [.ref a0, .int a1, .int a2, .int a3, .int a4, .int a5] m (X9_feed a0 a1 a2 a3 a4 a5 m) := by
  refine pm_enter (ls := [.ref a0, .int a1, .int a2, .int a3, .int a4, .int a5, pmU, pmU]) hfl (by decide +kernel) rfl (Nat.le_of_ble_eq_true rfl) rfl (Nat.le_of_ble_eq_true rfl) ?_
  unfold X9_feed
  refine pm_aload_n dX9_feed_0 rfl rfl ?_
  refine pm_iconst (v := 0) dX9_feed_1 ki_0 ?_
  refine fp_9_0 (y := zX9_feed) (Or.inl tw_1366) dX9_feed_2 (fun m1 => ?_)
  refine pm_aload_n dX9_feed_5 rfl rfl ?_
  refine fg_9_1 (y := zX9_feed) (Or.inl tw_1367) dX9_feed_6 (fun x2 => ?_)
  refine pm_bipush (v := 20) dX9_feed_9 kb_20 ?_
  refine pm_iadd dX9_feed_11 ?_
  refine pm_sipush (v := 600) dX9_feed_12 ks_600 ?_
  refine pm_icmp_le (tgt := 20) dX9_feed_15 rfl ?_ ?_
  · refine pm_iconst (v := 0) dX9_feed_20 ki_0 ?_
    refine pm_istore (ls2 := [.ref a0, .int a1, .int a2, .int a3, .int a4, .int a5, .int 0, pmU]) dX9_feed_21 rfl (Nat.le_of_ble_eq_true rfl) rfl ?_
    exact gX9_feed_L23 hfl a0 a1 a2 a3 a4 a5 pm_N (0, m1)
  · refine pm_iconst (v := (-1)) dX9_feed_18 ki_n1 ?_
    exact pm_iret rfl dX9_feed_19
-- StruckPageModel.byteAt(I)I
def X9_byteAt_j18 (t0 : Int32) (m : pmM) : pmR := pm_oI t0 m
def X9_byteAt (a0 : Nat) (a1 : Int32) (m : pmM) : pmR := pm_gI 9 a0 2 m fun x1 => if a1 < x1 then (pm_gR 9 a0 9 m fun r2 => pm_ld 100 r2 a1 m fun x3 => X9_byteAt_j18 x3 m) else (X9_byteAt_j18 (-1) m)
set_option maxRecDepth 100000 in
set_option maxHeartbeats 4000000 in
theorem gX9_byteAt_j18 (hfl : l.flags = flags0) (t0 : Int32) (m : pmM) : pm_G l Γ zX9_byteAt (d + 0) 18 [pmU, pmU] [.int t0] m (X9_byteAt_j18 t0 m) := by
  unfold X9_byteAt_j18
  exact pm_iret rfl dX9_byteAt_18
set_option maxRecDepth 100000 in
set_option maxHeartbeats 4000000 in
theorem kcX9_byteAt (hfl : l.flags = flags0) (a0 : Nat) (a1 : Int32) (m : pmM) : pm_C l Γ zX9_byteAt (d + 0) [.ref a0, .int a1] m (X9_byteAt a0 a1 m) := by
  refine pm_enter (ls := [.ref a0, .int a1]) hfl (by decide +kernel) rfl (Nat.le_of_ble_eq_true rfl) rfl (Nat.le_of_ble_eq_true rfl) ?_
  unfold X9_byteAt
  refine pm_iload_n dX9_byteAt_0 rfl rfl ?_
  refine pm_aload_n dX9_byteAt_1 rfl rfl ?_
  refine fg_9_2 (y := zX9_byteAt) (Or.inl tw_1368) dX9_byteAt_2 (fun x1 => ?_)
  refine pm_icmp_lt (tgt := 12) dX9_byteAt_5 rfl ?_ ?_
  · refine pm_aload_n dX9_byteAt_12 rfl rfl ?_
    refine fg_9_9 (y := zX9_byteAt) (Or.inl tw_1375) dX9_byteAt_13 (fun r2 => ?_)
    refine pm_iload_n dX9_byteAt_16 rfl rfl ?_
    refine pm_iald (y := zX9_byteAt) dX9_byteAt_17 (fun x3 => ?_)
    refine pm_drop (ls2 := [pmU, pmU]) (Nat.le_refl _) (pm_le_spec (pm_le_u (pm_le_u (pm_le_n)))) ?_
    exact gX9_byteAt_j18 hfl x3 m
  · refine pm_iconst (v := (-1)) dX9_byteAt_8 ki_n1 ?_
    refine pm_goto (tgt := 18) dX9_byteAt_9 rfl ?_
    refine pm_drop (ls2 := [pmU, pmU]) (Nat.le_refl _) (pm_le_spec (pm_le_u (pm_le_u (pm_le_n)))) ?_
    exact gX9_byteAt_j18 hfl (-1) m
-- StruckPageModel.blanks()V
def X9_blanks_L0 (l0 : Nat) (again0 : (pmM) → pmR) (s0 : pmM) : pmR := pm_gI 9 l0 4 s0 fun x1 => pm_rc 9 l0 s0 <| pm_cI (X9_byteAt l0 x1 s0) fun x3 m2 => if x3 = 32 then (pm_gI 9 l0 4 m2 fun x4 => pm_pI 9 l0 4 (x4 + 1) m2 fun m5 => again0 m5) else (pm_oV m2)
def X9_blanks (a0 : Nat) (m : pmM) : pmR := pm_lp pm_N (X9_blanks_L0 a0) m
set_option maxRecDepth 100000 in
set_option maxHeartbeats 4000000 in
theorem gX9_blanks_L0 (hfl : l.flags = flags0) (l0 : Nat) : ∀ (n : Nat) (s : pmM), pm_G l Γ zX9_blanks (d + 1) 0 [.ref l0] [] s (pm_lp n (X9_blanks_L0 l0) s) :=
  pm_loop (lsf := fun s : pmM => [.ref l0]) (mf := fun s : pmM => s) (fun again0 hag0 s0 => by
    unfold X9_blanks_L0
    refine pm_aload_n dX9_blanks_0 rfl rfl ?_
    refine pm_aload_n dX9_blanks_1 rfl rfl ?_
    refine fg_9_4 (y := zX9_blanks) (Or.inl tw_1370) dX9_blanks_2 (fun x1 => ?_)
    refine pm_rcv (fun hb9 hc9 => ?_)
    refine pm_kI (d := d + 0) rfl (pm_V (y := zX9_blanks) (z := zX9_byteAt) (As := [.int x1]) zkX9_byteAt pm_q9 (by decide) tw_1560 tw_1562 tw_102 dX9_blanks_5 rfl rfl (Nat.le_of_ble_eq_true rfl) hb9 hc9) (kcX9_byteAt (d := d + 0) hfl l0 x1 s0) (fun x3 m2 => ?_)
    refine pm_bipush (v := 32) dX9_blanks_8 kb_32 ?_
    refine pm_icmp_ne (tgt := 26) dX9_blanks_10 rfl ?_ ?_
    · exact pm_vret rfl dX9_blanks_26
    · refine pm_aload_n dX9_blanks_13 rfl rfl ?_
      refine pm_dup dX9_blanks_14 rfl ?_
      refine fg_9_4 (y := zX9_blanks) (Or.inl tw_1370) dX9_blanks_15 (fun x4 => ?_)
      refine pm_iconst (v := 1) dX9_blanks_18 ki_1 ?_
      refine pm_iadd dX9_blanks_19 ?_
      refine fp_9_4 (y := zX9_blanks) (Or.inl tw_1370) dX9_blanks_20 (fun m5 => ?_)
      refine pm_goto (tgt := 0) dX9_blanks_23 rfl ?_
      exact hag0 m5)
set_option maxRecDepth 100000 in
set_option maxHeartbeats 4000000 in
theorem kcX9_blanks (hfl : l.flags = flags0) (a0 : Nat) (m : pmM) : pm_C l Γ zX9_blanks (d + 1) [.ref a0] m (X9_blanks a0 m) := by
  refine pm_enter (ls := [.ref a0]) hfl (by decide +kernel) rfl (Nat.le_of_ble_eq_true rfl) rfl (Nat.le_of_ble_eq_true rfl) ?_
  unfold X9_blanks
  exact gX9_blanks_L0 hfl a0 pm_N m
-- StruckPageModel.wrong(II)V
def X9_wrong_j17 (m : pmM) : pmR := pm_oV m
def X9_wrong (a0 : Nat) (a1 : Int32) (a2 : Int32) (m : pmM) : pmR := pm_gI 9 a0 5 m fun x1 => if x1 = 0 then (pm_pI 9 a0 5 a1 m fun m2 => pm_pI 9 a0 6 a2 m2 fun m3 => X9_wrong_j17 m3) else (X9_wrong_j17 m)
set_option maxRecDepth 100000 in
set_option maxHeartbeats 4000000 in
theorem gX9_wrong_j17 (hfl : l.flags = flags0) (m : pmM) : pm_G l Γ zX9_wrong (d + 0) 17 [pmU, pmU, pmU] [] m (X9_wrong_j17 m) := by
  unfold X9_wrong_j17
  exact pm_vret rfl dX9_wrong_17
set_option maxRecDepth 100000 in
set_option maxHeartbeats 4000000 in
theorem kcX9_wrong (hfl : l.flags = flags0) (a0 : Nat) (a1 : Int32) (a2 : Int32) (m : pmM) : pm_C l Γ zX9_wrong (d + 0) [.ref a0, .int a1, .int a2] m (X9_wrong a0 a1 a2 m) := by
  refine pm_enter (ls := [.ref a0, .int a1, .int a2]) hfl (by decide +kernel) rfl (Nat.le_of_ble_eq_true rfl) rfl (Nat.le_of_ble_eq_true rfl) ?_
  unfold X9_wrong
  refine pm_aload_n dX9_wrong_0 rfl rfl ?_
  refine fg_9_5 (y := zX9_wrong) (Or.inl tw_1371) dX9_wrong_1 (fun x1 => ?_)
  refine pm_if_ne (tgt := 17) dX9_wrong_4 rfl ?_ ?_
  · refine pm_drop (ls2 := [pmU, pmU, pmU]) (Nat.le_refl _) (pm_le_spec (pm_le_u (pm_le_u (pm_le_u (pm_le_n))))) ?_
    exact gX9_wrong_j17 hfl m
  · refine pm_aload_n dX9_wrong_7 rfl rfl ?_
    refine pm_iload_n dX9_wrong_8 rfl rfl ?_
    refine fp_9_5 (y := zX9_wrong) (Or.inl tw_1371) dX9_wrong_9 (fun m2 => ?_)
    refine pm_aload_n dX9_wrong_12 rfl rfl ?_
    refine pm_iload_n dX9_wrong_13 rfl rfl ?_
    refine fp_9_6 (y := zX9_wrong) (Or.inl tw_1372) dX9_wrong_14 (fun m3 => ?_)
    refine pm_drop (ls2 := [pmU, pmU, pmU]) (Nat.le_refl _) (pm_le_spec (pm_le_u (pm_le_u (pm_le_u (pm_le_n))))) ?_
    exact gX9_wrong_j17 hfl m3
-- StruckPageModel.isDigit(I)Z
def X9_isDigit_j17 (t0 : Int32) (m : pmM) : pmR := pm_oI (vp_nar .boolean t0) m
def X9_isDigit_j16 (m : pmM) : pmR := X9_isDigit_j17 0 m
def X9_isDigit (a0 : Int32) (m : pmM) : pmR := if a0 < 48 then (X9_isDigit_j16 m) else (if (57 : Int32) < a0 then (X9_isDigit_j16 m) else (X9_isDigit_j17 1 m))
set_option maxRecDepth 100000 in
set_option maxHeartbeats 4000000 in
theorem gX9_isDigit_j17 (hfl : l.flags = flags0) (t0 : Int32) (m : pmM) : pm_G l Γ zX9_isDigit (d + 0) 17 [pmU] [.int t0] m (X9_isDigit_j17 t0 m) := by
  unfold X9_isDigit_j17
  exact pm_nret (ty := .boolean) (w := vp_nar .boolean t0) rfl (by decide) rfl dX9_isDigit_17
set_option maxRecDepth 100000 in
set_option maxHeartbeats 4000000 in
theorem gX9_isDigit_j16 (hfl : l.flags = flags0) (m : pmM) : pm_G l Γ zX9_isDigit (d + 0) 16 [pmU] [] m (X9_isDigit_j16 m) := by
  unfold X9_isDigit_j16
  refine pm_iconst (v := 0) dX9_isDigit_16 ki_0 ?_
  exact gX9_isDigit_j17 hfl 0 m
set_option maxRecDepth 100000 in
set_option maxHeartbeats 4000000 in
theorem kcX9_isDigit (hfl : l.flags = flags0) (a0 : Int32) (m : pmM) : pm_C l Γ zX9_isDigit (d + 0) [.int a0] m (X9_isDigit a0 m) := by
  refine pm_enter (ls := [.int a0]) hfl (by decide +kernel) rfl (Nat.le_of_ble_eq_true rfl) rfl (Nat.le_of_ble_eq_true rfl) ?_
  unfold X9_isDigit
  refine pm_iload_n dX9_isDigit_0 rfl rfl ?_
  refine pm_bipush (v := 48) dX9_isDigit_1 kb_48 ?_
  refine pm_icmp_lt (tgt := 16) dX9_isDigit_3 rfl ?_ ?_
  · refine pm_drop (ls2 := [pmU]) (Nat.le_refl _) (pm_le_spec (pm_le_u (pm_le_n))) ?_
    exact gX9_isDigit_j16 hfl m
  · refine pm_iload_n dX9_isDigit_6 rfl rfl ?_
    refine pm_bipush (v := 57) dX9_isDigit_7 kb_57 ?_
    refine pm_icmp_gt (tgt := 16) dX9_isDigit_9 rfl ?_ ?_
    · refine pm_drop (ls2 := [pmU]) (Nat.le_refl _) (pm_le_spec (pm_le_u (pm_le_n))) ?_
      exact gX9_isDigit_j16 hfl m
    · refine pm_iconst (v := 1) dX9_isDigit_12 ki_1 ?_
      refine pm_goto (tgt := 17) dX9_isDigit_13 rfl ?_
      refine pm_drop (ls2 := [pmU]) (Nat.le_refl _) (pm_le_spec (pm_le_u (pm_le_n))) ?_
      exact gX9_isDigit_j17 hfl 1 m
-- StruckPageModel.isSmall(I)Z
def X9_isSmall_j17 (t0 : Int32) (m : pmM) : pmR := pm_oI (vp_nar .boolean t0) m
def X9_isSmall_j16 (m : pmM) : pmR := X9_isSmall_j17 0 m
def X9_isSmall (a0 : Int32) (m : pmM) : pmR := if a0 < 97 then (X9_isSmall_j16 m) else (if (122 : Int32) < a0 then (X9_isSmall_j16 m) else (X9_isSmall_j17 1 m))
set_option maxRecDepth 100000 in
set_option maxHeartbeats 4000000 in
theorem gX9_isSmall_j17 (hfl : l.flags = flags0) (t0 : Int32) (m : pmM) : pm_G l Γ zX9_isSmall (d + 0) 17 [pmU] [.int t0] m (X9_isSmall_j17 t0 m) := by
  unfold X9_isSmall_j17
  exact pm_nret (ty := .boolean) (w := vp_nar .boolean t0) rfl (by decide) rfl dX9_isSmall_17
set_option maxRecDepth 100000 in
set_option maxHeartbeats 4000000 in
theorem gX9_isSmall_j16 (hfl : l.flags = flags0) (m : pmM) : pm_G l Γ zX9_isSmall (d + 0) 16 [pmU] [] m (X9_isSmall_j16 m) := by
  unfold X9_isSmall_j16
  refine pm_iconst (v := 0) dX9_isSmall_16 ki_0 ?_
  exact gX9_isSmall_j17 hfl 0 m
set_option maxRecDepth 100000 in
set_option maxHeartbeats 4000000 in
theorem kcX9_isSmall (hfl : l.flags = flags0) (a0 : Int32) (m : pmM) : pm_C l Γ zX9_isSmall (d + 0) [.int a0] m (X9_isSmall a0 m) := by
  refine pm_enter (ls := [.int a0]) hfl (by decide +kernel) rfl (Nat.le_of_ble_eq_true rfl) rfl (Nat.le_of_ble_eq_true rfl) ?_
  unfold X9_isSmall
  refine pm_iload_n dX9_isSmall_0 rfl rfl ?_
  refine pm_bipush (v := 97) dX9_isSmall_1 kb_97 ?_
  refine pm_icmp_lt (tgt := 16) dX9_isSmall_3 rfl ?_ ?_
  · refine pm_drop (ls2 := [pmU]) (Nat.le_refl _) (pm_le_spec (pm_le_u (pm_le_n))) ?_
    exact gX9_isSmall_j16 hfl m
  · refine pm_iload_n dX9_isSmall_6 rfl rfl ?_
    refine pm_bipush (v := 122) dX9_isSmall_7 kb_122 ?_
    refine pm_icmp_gt (tgt := 16) dX9_isSmall_9 rfl ?_ ?_
    · refine pm_drop (ls2 := [pmU]) (Nat.le_refl _) (pm_le_spec (pm_le_u (pm_le_n))) ?_
      exact gX9_isSmall_j16 hfl m
    · refine pm_iconst (v := 1) dX9_isSmall_12 ki_1 ?_
      refine pm_goto (tgt := 17) dX9_isSmall_13 rfl ?_
      refine pm_drop (ls2 := [pmU]) (Nat.le_refl _) (pm_le_spec (pm_le_u (pm_le_n))) ?_
      exact gX9_isSmall_j17 hfl 1 m
-- StruckPageModel.number(II)I
def X9_number_j135 (t0 : Int32) (m : pmM) : pmR := pm_oI t0 m
def X9_number_j122 (l0 : Nat) (l4 : Int32) (m : pmM) : pmR := pm_gI 9 l0 5 m fun x16 => if x16 = 0 then (X9_number_j135 l4 m) else (X9_number_j135 0 m)
def X9_number_j91 (again44 : (Int32 × pmM) → pmR) (l0 : Nat) (l1 : Int32) (l2 : Int32) (l3 : Int32) (t0 : Int32) (m : pmM) : pmR := pm_gI 9 l0 4 m fun x22 => pm_pI 9 l0 4 (x22 + 1) m fun m23 => again44 (t0, m23)
def X9_number_L44 (l0 : Nat) (l1 : Int32) (l2 : Int32) (l3 : Int32) (again44 : (Int32 × pmM) → pmR) (s44 : Int32 × pmM) : pmR := pm_gI 9 l0 4 s44.2 fun x9 => pm_rc 9 l0 s44.2 <| pm_cI (X9_byteAt l0 x9 s44.2) fun x11 m10 => pm_cI (X9_isDigit x11 m10) fun x13 m12 => if x13 = 0 then (pm_cI (X9_in s44.1 l1 l2 m12) fun x15 m14 => if x15 = 0 then (pm_rc 9 l0 m14 <| pm_cV (X9_wrong l0 2 l3 m14) fun m17 => X9_number_j122 l0 s44.1 m17) else (X9_number_j122 l0 s44.1 m14)) else (pm_gI 9 l0 4 m12 fun x18 => pm_rc 9 l0 m12 <| pm_cI (X9_byteAt l0 x18 m12) fun x20 m19 => pm_bI ((((10 : Int32) * s44.1) + x20) - 48) fun x21 => if x21 ≤ 100000 then (X9_number_j91 again44 l0 l1 l2 l3 x21 m19) else (X9_number_j91 again44 l0 l1 l2 l3 100000 m19))
def X9_number (a0 : Nat) (a1 : Int32) (a2 : Int32) (m : pmM) : pmR := pm_gI 9 a0 5 m fun x1 => if x1 = 0 then (pm_rc 9 a0 m <| pm_cV (X9_blanks a0 m) fun m2 => pm_gI 9 a0 4 m2 fun x3 => pm_gI 9 a0 4 m2 fun x4 => pm_rc 9 a0 m2 <| pm_cI (X9_byteAt a0 x4 m2) fun x6 m5 => pm_cI (X9_isDigit x6 m5) fun x8 m7 => if x8 = 0 then (pm_gI 9 a0 4 m7 fun x24 => pm_rc 9 a0 m7 <| pm_cV (X9_wrong a0 1 x24 m7) fun m25 => pm_lp pm_N (X9_number_L44 a0 a1 a2 x3) (0, m25)) else (pm_lp pm_N (X9_number_L44 a0 a1 a2 x3) (0, m7))) else (pm_oI 0 m)
set_option maxRecDepth 100000 in
set_option maxHeartbeats 4000000 in
theorem gX9_number_j135 (hfl : l.flags = flags0) (t0 : Int32) (m : pmM) : pm_G l Γ zX9_number (d + 2) 135 [pmU, pmU, pmU, pmU, pmU] [.int t0] m (X9_number_j135 t0 m) := by
  unfold X9_number_j135
  exact pm_iret rfl dX9_number_135
set_option maxRecDepth 100000 in
set_option maxHeartbeats 4000000 in
theorem gX9_number_j122 (hfl : l.flags = flags0) (l0 : Nat) (l4 : Int32) (m : pmM) : pm_G l Γ zX9_number (d + 2) 122 [.ref l0, pmU, pmU, pmU, .int l4] [] m (X9_number_j122 l0 l4 m) := by
  unfold X9_number_j122
  refine pm_aload_n dX9_number_122 rfl rfl ?_
  refine fg_9_5 (y := zX9_number) (Or.inl tw_1371) dX9_number_123 (fun x16 => ?_)
  refine pm_if_ne (tgt := 134) dX9_number_126 rfl ?_ ?_
  · refine pm_iconst (v := 0) dX9_number_134 ki_0 ?_
    refine pm_drop (ls2 := [pmU, pmU, pmU, pmU, pmU]) (Nat.le_refl _) (pm_le_spec (pm_le_u (pm_le_u (pm_le_u (pm_le_u (pm_le_u (pm_le_n))))))) ?_
    exact gX9_number_j135 hfl 0 m
  · refine pm_iload dX9_number_129 rfl ?_
    refine pm_goto (tgt := 135) dX9_number_131 rfl ?_
    refine pm_drop (ls2 := [pmU, pmU, pmU, pmU, pmU]) (Nat.le_refl _) (pm_le_spec (pm_le_u (pm_le_u (pm_le_u (pm_le_u (pm_le_u (pm_le_n))))))) ?_
    exact gX9_number_j135 hfl l4 m
set_option maxRecDepth 100000 in
set_option maxHeartbeats 4000000 in
theorem gX9_number_j91 (hfl : l.flags = flags0) (again44 : (Int32 × pmM) → pmR) (l0 : Nat) (l1 : Int32) (l2 : Int32) (l3 : Int32) (t0 : Int32) (m : pmM) (hag44 : ∀ s : Int32 × pmM, pm_G l Γ zX9_number (d + 2) 44 [.ref l0, .int l1, .int l2, .int l3, .int s.1] [] s.2 (again44 s)) : pm_G l Γ zX9_number (d + 2) 91 [.ref l0, .int l1, .int l2, .int l3, pmU] [.int t0] m (X9_number_j91 again44 l0 l1 l2 l3 t0 m) := by
  unfold X9_number_j91
  refine pm_istore (ls2 := [.ref l0, .int l1, .int l2, .int l3, .int t0]) dX9_number_91 rfl (Nat.le_of_ble_eq_true rfl) rfl ?_
  refine pm_aload_n dX9_number_93 rfl rfl ?_
  refine pm_dup dX9_number_94 rfl ?_
  refine fg_9_4 (y := zX9_number) (Or.inl tw_1370) dX9_number_95 (fun x22 => ?_)
  refine pm_iconst (v := 1) dX9_number_98 ki_1 ?_
  refine pm_iadd dX9_number_99 ?_
  refine fp_9_4 (y := zX9_number) (Or.inl tw_1370) dX9_number_100 (fun m23 => ?_)
  refine pm_goto (tgt := 44) dX9_number_103 rfl ?_
  exact hag44 (t0, m23)
set_option maxRecDepth 100000 in
set_option maxHeartbeats 4000000 in
theorem gX9_number_L44 (hfl : l.flags = flags0) (l0 : Nat) (l1 : Int32) (l2 : Int32) (l3 : Int32) : ∀ (n : Nat) (s : Int32 × pmM), pm_G l Γ zX9_number (d + 2) 44 [.ref l0, .int l1, .int l2, .int l3, .int s.1] [] s.2 (pm_lp n (X9_number_L44 l0 l1 l2 l3) s) :=
  pm_loop (lsf := fun s : Int32 × pmM => [.ref l0, .int l1, .int l2, .int l3, .int s.1]) (mf := fun s : Int32 × pmM => s.2) (fun again44 hag44 s44 => by
    unfold X9_number_L44
    refine pm_aload_n dX9_number_44 rfl rfl ?_
    refine pm_aload_n dX9_number_45 rfl rfl ?_
    refine fg_9_4 (y := zX9_number) (Or.inl tw_1370) dX9_number_46 (fun x9 => ?_)
    refine pm_rcv (fun hb9 hc9 => ?_)
    refine pm_kI (d := d + 1) rfl (pm_V (y := zX9_number) (z := zX9_byteAt) (As := [.int x9]) zkX9_byteAt pm_q9 (by decide) tw_1560 tw_1562 tw_102 dX9_number_49 rfl rfl (Nat.le_of_ble_eq_true rfl) hb9 hc9) (kcX9_byteAt (d := d + 1) hfl l0 x9 s44.2) (fun x11 m10 => ?_)
    refine pm_kI (d := d + 1) rfl (pm_S (y := zX9_number) (z := zX9_isDigit) (As := [.int x11]) zkX9_isDigit tw_1606 tw_1607 dX9_number_52 rfl rfl (Nat.le_of_ble_eq_true rfl)) (kcX9_isDigit (d := d + 1) hfl x11 m10) (fun x13 m12 => ?_)
    refine pm_if_eq (tgt := 106) dX9_number_55 rfl ?_ ?_
    · refine pm_iload dX9_number_106 rfl ?_
      refine pm_iload_n dX9_number_108 rfl rfl ?_
      refine pm_iload_n dX9_number_109 rfl rfl ?_
      refine pm_kI (d := d + 1) rfl (pm_S (y := zX9_number) (z := zX9_in) (As := [.int s44.1, .int l1, .int l2]) zkX9_in tw_1545 tw_1546 dX9_number_110 rfl rfl (Nat.le_of_ble_eq_true rfl)) (kcX9_in (d := d + 1) hfl s44.1 l1 l2 m12) (fun x15 m14 => ?_)
      refine pm_if_ne (tgt := 122) dX9_number_113 rfl ?_ ?_
      · refine pm_drop (ls2 := [.ref l0, pmU, pmU, pmU, .int s44.1]) (Nat.le_refl _) (pm_le_spec (pm_le_v (pm_le_u (pm_le_u (pm_le_u (pm_le_v (pm_le_n))))))) ?_
        exact gX9_number_j122 hfl l0 s44.1 m14
      · refine pm_aload_n dX9_number_116 rfl rfl ?_
        refine pm_iconst (v := 2) dX9_number_117 ki_2 ?_
        refine pm_iload_n dX9_number_118 rfl rfl ?_
        refine pm_rcv (fun hb9 hc9 => ?_)
        refine pm_kV (d := d + 1) rfl (pm_V (y := zX9_number) (z := zX9_wrong) (As := [.int 2, .int l3]) zkX9_wrong pm_q9 (by decide) tw_1586 tw_1588 tw_107 dX9_number_119 rfl rfl (Nat.le_of_ble_eq_true rfl) hb9 hc9) (kcX9_wrong (d := d + 1) hfl l0 2 l3 m14) (fun m17 => ?_)
        refine pm_drop (ls2 := [.ref l0, pmU, pmU, pmU, .int s44.1]) (Nat.le_refl _) (pm_le_spec (pm_le_v (pm_le_u (pm_le_u (pm_le_u (pm_le_v (pm_le_n))))))) ?_
        exact gX9_number_j122 hfl l0 s44.1 m17
    · refine pm_bipush (v := 10) dX9_number_58 kb_10 ?_
      refine pm_iload dX9_number_60 rfl ?_
      refine pm_imul dX9_number_62 ?_
      refine pm_aload_n dX9_number_63 rfl rfl ?_
      refine pm_aload_n dX9_number_64 rfl rfl ?_
      refine fg_9_4 (y := zX9_number) (Or.inl tw_1370) dX9_number_65 (fun x18 => ?_)
      refine pm_rcv (fun hb9 hc9 => ?_)
      refine pm_kI (d := d + 1) rfl (pm_V (y := zX9_number) (z := zX9_byteAt) (As := [.int x18]) zkX9_byteAt pm_q9 (by decide) tw_1560 tw_1562 tw_102 dX9_number_68 rfl rfl (Nat.le_of_ble_eq_true rfl) hb9 hc9) (kcX9_byteAt (d := d + 1) hfl l0 x18 m12) (fun x20 m19 => ?_)
      refine pm_iadd dX9_number_71 ?_
      refine pm_bipush (v := 48) dX9_number_72 kb_48 ?_
      refine pm_isub dX9_number_74 ?_
      refine pm_bIn (fun x21 => ?_)
      refine pm_istore (ls2 := [.ref l0, .int l1, .int l2, .int l3, .int x21]) dX9_number_75 rfl (Nat.le_of_ble_eq_true rfl) rfl ?_
      refine pm_iload dX9_number_77 rfl ?_
      refine pm_ldc (y := zX9_number) dX9_number_79 tw_1609 ?_
      refine pm_icmp_le (tgt := 89) dX9_number_81 rfl ?_ ?_
      · refine pm_iload dX9_number_89 rfl ?_
        refine pm_drop (ls2 := [.ref l0, .int l1, .int l2, .int l3, pmU]) (Nat.le_refl _) (pm_le_spec (pm_le_v (pm_le_v (pm_le_v (pm_le_v (pm_le_u (pm_le_n))))))) ?_
        exact gX9_number_j91 hfl again44 l0 l1 l2 l3 x21 m19 hag44
      · refine pm_ldc (y := zX9_number) dX9_number_84 tw_1609 ?_
        refine pm_goto (tgt := 91) dX9_number_86 rfl ?_
        refine pm_drop (ls2 := [.ref l0, .int l1, .int l2, .int l3, pmU]) (Nat.le_refl _) (pm_le_spec (pm_le_v (pm_le_v (pm_le_v (pm_le_v (pm_le_u (pm_le_n))))))) ?_
        exact gX9_number_j91 hfl again44 l0 l1 l2 l3 100000 m19 hag44)
set_option maxRecDepth 100000 in
set_option maxHeartbeats 4000000 in
theorem kcX9_number (hfl : l.flags = flags0) (a0 : Nat) (a1 : Int32) (a2 : Int32) (m : pmM) : pm_C l Γ zX9_number (d + 2) [.ref a0, .int a1, .int a2] m (X9_number a0 a1 a2 m) := by
  refine pm_enter (ls := [.ref a0, .int a1, .int a2, pmU, pmU]) hfl (by decide +kernel) rfl (Nat.le_of_ble_eq_true rfl) rfl (Nat.le_of_ble_eq_true rfl) ?_
  unfold X9_number
  refine pm_aload_n dX9_number_0 rfl rfl ?_
  refine fg_9_5 (y := zX9_number) (Or.inl tw_1371) dX9_number_1 (fun x1 => ?_)
  refine pm_if_eq (tgt := 9) dX9_number_4 rfl ?_ ?_
  · refine pm_aload_n dX9_number_9 rfl rfl ?_
    refine pm_rcv (fun hb9 hc9 => ?_)
    refine pm_kV (d := d + 1) rfl (pm_V (y := zX9_number) (z := zX9_blanks) (As := []) zkX9_blanks pm_q9 (by decide) tw_1556 tw_1558 tw_101 dX9_number_10 rfl rfl (Nat.le_of_ble_eq_true rfl) hb9 hc9) (kcX9_blanks (d := d + 0) hfl a0 m) (fun m2 => ?_)
    refine pm_aload_n dX9_number_13 rfl rfl ?_
    refine fg_9_4 (y := zX9_number) (Or.inl tw_1370) dX9_number_14 (fun x3 => ?_)
    refine pm_istore_n (ls2 := [.ref a0, .int a1, .int a2, .int x3, pmU]) dX9_number_17 rfl rfl (Nat.le_of_ble_eq_true rfl) rfl ?_
    refine pm_iconst (v := 0) dX9_number_18 ki_0 ?_
    refine pm_istore (ls2 := [.ref a0, .int a1, .int a2, .int x3, .int 0]) dX9_number_19 rfl (Nat.le_of_ble_eq_true rfl) rfl ?_
    refine pm_aload_n dX9_number_21 rfl rfl ?_
    refine pm_aload_n dX9_number_22 rfl rfl ?_
    refine fg_9_4 (y := zX9_number) (Or.inl tw_1370) dX9_number_23 (fun x4 => ?_)
    refine pm_rcv (fun hb9 hc9 => ?_)
    refine pm_kI (d := d + 1) rfl (pm_V (y := zX9_number) (z := zX9_byteAt) (As := [.int x4]) zkX9_byteAt pm_q9 (by decide) tw_1560 tw_1562 tw_102 dX9_number_26 rfl rfl (Nat.le_of_ble_eq_true rfl) hb9 hc9) (kcX9_byteAt (d := d + 1) hfl a0 x4 m2) (fun x6 m5 => ?_)
    refine pm_kI (d := d + 1) rfl (pm_S (y := zX9_number) (z := zX9_isDigit) (As := [.int x6]) zkX9_isDigit tw_1606 tw_1607 dX9_number_29 rfl rfl (Nat.le_of_ble_eq_true rfl)) (kcX9_isDigit (d := d + 1) hfl x6 m5) (fun x8 m7 => ?_)
    refine pm_if_ne (tgt := 44) dX9_number_32 rfl ?_ ?_
    · exact gX9_number_L44 hfl a0 a1 a2 x3 pm_N (0, m7)
    · refine pm_aload_n dX9_number_35 rfl rfl ?_
      refine pm_iconst (v := 1) dX9_number_36 ki_1 ?_
      refine pm_aload_n dX9_number_37 rfl rfl ?_
      refine fg_9_4 (y := zX9_number) (Or.inl tw_1370) dX9_number_38 (fun x24 => ?_)
      refine pm_rcv (fun hb9 hc9 => ?_)
      refine pm_kV (d := d + 1) rfl (pm_V (y := zX9_number) (z := zX9_wrong) (As := [.int 1, .int x24]) zkX9_wrong pm_q9 (by decide) tw_1586 tw_1588 tw_107 dX9_number_41 rfl rfl (Nat.le_of_ble_eq_true rfl) hb9 hc9) (kcX9_wrong (d := d + 1) hfl a0 1 x24 m7) (fun m25 => ?_)
      exact gX9_number_L44 hfl a0 a1 a2 x3 pm_N (0, m25)
  · refine pm_iconst (v := 0) dX9_number_7 ki_0 ?_
    exact pm_iret rfl dX9_number_8
-- StruckPageModel.wordHere()I
def X9_wordHere_j72 (t0 : Int32) (m : pmM) : pmR := pm_oI t0 m
def X9_wordHere_j54 (again8 : (Int32 × Int32 × pmM) → pmR) (l0 : Nat) (l2 : Int32) (t0 : Int32) (m : pmM) : pmR := pm_bI (l2 + 1) fun x7 => again8 (t0, x7, m)
def X9_wordHere_L8 (l0 : Nat) (again8 : (Int32 × Int32 × pmM) → pmR) (s8 : Int32 × Int32 × pmM) : pmR := pm_gI 9 l0 4 s8.2.2 fun x2 => pm_rc 9 l0 s8.2.2 <| pm_cI (X9_byteAt l0 (x2 + s8.2.1) s8.2.2) fun x4 m3 => pm_cI (X9_isSmall x4 m3) fun x6 m5 => if x6 = 0 then (if s8.2.1 ≤ 6 then (X9_wordHere_j72 s8.1 m5) else (X9_wordHere_j72 (-1) m5)) else (if (6 : Int32) ≤ s8.2.1 then (X9_wordHere_j54 again8 l0 s8.2.1 s8.1 m5) else (pm_gI 9 l0 4 m5 fun x8 => pm_rc 9 l0 m5 <| pm_cI (X9_byteAt l0 (x8 + s8.2.1) m5) fun x10 m9 => X9_wordHere_j54 again8 l0 s8.2.1 (((((27 : Int32) * s8.1) + x10) - 97) + 1) m9))
def X9_wordHere (a0 : Nat) (m : pmM) : pmR := pm_rc 9 a0 m <| pm_cV (X9_blanks a0 m) fun m1 => pm_lp pm_N (X9_wordHere_L8 a0) (0, 0, m1)
set_option maxRecDepth 100000 in
set_option maxHeartbeats 4000000 in
theorem gX9_wordHere_j72 (hfl : l.flags = flags0) (t0 : Int32) (m : pmM) : pm_G l Γ zX9_wordHere (d + 2) 72 [pmU, pmU, pmU] [.int t0] m (X9_wordHere_j72 t0 m) := by
  unfold X9_wordHere_j72
  exact pm_iret rfl dX9_wordHere_72
set_option maxRecDepth 100000 in
set_option maxHeartbeats 4000000 in
theorem gX9_wordHere_j54 (hfl : l.flags = flags0) (again8 : (Int32 × Int32 × pmM) → pmR) (l0 : Nat) (l2 : Int32) (t0 : Int32) (m : pmM) (hag8 : ∀ s : Int32 × Int32 × pmM, pm_G l Γ zX9_wordHere (d + 2) 8 [.ref l0, .int s.1, .int s.2.1] [] s.2.2 (again8 s)) : pm_G l Γ zX9_wordHere (d + 2) 54 [.ref l0, pmU, .int l2] [.int t0] m (X9_wordHere_j54 again8 l0 l2 t0 m) := by
  unfold X9_wordHere_j54
  refine pm_istore_n (ls2 := [.ref l0, .int t0, .int l2]) dX9_wordHere_54 rfl rfl (Nat.le_of_ble_eq_true rfl) rfl ?_
  refine pm_iincn (y := zX9_wordHere) dX9_wordHere_55 rfl ki_1 rfl (Nat.le_of_ble_eq_true rfl) (fun x7 => ?_)
  refine pm_eqls (ls2 := [.ref l0, .int t0, .int x7]) rfl ?_
  refine pm_goto (tgt := 8) dX9_wordHere_58 rfl ?_
  exact hag8 (t0, x7, m)
set_option maxRecDepth 100000 in
set_option maxHeartbeats 4000000 in
theorem gX9_wordHere_L8 (hfl : l.flags = flags0) (l0 : Nat) : ∀ (n : Nat) (s : Int32 × Int32 × pmM), pm_G l Γ zX9_wordHere (d + 2) 8 [.ref l0, .int s.1, .int s.2.1] [] s.2.2 (pm_lp n (X9_wordHere_L8 l0) s) :=
  pm_loop (lsf := fun s : Int32 × Int32 × pmM => [.ref l0, .int s.1, .int s.2.1]) (mf := fun s : Int32 × Int32 × pmM => s.2.2) (fun again8 hag8 s8 => by
    unfold X9_wordHere_L8
    refine pm_aload_n dX9_wordHere_8 rfl rfl ?_
    refine pm_aload_n dX9_wordHere_9 rfl rfl ?_
    refine fg_9_4 (y := zX9_wordHere) (Or.inl tw_1370) dX9_wordHere_10 (fun x2 => ?_)
    refine pm_iload_n dX9_wordHere_13 rfl rfl ?_
    refine pm_iadd dX9_wordHere_14 ?_
    refine pm_rcv (fun hb9 hc9 => ?_)
    refine pm_kI (d := d + 1) rfl (pm_V (y := zX9_wordHere) (z := zX9_byteAt) (As := [.int (x2 + s8.2.1)]) zkX9_byteAt pm_q9 (by decide) tw_1560 tw_1562 tw_102 dX9_wordHere_15 rfl rfl (Nat.le_of_ble_eq_true rfl) hb9 hc9) (kcX9_byteAt (d := d + 1) hfl l0 (x2 + s8.2.1) s8.2.2) (fun x4 m3 => ?_)
    refine pm_kI (d := d + 1) rfl (pm_S (y := zX9_wordHere) (z := zX9_isSmall) (As := [.int x4]) zkX9_isSmall tw_1580 tw_1581 dX9_wordHere_18 rfl rfl (Nat.le_of_ble_eq_true rfl)) (kcX9_isSmall (d := d + 1) hfl x4 m3) (fun x6 m5 => ?_)
    refine pm_if_eq (tgt := 61) dX9_wordHere_21 rfl ?_ ?_
    · refine pm_iload_n dX9_wordHere_61 rfl rfl ?_
      refine pm_bipush (v := 6) dX9_wordHere_62 kb_6 ?_
      refine pm_icmp_le (tgt := 71) dX9_wordHere_64 rfl ?_ ?_
      · refine pm_iload_n dX9_wordHere_71 rfl rfl ?_
        refine pm_drop (ls2 := [pmU, pmU, pmU]) (Nat.le_refl _) (pm_le_spec (pm_le_u (pm_le_u (pm_le_u (pm_le_n))))) ?_
        exact gX9_wordHere_j72 hfl s8.1 m5
      · refine pm_iconst (v := (-1)) dX9_wordHere_67 ki_n1 ?_
        refine pm_goto (tgt := 72) dX9_wordHere_68 rfl ?_
        refine pm_drop (ls2 := [pmU, pmU, pmU]) (Nat.le_refl _) (pm_le_spec (pm_le_u (pm_le_u (pm_le_u (pm_le_n))))) ?_
        exact gX9_wordHere_j72 hfl (-1) m5
    · refine pm_iload_n dX9_wordHere_24 rfl rfl ?_
      refine pm_bipush (v := 6) dX9_wordHere_25 kb_6 ?_
      refine pm_icmp_ge (tgt := 53) dX9_wordHere_27 rfl ?_ ?_
      · refine pm_iload_n dX9_wordHere_53 rfl rfl ?_
        refine pm_drop (ls2 := [.ref l0, pmU, .int s8.2.1]) (Nat.le_refl _) (pm_le_spec (pm_le_v (pm_le_u (pm_le_v (pm_le_n))))) ?_
        exact gX9_wordHere_j54 hfl again8 l0 s8.2.1 s8.1 m5 hag8
      · refine pm_bipush (v := 27) dX9_wordHere_30 kb_27 ?_
        refine pm_iload_n dX9_wordHere_32 rfl rfl ?_
        refine pm_imul dX9_wordHere_33 ?_
        refine pm_aload_n dX9_wordHere_34 rfl rfl ?_
        refine pm_aload_n dX9_wordHere_35 rfl rfl ?_
        refine fg_9_4 (y := zX9_wordHere) (Or.inl tw_1370) dX9_wordHere_36 (fun x8 => ?_)
        refine pm_iload_n dX9_wordHere_39 rfl rfl ?_
        refine pm_iadd dX9_wordHere_40 ?_
        refine pm_rcv (fun hb9 hc9 => ?_)
        refine pm_kI (d := d + 1) rfl (pm_V (y := zX9_wordHere) (z := zX9_byteAt) (As := [.int (x8 + s8.2.1)]) zkX9_byteAt pm_q9 (by decide) tw_1560 tw_1562 tw_102 dX9_wordHere_41 rfl rfl (Nat.le_of_ble_eq_true rfl) hb9 hc9) (kcX9_byteAt (d := d + 1) hfl l0 (x8 + s8.2.1) m5) (fun x10 m9 => ?_)
        refine pm_iadd dX9_wordHere_44 ?_
        refine pm_bipush (v := 97) dX9_wordHere_45 kb_97 ?_
        refine pm_isub dX9_wordHere_47 ?_
        refine pm_iconst (v := 1) dX9_wordHere_48 ki_1 ?_
        refine pm_iadd dX9_wordHere_49 ?_
        refine pm_goto (tgt := 54) dX9_wordHere_50 rfl ?_
        refine pm_drop (ls2 := [.ref l0, pmU, .int s8.2.1]) (Nat.le_refl _) (pm_le_spec (pm_le_v (pm_le_u (pm_le_v (pm_le_n))))) ?_
        exact gX9_wordHere_j54 hfl again8 l0 s8.2.1 (((((27 : Int32) * s8.1) + x10) - 97) + 1) m9 hag8)
set_option maxRecDepth 100000 in
set_option maxHeartbeats 4000000 in
theorem kcX9_wordHere (hfl : l.flags = flags0) (a0 : Nat) (m : pmM) : pm_C l Γ zX9_wordHere (d + 2) [.ref a0] m (X9_wordHere a0 m) := by
  refine pm_enter (ls := [.ref a0, pmU, pmU]) hfl (by decide +kernel) rfl (Nat.le_of_ble_eq_true rfl) rfl (Nat.le_of_ble_eq_true rfl) ?_
  unfold X9_wordHere
  refine pm_aload_n dX9_wordHere_0 rfl rfl ?_
  refine pm_rcv (fun hb9 hc9 => ?_)
  refine pm_kV (d := d + 1) rfl (pm_V (y := zX9_wordHere) (z := zX9_blanks) (As := []) zkX9_blanks pm_q9 (by decide) tw_1556 tw_1558 tw_101 dX9_wordHere_1 rfl rfl (Nat.le_of_ble_eq_true rfl) hb9 hc9) (kcX9_blanks (d := d + 0) hfl a0 m) (fun m1 => ?_)
  refine pm_iconst (v := 0) dX9_wordHere_4 ki_0 ?_
  refine pm_istore_n (ls2 := [.ref a0, .int 0, pmU]) dX9_wordHere_5 rfl rfl (Nat.le_of_ble_eq_true rfl) rfl ?_
  refine pm_iconst (v := 0) dX9_wordHere_6 ki_0 ?_
  refine pm_istore_n (ls2 := [.ref a0, .int 0, .int 0]) dX9_wordHere_7 rfl rfl (Nat.le_of_ble_eq_true rfl) rfl ?_
  exact gX9_wordHere_L8 hfl a0 pm_N (0, 0, m1)
-- StruckPageModel.six(IIIIII)I
def X9_six_j69 (t0 : Int32) (m : pmM) : pmR := pm_oI t0 m
def X9_six_j49 (l5 : Int32) (t0 : Int32) (m : pmM) : pmR := if l5 = 0 then (X9_six_j69 t0 m) else (X9_six_j69 (((27 : Int32) * t0) + l5) m)
def X9_six_j29 (l4 : Int32) (l5 : Int32) (t0 : Int32) (m : pmM) : pmR := if l4 = 0 then (X9_six_j49 l5 t0 m) else (X9_six_j49 l5 (((27 : Int32) * t0) + l4) m)
def X9_six (a0 : Int32) (a1 : Int32) (a2 : Int32) (a3 : Int32) (a4 : Int32) (a5 : Int32) (m : pmM) : pmR := pm_bI (((27 : Int32) * (((27 : Int32) * a0) + a1)) + a2) fun x1 => if a3 = 0 then (X9_six_j29 a4 a5 x1 m) else (X9_six_j29 a4 a5 (((27 : Int32) * x1) + a3) m)
set_option maxRecDepth 100000 in
set_option maxHeartbeats 4000000 in
theorem gX9_six_j69 (hfl : l.flags = flags0) (t0 : Int32) (m : pmM) : pm_G l Γ zX9_six (d + 0) 69 [pmU, pmU, pmU, pmU, pmU, pmU, pmU] [.int t0] m (X9_six_j69 t0 m) := by
  unfold X9_six_j69
  exact pm_iret rfl dX9_six_69
set_option maxRecDepth 100000 in
set_option maxHeartbeats 4000000 in
theorem gX9_six_j49 (hfl : l.flags = flags0) (l5 : Int32) (t0 : Int32) (m : pmM) : pm_G l Γ zX9_six (d + 0) 49 [pmU, pmU, pmU, pmU, pmU, .int l5, pmU] [.int t0] m (X9_six_j49 l5 t0 m) := by
  unfold X9_six_j49
  refine pm_istore (ls2 := [pmU, pmU, pmU, pmU, pmU, .int l5, .int t0]) dX9_six_49 rfl (Nat.le_of_ble_eq_true rfl) rfl ?_
  refine pm_iload dX9_six_51 rfl ?_
  refine pm_if_ne (tgt := 61) dX9_six_53 rfl ?_ ?_
  · refine pm_bipush (v := 27) dX9_six_61 kb_27 ?_
    refine pm_iload dX9_six_63 rfl ?_
    refine pm_imul dX9_six_65 ?_
    refine pm_iload dX9_six_66 rfl ?_
    refine pm_iadd dX9_six_68 ?_
    refine pm_drop (ls2 := [pmU, pmU, pmU, pmU, pmU, pmU, pmU]) (Nat.le_refl _) (pm_le_spec (pm_le_u (pm_le_u (pm_le_u (pm_le_u (pm_le_u (pm_le_u (pm_le_u (pm_le_n))))))))) ?_
    exact gX9_six_j69 hfl (((27 : Int32) * t0) + l5) m
  · refine pm_iload dX9_six_56 rfl ?_
    refine pm_goto (tgt := 69) dX9_six_58 rfl ?_
    refine pm_drop (ls2 := [pmU, pmU, pmU, pmU, pmU, pmU, pmU]) (Nat.le_refl _) (pm_le_spec (pm_le_u (pm_le_u (pm_le_u (pm_le_u (pm_le_u (pm_le_u (pm_le_u (pm_le_n))))))))) ?_
    exact gX9_six_j69 hfl t0 m
set_option maxRecDepth 100000 in
set_option maxHeartbeats 4000000 in
theorem gX9_six_j29 (hfl : l.flags = flags0) (l4 : Int32) (l5 : Int32) (t0 : Int32) (m : pmM) : pm_G l Γ zX9_six (d + 0) 29 [pmU, pmU, pmU, pmU, .int l4, .int l5, pmU] [.int t0] m (X9_six_j29 l4 l5 t0 m) := by
  unfold X9_six_j29
  refine pm_istore (ls2 := [pmU, pmU, pmU, pmU, .int l4, .int l5, .int t0]) dX9_six_29 rfl (Nat.le_of_ble_eq_true rfl) rfl ?_
  refine pm_iload dX9_six_31 rfl ?_
  refine pm_if_ne (tgt := 41) dX9_six_33 rfl ?_ ?_
  · refine pm_bipush (v := 27) dX9_six_41 kb_27 ?_
    refine pm_iload dX9_six_43 rfl ?_
    refine pm_imul dX9_six_45 ?_
    refine pm_iload dX9_six_46 rfl ?_
    refine pm_iadd dX9_six_48 ?_
    refine pm_drop (ls2 := [pmU, pmU, pmU, pmU, pmU, .int l5, pmU]) (Nat.le_refl _) (pm_le_spec (pm_le_u (pm_le_u (pm_le_u (pm_le_u (pm_le_u (pm_le_v (pm_le_u (pm_le_n))))))))) ?_
    exact gX9_six_j49 hfl l5 (((27 : Int32) * t0) + l4) m
  · refine pm_iload dX9_six_36 rfl ?_
    refine pm_goto (tgt := 49) dX9_six_38 rfl ?_
    refine pm_drop (ls2 := [pmU, pmU, pmU, pmU, pmU, .int l5, pmU]) (Nat.le_refl _) (pm_le_spec (pm_le_u (pm_le_u (pm_le_u (pm_le_u (pm_le_u (pm_le_v (pm_le_u (pm_le_n))))))))) ?_
    exact gX9_six_j49 hfl l5 t0 m
set_option maxRecDepth 100000 in
set_option maxHeartbeats 4000000 in
theorem kcX9_six (hfl : l.flags = flags0) (a0 : Int32) (a1 : Int32) (a2 : Int32) (a3 : Int32) (a4 : Int32) (a5 : Int32) (m : pmM) : pm_C l Γ zX9_six (d + 0) [.int a0, .int a1, .int a2, .int a3, .int a4, .int a5] m (X9_six a0 a1 a2 a3 a4 a5 m) := by
  refine pm_enter (ls := [.int a0, .int a1, .int a2, .int a3, .int a4, .int a5, pmU]) hfl (by decide +kernel) rfl (Nat.le_of_ble_eq_true rfl) rfl (Nat.le_of_ble_eq_true rfl) ?_
  unfold X9_six
  refine pm_bipush (v := 27) dX9_six_0 kb_27 ?_
  refine pm_bipush (v := 27) dX9_six_2 kb_27 ?_
  refine pm_iload_n dX9_six_4 rfl rfl ?_
  refine pm_imul dX9_six_5 ?_
  refine pm_iload_n dX9_six_6 rfl rfl ?_
  refine pm_iadd dX9_six_7 ?_
  refine pm_imul dX9_six_8 ?_
  refine pm_iload_n dX9_six_9 rfl rfl ?_
  refine pm_iadd dX9_six_10 ?_
  refine pm_bIn (fun x1 => ?_)
  refine pm_istore (ls2 := [.int a0, .int a1, .int a2, .int a3, .int a4, .int a5, .int x1]) dX9_six_11 rfl (Nat.le_of_ble_eq_true rfl) rfl ?_
  refine pm_iload_n dX9_six_13 rfl rfl ?_
  refine pm_if_ne (tgt := 22) dX9_six_14 rfl ?_ ?_
  · refine pm_bipush (v := 27) dX9_six_22 kb_27 ?_
    refine pm_iload dX9_six_24 rfl ?_
    refine pm_imul dX9_six_26 ?_
    refine pm_iload_n dX9_six_27 rfl rfl ?_
    refine pm_iadd dX9_six_28 ?_
    refine pm_drop (ls2 := [pmU, pmU, pmU, pmU, .int a4, .int a5, pmU]) (Nat.le_refl _) (pm_le_spec (pm_le_u (pm_le_u (pm_le_u (pm_le_u (pm_le_v (pm_le_v (pm_le_u (pm_le_n))))))))) ?_
    exact gX9_six_j29 hfl a4 a5 (((27 : Int32) * x1) + a3) m
  · refine pm_iload dX9_six_17 rfl ?_
    refine pm_goto (tgt := 29) dX9_six_19 rfl ?_
    refine pm_drop (ls2 := [pmU, pmU, pmU, pmU, .int a4, .int a5, pmU]) (Nat.le_refl _) (pm_le_spec (pm_le_u (pm_le_u (pm_le_u (pm_le_u (pm_le_v (pm_le_v (pm_le_u (pm_le_n))))))))) ?_
    exact gX9_six_j29 hfl a4 a5 x1 m
-- StruckPageModel.isWord(IIIIII)Z
def X9_isWord_j31 (t0 : Int32) (m : pmM) : pmR := pm_oI (vp_nar .boolean t0) m
def X9_isWord_j30 (m : pmM) : pmR := X9_isWord_j31 0 m
def X9_isWord (a0 : Nat) (a1 : Int32) (a2 : Int32) (a3 : Int32) (a4 : Int32) (a5 : Int32) (a6 : Int32) (m : pmM) : pmR := pm_gI 9 a0 5 m fun x1 => if x1 = 0 then (pm_rc 9 a0 m <| pm_cI (X9_wordHere a0 m) fun x3 m2 => pm_cI (X9_six a1 a2 a3 a4 a5 a6 m2) fun x5 m4 => if x3 = x5 then (X9_isWord_j31 1 m4) else (X9_isWord_j30 m4)) else (X9_isWord_j30 m)
set_option maxRecDepth 100000 in
set_option maxHeartbeats 4000000 in
theorem gX9_isWord_j31 (hfl : l.flags = flags0) (t0 : Int32) (m : pmM) : pm_G l Γ zX9_isWord (d + 3) 31 [pmU, pmU, pmU, pmU, pmU, pmU, pmU] [.int t0] m (X9_isWord_j31 t0 m) := by
  unfold X9_isWord_j31
  exact pm_nret (ty := .boolean) (w := vp_nar .boolean t0) rfl (by decide) rfl dX9_isWord_31
set_option maxRecDepth 100000 in
set_option maxHeartbeats 4000000 in
theorem gX9_isWord_j30 (hfl : l.flags = flags0) (m : pmM) : pm_G l Γ zX9_isWord (d + 3) 30 [pmU, pmU, pmU, pmU, pmU, pmU, pmU] [] m (X9_isWord_j30 m) := by
  unfold X9_isWord_j30
  refine pm_iconst (v := 0) dX9_isWord_30 ki_0 ?_
  exact gX9_isWord_j31 hfl 0 m
set_option maxRecDepth 100000 in
set_option maxHeartbeats 4000000 in
theorem kcX9_isWord (hfl : l.flags = flags0) (a0 : Nat) (a1 : Int32) (a2 : Int32) (a3 : Int32) (a4 : Int32) (a5 : Int32) (a6 : Int32) (m : pmM) : pm_C l Γ zX9_isWord (d + 3) [.ref a0, .int a1, .int a2, .int a3, .int a4, .int a5, .int a6] m (X9_isWord a0 a1 a2 a3 a4 a5 a6 m) := by
  refine pm_enter (ls := [.ref a0, .int a1, .int a2, .int a3, .int a4, .int a5, .int a6]) hfl (by decide +kernel) rfl (Nat.le_of_ble_eq_true rfl) rfl (Nat.le_of_ble_eq_true rfl) ?_
  unfold X9_isWord
  refine pm_aload_n dX9_isWord_0 rfl rfl ?_
  refine fg_9_5 (y := zX9_isWord) (Or.inl tw_1371) dX9_isWord_1 (fun x1 => ?_)
  refine pm_if_ne (tgt := 30) dX9_isWord_4 rfl ?_ ?_
  · refine pm_drop (ls2 := [pmU, pmU, pmU, pmU, pmU, pmU, pmU]) (Nat.le_refl _) (pm_le_spec (pm_le_u (pm_le_u (pm_le_u (pm_le_u (pm_le_u (pm_le_u (pm_le_u (pm_le_n))))))))) ?_
    exact gX9_isWord_j30 hfl m
  · refine pm_aload_n dX9_isWord_7 rfl rfl ?_
    refine pm_rcv (fun hb9 hc9 => ?_)
    refine pm_kI (d := d + 2) rfl (pm_V (y := zX9_isWord) (z := zX9_wordHere) (As := []) zkX9_wordHere pm_q9 (by decide) tw_1576 tw_1578 tw_106 dX9_isWord_8 rfl rfl (Nat.le_of_ble_eq_true rfl) hb9 hc9) (kcX9_wordHere (d := d + 0) hfl a0 m) (fun x3 m2 => ?_)
    refine pm_iload_n dX9_isWord_11 rfl rfl ?_
    refine pm_iload_n dX9_isWord_12 rfl rfl ?_
    refine pm_iload_n dX9_isWord_13 rfl rfl ?_
    refine pm_iload dX9_isWord_14 rfl ?_
    refine pm_iload dX9_isWord_16 rfl ?_
    refine pm_iload dX9_isWord_18 rfl ?_
    refine pm_kI (d := d + 2) rfl (pm_S (y := zX9_isWord) (z := zX9_six) (As := [.int a1, .int a2, .int a3, .int a4, .int a5, .int a6]) zkX9_six tw_1583 tw_1584 dX9_isWord_20 rfl rfl (Nat.le_of_ble_eq_true rfl)) (kcX9_six (d := d + 2) hfl a1 a2 a3 a4 a5 a6 m2) (fun x5 m4 => ?_)
    refine pm_icmp_ne (tgt := 30) dX9_isWord_23 rfl ?_ ?_
    · refine pm_drop (ls2 := [pmU, pmU, pmU, pmU, pmU, pmU, pmU]) (Nat.le_refl _) (pm_le_spec (pm_le_u (pm_le_u (pm_le_u (pm_le_u (pm_le_u (pm_le_u (pm_le_u (pm_le_n))))))))) ?_
      exact gX9_isWord_j30 hfl m4
    · refine pm_iconst (v := 1) dX9_isWord_26 ki_1 ?_
      refine pm_goto (tgt := 31) dX9_isWord_27 rfl ?_
      refine pm_drop (ls2 := [pmU, pmU, pmU, pmU, pmU, pmU, pmU]) (Nat.le_refl _) (pm_le_spec (pm_le_u (pm_le_u (pm_le_u (pm_le_u (pm_le_u (pm_le_u (pm_le_u (pm_le_n))))))))) ?_
      exact gX9_isWord_j31 hfl 1 m4
-- StruckPageModel.skipWord()V
def X9_skipWord_L0 (l0 : Nat) (again0 : (pmM) → pmR) (s0 : pmM) : pmR := pm_gI 9 l0 4 s0 fun x1 => pm_rc 9 l0 s0 <| pm_cI (X9_byteAt l0 x1 s0) fun x3 m2 => pm_cI (X9_isSmall x3 m2) fun x5 m4 => if x5 = 0 then (pm_oV m4) else (pm_gI 9 l0 4 m4 fun x6 => pm_pI 9 l0 4 (x6 + 1) m4 fun m7 => again0 m7)
def X9_skipWord (a0 : Nat) (m : pmM) : pmR := pm_lp pm_N (X9_skipWord_L0 a0) m
set_option maxRecDepth 100000 in
set_option maxHeartbeats 4000000 in
theorem gX9_skipWord_L0 (hfl : l.flags = flags0) (l0 : Nat) : ∀ (n : Nat) (s : pmM), pm_G l Γ zX9_skipWord (d + 1) 0 [.ref l0] [] s (pm_lp n (X9_skipWord_L0 l0) s) :=
  pm_loop (lsf := fun s : pmM => [.ref l0]) (mf := fun s : pmM => s) (fun again0 hag0 s0 => by
    unfold X9_skipWord_L0
    refine pm_aload_n dX9_skipWord_0 rfl rfl ?_
    refine pm_aload_n dX9_skipWord_1 rfl rfl ?_
    refine fg_9_4 (y := zX9_skipWord) (Or.inl tw_1370) dX9_skipWord_2 (fun x1 => ?_)
    refine pm_rcv (fun hb9 hc9 => ?_)
    refine pm_kI (d := d + 0) rfl (pm_V (y := zX9_skipWord) (z := zX9_byteAt) (As := [.int x1]) zkX9_byteAt pm_q9 (by decide) tw_1560 tw_1562 tw_102 dX9_skipWord_5 rfl rfl (Nat.le_of_ble_eq_true rfl) hb9 hc9) (kcX9_byteAt (d := d + 0) hfl l0 x1 s0) (fun x3 m2 => ?_)
    refine pm_kI (d := d + 0) rfl (pm_S (y := zX9_skipWord) (z := zX9_isSmall) (As := [.int x3]) zkX9_isSmall tw_1580 tw_1581 dX9_skipWord_8 rfl rfl (Nat.le_of_ble_eq_true rfl)) (kcX9_isSmall (d := d + 0) hfl x3 m2) (fun x5 m4 => ?_)
    refine pm_if_eq (tgt := 27) dX9_skipWord_11 rfl ?_ ?_
    · exact pm_vret rfl dX9_skipWord_27
    · refine pm_aload_n dX9_skipWord_14 rfl rfl ?_
      refine pm_dup dX9_skipWord_15 rfl ?_
      refine fg_9_4 (y := zX9_skipWord) (Or.inl tw_1370) dX9_skipWord_16 (fun x6 => ?_)
      refine pm_iconst (v := 1) dX9_skipWord_19 ki_1 ?_
      refine pm_iadd dX9_skipWord_20 ?_
      refine fp_9_4 (y := zX9_skipWord) (Or.inl tw_1370) dX9_skipWord_21 (fun m7 => ?_)
      refine pm_goto (tgt := 0) dX9_skipWord_24 rfl ?_
      exact hag0 m7)
set_option maxRecDepth 100000 in
set_option maxHeartbeats 4000000 in
theorem kcX9_skipWord (hfl : l.flags = flags0) (a0 : Nat) (m : pmM) : pm_C l Γ zX9_skipWord (d + 1) [.ref a0] m (X9_skipWord a0 m) := by
  refine pm_enter (ls := [.ref a0]) hfl (by decide +kernel) rfl (Nat.le_of_ble_eq_true rfl) rfl (Nat.le_of_ble_eq_true rfl) ?_
  unfold X9_skipWord
  exact gX9_skipWord_L0 hfl a0 pm_N m
-- StruckPageModel.takes(IIIIII)Z
def X9_takes_j24 (l7 : Int32) (m : pmM) : pmR := pm_oI (vp_nar .boolean l7) m
def X9_takes (a0 : Nat) (a1 : Int32) (a2 : Int32) (a3 : Int32) (a4 : Int32) (a5 : Int32) (a6 : Int32) (m : pmM) : pmR := pm_rc 9 a0 m <| pm_cI (X9_isWord a0 a1 a2 a3 a4 a5 a6 m) fun x2 m1 => if x2 = 0 then (X9_takes_j24 x2 m1) else (pm_rc 9 a0 m1 <| pm_cV (X9_skipWord a0 m1) fun m3 => X9_takes_j24 x2 m3)
set_option maxRecDepth 100000 in
set_option maxHeartbeats 4000000 in
theorem gX9_takes_j24 (hfl : l.flags = flags0) (l7 : Int32) (m : pmM) : pm_G l Γ zX9_takes (d + 4) 24 [pmU, pmU, pmU, pmU, pmU, pmU, pmU, .int l7] [] m (X9_takes_j24 l7 m) := by
  unfold X9_takes_j24
  refine pm_iload dX9_takes_24 rfl ?_
  exact pm_nret (ty := .boolean) (w := vp_nar .boolean l7) rfl (by decide) rfl dX9_takes_26
set_option maxRecDepth 100000 in
set_option maxHeartbeats 4000000 in
theorem kcX9_takes (hfl : l.flags = flags0) (a0 : Nat) (a1 : Int32) (a2 : Int32) (a3 : Int32) (a4 : Int32) (a5 : Int32) (a6 : Int32) (m : pmM) : pm_C l Γ zX9_takes (d + 4) [.ref a0, .int a1, .int a2, .int a3, .int a4, .int a5, .int a6] m (X9_takes a0 a1 a2 a3 a4 a5 a6 m) := by
  refine pm_enter (ls := [.ref a0, .int a1, .int a2, .int a3, .int a4, .int a5, .int a6, pmU]) hfl (by decide +kernel) rfl (Nat.le_of_ble_eq_true rfl) rfl (Nat.le_of_ble_eq_true rfl) ?_
  unfold X9_takes
  refine pm_aload_n dX9_takes_0 rfl rfl ?_
  refine pm_iload_n dX9_takes_1 rfl rfl ?_
  refine pm_iload_n dX9_takes_2 rfl rfl ?_
  refine pm_iload_n dX9_takes_3 rfl rfl ?_
  refine pm_iload dX9_takes_4 rfl ?_
  refine pm_iload dX9_takes_6 rfl ?_
  refine pm_iload dX9_takes_8 rfl ?_
  refine pm_rcv (fun hb9 hc9 => ?_)
  refine pm_kI (d := d + 3) rfl (pm_V (y := zX9_takes) (z := zX9_isWord) (As := [.int a1, .int a2, .int a3, .int a4, .int a5, .int a6]) zkX9_isWord pm_q9 (by decide) tw_1572 tw_1574 tw_105 dX9_takes_10 rfl rfl (Nat.le_of_ble_eq_true rfl) hb9 hc9) (kcX9_isWord (d := d + 0) hfl a0 a1 a2 a3 a4 a5 a6 m) (fun x2 m1 => ?_)
  refine pm_istore (ls2 := [.ref a0, .int a1, .int a2, .int a3, .int a4, .int a5, .int a6, .int x2]) dX9_takes_13 rfl (Nat.le_of_ble_eq_true rfl) rfl ?_
  refine pm_iload dX9_takes_15 rfl ?_
  refine pm_if_eq (tgt := 24) dX9_takes_17 rfl ?_ ?_
  · refine pm_drop (ls2 := [pmU, pmU, pmU, pmU, pmU, pmU, pmU, .int x2]) (Nat.le_refl _) (pm_le_spec (pm_le_u (pm_le_u (pm_le_u (pm_le_u (pm_le_u (pm_le_u (pm_le_u (pm_le_v (pm_le_n)))))))))) ?_
    exact gX9_takes_j24 hfl x2 m1
  · refine pm_aload_n dX9_takes_20 rfl rfl ?_
    refine pm_rcv (fun hb9 hc9 => ?_)
    refine pm_kV (d := d + 3) rfl (pm_V (y := zX9_takes) (z := zX9_skipWord) (As := []) zkX9_skipWord pm_q9 (by decide) tw_1590 tw_1592 tw_108 dX9_takes_21 rfl rfl (Nat.le_of_ble_eq_true rfl) hb9 hc9) (kcX9_skipWord (d := d + 2) hfl a0 m1) (fun m3 => ?_)
    refine pm_drop (ls2 := [pmU, pmU, pmU, pmU, pmU, pmU, pmU, .int x2]) (Nat.le_refl _) (pm_le_spec (pm_le_u (pm_le_u (pm_le_u (pm_le_u (pm_le_u (pm_le_u (pm_le_u (pm_le_v (pm_le_n)))))))))) ?_
    exact gX9_takes_j24 hfl x2 m3
-- StruckPageModel.sign(I)V
def X9_sign_j46 (m : pmM) : pmR := pm_oV m
def X9_sign (a0 : Nat) (a1 : Int32) (m : pmM) : pmR := pm_gI 9 a0 5 m fun x1 => if x1 = 0 then (pm_rc 9 a0 m <| pm_cV (X9_blanks a0 m) fun m2 => pm_gI 9 a0 4 m2 fun x3 => pm_rc 9 a0 m2 <| pm_cI (X9_byteAt a0 x3 m2) fun x5 m4 => if x5 = a1 then (pm_gI 9 a0 4 m4 fun x8 => pm_pI 9 a0 4 (x8 + 1) m4 fun m9 => X9_sign_j46 m9) else (pm_gI 9 a0 4 m4 fun x6 => pm_rc 9 a0 m4 <| pm_cV (X9_wrong a0 1 x6 m4) fun m7 => X9_sign_j46 m7)) else (pm_oV m)
set_option maxRecDepth 100000 in
set_option maxHeartbeats 4000000 in
theorem gX9_sign_j46 (hfl : l.flags = flags0) (m : pmM) : pm_G l Γ zX9_sign (d + 2) 46 [pmU, pmU] [] m (X9_sign_j46 m) := by
  unfold X9_sign_j46
  exact pm_vret rfl dX9_sign_46
set_option maxRecDepth 100000 in
set_option maxHeartbeats 4000000 in
theorem kcX9_sign (hfl : l.flags = flags0) (a0 : Nat) (a1 : Int32) (m : pmM) : pm_C l Γ zX9_sign (d + 2) [.ref a0, .int a1] m (X9_sign a0 a1 m) := by
  refine pm_enter (ls := [.ref a0, .int a1]) hfl (by decide +kernel) rfl (Nat.le_of_ble_eq_true rfl) rfl (Nat.le_of_ble_eq_true rfl) ?_
  unfold X9_sign
  refine pm_aload_n dX9_sign_0 rfl rfl ?_
  refine fg_9_5 (y := zX9_sign) (Or.inl tw_1371) dX9_sign_1 (fun x1 => ?_)
  refine pm_if_eq (tgt := 8) dX9_sign_4 rfl ?_ ?_
  · refine pm_aload_n dX9_sign_8 rfl rfl ?_
    refine pm_rcv (fun hb9 hc9 => ?_)
    refine pm_kV (d := d + 1) rfl (pm_V (y := zX9_sign) (z := zX9_blanks) (As := []) zkX9_blanks pm_q9 (by decide) tw_1556 tw_1558 tw_101 dX9_sign_9 rfl rfl (Nat.le_of_ble_eq_true rfl) hb9 hc9) (kcX9_blanks (d := d + 0) hfl a0 m) (fun m2 => ?_)
    refine pm_aload_n dX9_sign_12 rfl rfl ?_
    refine pm_aload_n dX9_sign_13 rfl rfl ?_
    refine fg_9_4 (y := zX9_sign) (Or.inl tw_1370) dX9_sign_14 (fun x3 => ?_)
    refine pm_rcv (fun hb9 hc9 => ?_)
    refine pm_kI (d := d + 1) rfl (pm_V (y := zX9_sign) (z := zX9_byteAt) (As := [.int x3]) zkX9_byteAt pm_q9 (by decide) tw_1560 tw_1562 tw_102 dX9_sign_17 rfl rfl (Nat.le_of_ble_eq_true rfl) hb9 hc9) (kcX9_byteAt (d := d + 1) hfl a0 x3 m2) (fun x5 m4 => ?_)
    refine pm_iload_n dX9_sign_20 rfl rfl ?_
    refine pm_icmp_ne (tgt := 37) dX9_sign_21 rfl ?_ ?_
    · refine pm_aload_n dX9_sign_37 rfl rfl ?_
      refine pm_iconst (v := 1) dX9_sign_38 ki_1 ?_
      refine pm_aload_n dX9_sign_39 rfl rfl ?_
      refine fg_9_4 (y := zX9_sign) (Or.inl tw_1370) dX9_sign_40 (fun x6 => ?_)
      refine pm_rcv (fun hb9 hc9 => ?_)
      refine pm_kV (d := d + 1) rfl (pm_V (y := zX9_sign) (z := zX9_wrong) (As := [.int 1, .int x6]) zkX9_wrong pm_q9 (by decide) tw_1586 tw_1588 tw_107 dX9_sign_43 rfl rfl (Nat.le_of_ble_eq_true rfl) hb9 hc9) (kcX9_wrong (d := d + 1) hfl a0 1 x6 m4) (fun m7 => ?_)
      refine pm_drop (ls2 := [pmU, pmU]) (Nat.le_refl _) (pm_le_spec (pm_le_u (pm_le_u (pm_le_n)))) ?_
      exact gX9_sign_j46 hfl m7
    · refine pm_aload_n dX9_sign_24 rfl rfl ?_
      refine pm_dup dX9_sign_25 rfl ?_
      refine fg_9_4 (y := zX9_sign) (Or.inl tw_1370) dX9_sign_26 (fun x8 => ?_)
      refine pm_iconst (v := 1) dX9_sign_29 ki_1 ?_
      refine pm_iadd dX9_sign_30 ?_
      refine fp_9_4 (y := zX9_sign) (Or.inl tw_1370) dX9_sign_31 (fun m9 => ?_)
      refine pm_goto (tgt := 46) dX9_sign_34 rfl ?_
      refine pm_drop (ls2 := [pmU, pmU]) (Nat.le_refl _) (pm_le_spec (pm_le_u (pm_le_u (pm_le_n)))) ?_
      exact gX9_sign_j46 hfl m9
  · exact pm_vret rfl dX9_sign_7
end GEN15
