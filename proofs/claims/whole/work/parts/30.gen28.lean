section GEN28
variable {l : Launch} {Γ : pmG} {d : Nat}
-- StruckPageModel.isHand(II)Z
def X9_isHand_j25 (t0 : Int32) (m : pmM) : pmR := pm_oI (vp_nar .boolean t0) m
def X9_isHand_j24 (m : pmM) : pmR := X9_isHand_j25 0 m
def X9_isHand (a0 : Int32) (a1 : Int32) (m : pmM) : pmR := pm_cI (X9_in a0 1 96 m) fun x2 m1 => if x2 = 0 then (X9_isHand_j24 m1) else (pm_cI (X9_in a1 0 16 m1) fun x4 m3 => if x4 = 0 then (X9_isHand_j24 m3) else (X9_isHand_j25 1 m3))
set_option maxRecDepth 100000 in
set_option maxHeartbeats 4000000 in
theorem gX9_isHand_j25 (hfl : l.flags = flags0) (t0 : Int32) (m : pmM) : pm_G l Γ zX9_isHand (d + 1) 25 [pmU, pmU] [.int t0] m (X9_isHand_j25 t0 m) := by
  unfold X9_isHand_j25
  exact pm_nret (ty := .boolean) (w := vp_nar .boolean t0) rfl (by decide) rfl dX9_isHand_25
set_option maxRecDepth 100000 in
set_option maxHeartbeats 4000000 in
theorem gX9_isHand_j24 (hfl : l.flags = flags0) (m : pmM) : pm_G l Γ zX9_isHand (d + 1) 24 [pmU, pmU] [] m (X9_isHand_j24 m) := by
  unfold X9_isHand_j24
  refine pm_iconst (v := 0) dX9_isHand_24 ki_0 ?_
  exact gX9_isHand_j25 hfl 0 m
set_option maxRecDepth 100000 in
set_option maxHeartbeats 4000000 in
theorem kcX9_isHand (hfl : l.flags = flags0) (a0 : Int32) (a1 : Int32) (m : pmM) : pm_C l Γ zX9_isHand (d + 1) [.int a0, .int a1] m (X9_isHand a0 a1 m) := by
  refine pm_enter (ls := [.int a0, .int a1]) hfl (by decide +kernel) rfl (Nat.le_of_ble_eq_true rfl) rfl (Nat.le_of_ble_eq_true rfl) ?_
  unfold X9_isHand
  refine pm_iload_n dX9_isHand_0 rfl rfl ?_
  refine pm_iconst (v := 1) dX9_isHand_1 ki_1 ?_
  refine pm_bipush (v := 96) dX9_isHand_2 kb_96 ?_
  refine pm_kI (d := d + 0) rfl (pm_S (y := zX9_isHand) (z := zX9_in) (As := [.int a0, .int 1, .int 96]) zkX9_in tw_1545 tw_1546 dX9_isHand_4 rfl rfl (Nat.le_of_ble_eq_true rfl)) (kcX9_in (d := d + 0) hfl a0 1 96 m) (fun x2 m1 => ?_)
  refine pm_if_eq (tgt := 24) dX9_isHand_7 rfl ?_ ?_
  · refine pm_drop (ls2 := [pmU, pmU]) (Nat.le_refl _) (pm_le_spec (pm_le_u (pm_le_u (pm_le_n)))) ?_
    exact gX9_isHand_j24 hfl m1
  · refine pm_iload_n dX9_isHand_10 rfl rfl ?_
    refine pm_iconst (v := 0) dX9_isHand_11 ki_0 ?_
    refine pm_bipush (v := 16) dX9_isHand_12 kb_16 ?_
    refine pm_kI (d := d + 0) rfl (pm_S (y := zX9_isHand) (z := zX9_in) (As := [.int a1, .int 0, .int 16]) zkX9_in tw_1545 tw_1546 dX9_isHand_14 rfl rfl (Nat.le_of_ble_eq_true rfl)) (kcX9_in (d := d + 0) hfl a1 0 16 m1) (fun x4 m3 => ?_)
    refine pm_if_eq (tgt := 24) dX9_isHand_17 rfl ?_ ?_
    · refine pm_drop (ls2 := [pmU, pmU]) (Nat.le_refl _) (pm_le_spec (pm_le_u (pm_le_u (pm_le_n)))) ?_
      exact gX9_isHand_j24 hfl m3
    · refine pm_iconst (v := 1) dX9_isHand_20 ki_1 ?_
      refine pm_goto (tgt := 25) dX9_isHand_21 rfl ?_
      refine pm_drop (ls2 := [pmU, pmU]) (Nat.le_refl _) (pm_le_spec (pm_le_u (pm_le_u (pm_le_n)))) ?_
      exact gX9_isHand_j25 hfl 1 m3
-- StruckPageModel.hand(IIII)I
def X9_hand_j109 (t0 : Int32) (m : pmM) : pmR := pm_oI t0 m
def X9_hand_j29 (l0 : Nat) (l1 : Int32) (l2 : Int32) (l3 : Int32) (l4 : Int32) (t0 : Int32) (t1 : Nat) (m : pmM) : pmR := pm_rc 9 t1 m <| pm_cI (X9_bad t1 t0 1 1 m) fun x5 m4 => if x5 = 0 then (pm_rc 9 l0 m4 <| pm_cV (X9_handBy l0 l1 l2 l3 m4) fun m6 => if l4 = 0 then (pm_gR 9 l0 30 m6 fun r16 => pm_rc 9 l0 m6 <| pm_cI (X9_leftAll l0 r16 m6) fun x18 m17 => X9_hand_j109 x18 m17) else (if l4 = 1 then (pm_gR 9 l0 30 m6 fun r14 => pm_ld 100 r14 10 m6 fun x15 => X9_hand_j109 x15 m6) else (if l4 = 2 then (pm_gR 9 l0 30 m6 fun r10 => pm_ld 100 r10 12 m6 fun x11 => pm_gR 9 l0 29 m6 fun r12 => pm_ld 100 r12 12 m6 fun x13 => X9_hand_j109 (x11 - x13) m6) else (pm_gR 9 l0 30 m6 fun r7 => pm_cI (X9_cellsOf r7 m6) fun x9 m8 => X9_hand_j109 x9 m8)))) else (pm_oI 0 m4)
def X9_hand_j24 (l0 : Nat) (l1 : Int32) (l2 : Int32) (l3 : Int32) (l4 : Int32) (t0 : Nat) (m : pmM) : pmR := X9_hand_j29 l0 l1 l2 l3 l4 1 t0 m
def X9_hand (a0 : Nat) (a1 : Int32) (a2 : Int32) (a3 : Int32) (a4 : Int32) (m : pmM) : pmR := pm_pI 9 a0 0 0 m fun m1 => pm_cI (X9_isHand a2 a3 m1) fun x3 m2 => if x3 = 0 then (X9_hand_j24 a0 a1 a2 a3 a4 a0 m2) else (pm_cI (X9_in a4 0 3 m2) fun x20 m19 => if x20 = 0 then (X9_hand_j24 a0 a1 a2 a3 a4 a0 m19) else (X9_hand_j29 a0 a1 a2 a3 a4 0 a0 m19))
set_option maxRecDepth 100000 in
set_option maxHeartbeats 4000000 in
theorem gX9_hand_j109 (hfl : l.flags = flags0) (t0 : Int32) (m : pmM) : pm_G l Γ zX9_hand (d + 7) 109 [pmU, pmU, pmU, pmU, pmU] [.int t0] m (X9_hand_j109 t0 m) := by
  unfold X9_hand_j109
  exact pm_iret rfl dX9_hand_109
set_option maxRecDepth 100000 in
set_option maxHeartbeats 4000000 in
theorem gX9_hand_j29 (hfl : l.flags = flags0) (l0 : Nat) (l1 : Int32) (l2 : Int32) (l3 : Int32) (l4 : Int32) (t0 : Int32) (t1 : Nat) (m : pmM) : pm_G l Γ zX9_hand (d + 7) 29 [.ref l0, .int l1, .int l2, .int l3, .int l4] [.int t0, .ref t1] m (X9_hand_j29 l0 l1 l2 l3 l4 t0 t1 m) := by
  unfold X9_hand_j29
  refine pm_iconst (v := 1) dX9_hand_29 ki_1 ?_
  refine pm_iconst (v := 1) dX9_hand_30 ki_1 ?_
  refine pm_rcv (fun hb9 hc9 => ?_)
  refine pm_kI (d := d + 6) rfl (pm_V (y := zX9_hand) (z := zX9_bad) (As := [.int t0, .int 1, .int 1]) zkX9_bad pm_q9 (by decide) tw_1548 tw_1550 tw_99 dX9_hand_31 rfl rfl (Nat.le_of_ble_eq_true rfl) hb9 hc9) (kcX9_bad (d := d + 6) hfl t1 t0 1 1 m) (fun x5 m4 => ?_)
  refine pm_if_eq (tgt := 39) dX9_hand_34 rfl ?_ ?_
  · refine pm_aload_n dX9_hand_39 rfl rfl ?_
    refine pm_iload_n dX9_hand_40 rfl rfl ?_
    refine pm_iload_n dX9_hand_41 rfl rfl ?_
    refine pm_iload_n dX9_hand_42 rfl rfl ?_
    refine pm_rcv (fun hb9 hc9 => ?_)
    refine pm_kV (d := d + 6) rfl (pm_V (y := zX9_hand) (z := zX9_handBy) (As := [.int l1, .int l2, .int l3]) zkX9_handBy pm_q9 (by decide) tw_1931 tw_1933 tw_151 dX9_hand_43 rfl rfl (Nat.le_of_ble_eq_true rfl) hb9 hc9) (kcX9_handBy (d := d + 0) hfl l0 l1 l2 l3 m4) (fun m6 => ?_)
    refine pm_iload dX9_hand_46 rfl ?_
    refine pm_if_ne (tgt := 62) dX9_hand_48 rfl ?_ ?_
    · refine pm_iload dX9_hand_62 rfl ?_
      refine pm_iconst (v := 1) dX9_hand_64 ki_1 ?_
      refine pm_icmp_ne (tgt := 78) dX9_hand_65 rfl ?_ ?_
      · refine pm_iload dX9_hand_78 rfl ?_
        refine pm_iconst (v := 2) dX9_hand_80 ki_2 ?_
        refine pm_icmp_ne (tgt := 102) dX9_hand_81 rfl ?_ ?_
        · refine pm_aload_n dX9_hand_102 rfl rfl ?_
          refine fg_9_30 (y := zX9_hand) (Or.inl tw_1396) dX9_hand_103 (fun r7 => ?_)
          refine pm_kI (d := d + 6) rfl (pm_S (y := zX9_hand) (z := zX9_cellsOf) (As := [.ref r7]) zkX9_cellsOf tw_1774 tw_1775 dX9_hand_106 rfl rfl (Nat.le_of_ble_eq_true rfl)) (kcX9_cellsOf (d := d + 6) hfl r7 m6) (fun x9 m8 => ?_)
          refine pm_drop (ls2 := [pmU, pmU, pmU, pmU, pmU]) (Nat.le_refl _) (pm_le_spec (pm_le_u (pm_le_u (pm_le_u (pm_le_u (pm_le_u (pm_le_n))))))) ?_
          exact gX9_hand_j109 hfl x9 m8
        · refine pm_aload_n dX9_hand_84 rfl rfl ?_
          refine fg_9_30 (y := zX9_hand) (Or.inl tw_1396) dX9_hand_85 (fun r10 => ?_)
          refine pm_bipush (v := 12) dX9_hand_88 kb_12 ?_
          refine pm_iald (y := zX9_hand) dX9_hand_90 (fun x11 => ?_)
          refine pm_aload_n dX9_hand_91 rfl rfl ?_
          refine fg_9_29 (y := zX9_hand) (Or.inl tw_1395) dX9_hand_92 (fun r12 => ?_)
          refine pm_bipush (v := 12) dX9_hand_95 kb_12 ?_
          refine pm_iald (y := zX9_hand) dX9_hand_97 (fun x13 => ?_)
          refine pm_isub dX9_hand_98 ?_
          refine pm_goto (tgt := 109) dX9_hand_99 rfl ?_
          refine pm_drop (ls2 := [pmU, pmU, pmU, pmU, pmU]) (Nat.le_refl _) (pm_le_spec (pm_le_u (pm_le_u (pm_le_u (pm_le_u (pm_le_u (pm_le_n))))))) ?_
          exact gX9_hand_j109 hfl (x11 - x13) m6
      · refine pm_aload_n dX9_hand_68 rfl rfl ?_
        refine fg_9_30 (y := zX9_hand) (Or.inl tw_1396) dX9_hand_69 (fun r14 => ?_)
        refine pm_bipush (v := 10) dX9_hand_72 kb_10 ?_
        refine pm_iald (y := zX9_hand) dX9_hand_74 (fun x15 => ?_)
        refine pm_goto (tgt := 109) dX9_hand_75 rfl ?_
        refine pm_drop (ls2 := [pmU, pmU, pmU, pmU, pmU]) (Nat.le_refl _) (pm_le_spec (pm_le_u (pm_le_u (pm_le_u (pm_le_u (pm_le_u (pm_le_n))))))) ?_
        exact gX9_hand_j109 hfl x15 m6
    · refine pm_aload_n dX9_hand_51 rfl rfl ?_
      refine pm_aload_n dX9_hand_52 rfl rfl ?_
      refine fg_9_30 (y := zX9_hand) (Or.inl tw_1396) dX9_hand_53 (fun r16 => ?_)
      refine pm_rcv (fun hb9 hc9 => ?_)
      refine pm_kI (d := d + 6) rfl (pm_V (y := zX9_hand) (z := zX9_leftAll) (As := [.ref r16]) zkX9_leftAll pm_q9 (by decide) tw_1703 tw_1705 tw_129 dX9_hand_56 rfl rfl (Nat.le_of_ble_eq_true rfl) hb9 hc9) (kcX9_leftAll (d := d + 4) hfl l0 r16 m6) (fun x18 m17 => ?_)
      refine pm_goto (tgt := 109) dX9_hand_59 rfl ?_
      refine pm_drop (ls2 := [pmU, pmU, pmU, pmU, pmU]) (Nat.le_refl _) (pm_le_spec (pm_le_u (pm_le_u (pm_le_u (pm_le_u (pm_le_u (pm_le_n))))))) ?_
      exact gX9_hand_j109 hfl x18 m17
  · refine pm_iconst (v := 0) dX9_hand_37 ki_0 ?_
    exact pm_iret rfl dX9_hand_38
set_option maxRecDepth 100000 in
set_option maxHeartbeats 4000000 in
theorem gX9_hand_j24 (hfl : l.flags = flags0) (l0 : Nat) (l1 : Int32) (l2 : Int32) (l3 : Int32) (l4 : Int32) (t0 : Nat) (m : pmM) : pm_G l Γ zX9_hand (d + 7) 24 [.ref l0, .int l1, .int l2, .int l3, .int l4] [.ref t0] m (X9_hand_j24 l0 l1 l2 l3 l4 t0 m) := by
  unfold X9_hand_j24
  refine pm_iconst (v := 1) dX9_hand_24 ki_1 ?_
  refine pm_goto (tgt := 29) dX9_hand_25 rfl ?_
  exact gX9_hand_j29 hfl l0 l1 l2 l3 l4 1 t0 m
set_option maxRecDepth 100000 in
set_option maxHeartbeats 4000000 in
theorem kcX9_hand (hfl : l.flags = flags0) (a0 : Nat) (a1 : Int32) (a2 : Int32) (a3 : Int32) (a4 : Int32) (m : pmM) : pm_C l Γ zX9_hand (d + 7) [.ref a0, .int a1, .int a2, .int a3, .int a4] m (X9_hand a0 a1 a2 a3 a4 m) := by
  refine pm_enter (ls := [.ref a0, .int a1, .int a2, .int a3, .int a4]) hfl (by decide +kernel) rfl (Nat.le_of_ble_eq_true rfl) rfl (Nat.le_of_ble_eq_true rfl) ?_
  unfold X9_hand
  refine pm_aload_n dX9_hand_0 rfl rfl ?_
  refine pm_iconst (v := 0) dX9_hand_1 ki_0 ?_
  refine fp_9_0 (y := zX9_hand) (Or.inl tw_1366) dX9_hand_2 (fun m1 => ?_)
  refine pm_aload_n dX9_hand_5 rfl rfl ?_
  refine pm_iload_n dX9_hand_6 rfl rfl ?_
  refine pm_iload_n dX9_hand_7 rfl rfl ?_
  refine pm_kI (d := d + 6) rfl (pm_S (y := zX9_hand) (z := zX9_isHand) (As := [.int a2, .int a3]) zkX9_isHand tw_1928 tw_1929 dX9_hand_8 rfl rfl (Nat.le_of_ble_eq_true rfl)) (kcX9_isHand (d := d + 5) hfl a2 a3 m1) (fun x3 m2 => ?_)
  refine pm_if_eq (tgt := 24) dX9_hand_11 rfl ?_ ?_
  · exact gX9_hand_j24 hfl a0 a1 a2 a3 a4 a0 m2
  · refine pm_iload dX9_hand_14 rfl ?_
    refine pm_iconst (v := 0) dX9_hand_16 ki_0 ?_
    refine pm_iconst (v := 3) dX9_hand_17 ki_3 ?_
    refine pm_kI (d := d + 6) rfl (pm_S (y := zX9_hand) (z := zX9_in) (As := [.int a4, .int 0, .int 3]) zkX9_in tw_1545 tw_1546 dX9_hand_18 rfl rfl (Nat.le_of_ble_eq_true rfl)) (kcX9_in (d := d + 6) hfl a4 0 3 m2) (fun x20 m19 => ?_)
    refine pm_if_ne (tgt := 28) dX9_hand_21 rfl ?_ ?_
    · refine pm_iconst (v := 0) dX9_hand_28 ki_0 ?_
      exact gX9_hand_j29 hfl a0 a1 a2 a3 a4 0 a0 m19
    · exact gX9_hand_j24 hfl a0 a1 a2 a3 a4 a0 m19
-- StruckPageModel.span(IIIIII)I
def X9_span_j179 (t0 : Int32) (m : pmM) : pmR := pm_oI t0 m
def X9_span_j147 (again71 : (Int32 × Int32 × Int32 × Int32 × pmM) → pmR) (l0 : Nat) (l1 : Int32) (l2 : Int32) (l3 : Int32) (l4 : Int32) (l5 : Int32) (l6 : Int32) (l7 : Int32) (l8 : Int32) (l10 : Int32) (t0 : Int32) (t1 : Int32) (m : pmM) : pmR := pm_bI (t1 + t0) fun x17 => pm_bI (l10 + 1) fun x18 => again71 (l7, l8, x17, x18, m)
def X9_span_j116 (again71 : (Int32 × Int32 × Int32 × Int32 × pmM) → pmR) (l0 : Nat) (l1 : Int32) (l2 : Int32) (l3 : Int32) (l4 : Int32) (l5 : Int32) (l6 : Int32) (l8 : Int32) (l9 : Int32) (l10 : Int32) (l11 : Int32) (t0 : Int32) (m : pmM) : pmR := pm_cI (X9_more l8 l11 m) fun x13 m12 => pm_gR 9 l0 30 m12 fun r14 => pm_rc 9 l0 m12 <| pm_cI (X9_leftIn l0 r14 l6 m12) fun x16 m15 => if x16 = 0 then (X9_span_j147 again71 l0 l1 l2 l3 l4 l5 l6 t0 x13 l10 1 l9 m15) else (X9_span_j147 again71 l0 l1 l2 l3 l4 l5 l6 t0 x13 l10 0 l9 m15)
def X9_span_L71 (l0 : Nat) (l1 : Int32) (l2 : Int32) (l3 : Int32) (l4 : Int32) (l5 : Int32) (l6 : Int32) (again71 : (Int32 × Int32 × Int32 × Int32 × pmM) → pmR) (s71 : Int32 × Int32 × Int32 × Int32 × pmM) : pmR := if l2 ≤ s71.2.2.2.1 then (if l5 = 0 then (X9_span_j179 s71.1 s71.2.2.2.2) else (if l5 = 1 then (X9_span_j179 s71.2.1 s71.2.2.2.2) else (X9_span_j179 s71.2.2.1 s71.2.2.2.2))) else (pm_rc 9 l0 s71.2.2.2.2 <| pm_cV (X9_handBy l0 (l1 + s71.2.2.2.1) l3 l4 s71.2.2.2.2) fun m6 => pm_gR 9 l0 30 m6 fun r7 => pm_rc 9 l0 m6 <| pm_cI (X9_leftAll l0 r7 m6) fun x9 m8 => if s71.1 = (-1) then (X9_span_j116 again71 l0 l1 l2 l3 l4 l5 l6 s71.2.1 s71.2.2.1 s71.2.2.2.1 x9 x9 m8) else (pm_cI (X9_less s71.1 x9 m8) fun x11 m10 => X9_span_j116 again71 l0 l1 l2 l3 l4 l5 l6 s71.2.1 s71.2.2.1 s71.2.2.2.1 x9 x11 m10))
def X9_span_j49 (l0 : Nat) (l1 : Int32) (l2 : Int32) (l3 : Int32) (l4 : Int32) (l5 : Int32) (l6 : Int32) (t0 : Int32) (t1 : Nat) (m : pmM) : pmR := pm_rc 9 t1 m <| pm_cI (X9_bad t1 t0 1 1 m) fun x5 m4 => if x5 = 0 then (pm_lp pm_N (X9_span_L71 l0 l1 l2 l3 l4 l5 l6) ((-1), 0, 0, 0, m4)) else (pm_oI 0 m4)
def X9_span_j44 (l0 : Nat) (l1 : Int32) (l2 : Int32) (l3 : Int32) (l4 : Int32) (l5 : Int32) (l6 : Int32) (t0 : Nat) (m : pmM) : pmR := X9_span_j49 l0 l1 l2 l3 l4 l5 l6 1 t0 m
def X9_span (a0 : Nat) (a1 : Int32) (a2 : Int32) (a3 : Int32) (a4 : Int32) (a5 : Int32) (a6 : Int32) (m : pmM) : pmR := pm_pI 9 a0 0 0 m fun m1 => pm_cI (X9_in a2 1 20 m1) fun x3 m2 => if x3 = 0 then (X9_span_j44 a0 a1 a2 a3 a4 a5 a6 a0 m2) else (pm_cI (X9_isHand a3 a4 m2) fun x20 m19 => if x20 = 0 then (X9_span_j44 a0 a1 a2 a3 a4 a5 a6 a0 m19) else (pm_cI (X9_in a5 0 2 m19) fun x22 m21 => if x22 = 0 then (X9_span_j44 a0 a1 a2 a3 a4 a5 a6 a0 m21) else (pm_rc 9 a0 m21 <| pm_cI (X9_isLine a0 a6 m21) fun x24 m23 => if x24 = 0 then (X9_span_j44 a0 a1 a2 a3 a4 a5 a6 a0 m23) else (X9_span_j49 a0 a1 a2 a3 a4 a5 a6 0 a0 m23))))
set_option maxRecDepth 100000 in
set_option maxHeartbeats 4000000 in
theorem gX9_span_j179 (hfl : l.flags = flags0) (t0 : Int32) (m : pmM) : pm_G l Γ zX9_span (d + 7) 179 [pmU, pmU, pmU, pmU, pmU, pmU, pmU, pmU, pmU, pmU, pmU, pmU] [.int t0] m (X9_span_j179 t0 m) := by
  unfold X9_span_j179
  exact pm_iret rfl dX9_span_179
set_option maxRecDepth 100000 in
set_option maxHeartbeats 4000000 in
theorem gX9_span_j147 (hfl : l.flags = flags0) (again71 : (Int32 × Int32 × Int32 × Int32 × pmM) → pmR) (l0 : Nat) (l1 : Int32) (l2 : Int32) (l3 : Int32) (l4 : Int32) (l5 : Int32) (l6 : Int32) (l7 : Int32) (l8 : Int32) (l10 : Int32) (t0 : Int32) (t1 : Int32) (m : pmM) (hag71 : ∀ s : Int32 × Int32 × Int32 × Int32 × pmM, pm_G l Γ zX9_span (d + 7) 71 [.ref l0, .int l1, .int l2, .int l3, .int l4, .int l5, .int l6, .int s.1, .int s.2.1, .int s.2.2.1, .int s.2.2.2.1, pmU] [] s.2.2.2.2 (again71 s)) : pm_G l Γ zX9_span (d + 7) 147 [.ref l0, .int l1, .int l2, .int l3, .int l4, .int l5, .int l6, .int l7, .int l8, pmU, .int l10, pmU] [.int t0, .int t1] m (X9_span_j147 again71 l0 l1 l2 l3 l4 l5 l6 l7 l8 l10 t0 t1 m) := by
  unfold X9_span_j147
  refine pm_iadd dX9_span_147 ?_
  refine pm_bIn (fun x17 => ?_)
  refine pm_istore (ls2 := [.ref l0, .int l1, .int l2, .int l3, .int l4, .int l5, .int l6, .int l7, .int l8, .int x17, .int l10, pmU]) dX9_span_148 rfl (Nat.le_of_ble_eq_true rfl) rfl ?_
  refine pm_iincn (y := zX9_span) dX9_span_150 rfl ki_1 rfl (Nat.le_of_ble_eq_true rfl) (fun x18 => ?_)
  refine pm_eqls (ls2 := [.ref l0, .int l1, .int l2, .int l3, .int l4, .int l5, .int l6, .int l7, .int l8, .int x17, .int x18, pmU]) rfl ?_
  refine pm_goto (tgt := 71) dX9_span_153 rfl ?_
  exact hag71 (l7, l8, x17, x18, m)
set_option maxRecDepth 100000 in
set_option maxHeartbeats 4000000 in
theorem gX9_span_j116 (hfl : l.flags = flags0) (again71 : (Int32 × Int32 × Int32 × Int32 × pmM) → pmR) (l0 : Nat) (l1 : Int32) (l2 : Int32) (l3 : Int32) (l4 : Int32) (l5 : Int32) (l6 : Int32) (l8 : Int32) (l9 : Int32) (l10 : Int32) (l11 : Int32) (t0 : Int32) (m : pmM) (hag71 : ∀ s : Int32 × Int32 × Int32 × Int32 × pmM, pm_G l Γ zX9_span (d + 7) 71 [.ref l0, .int l1, .int l2, .int l3, .int l4, .int l5, .int l6, .int s.1, .int s.2.1, .int s.2.2.1, .int s.2.2.2.1, pmU] [] s.2.2.2.2 (again71 s)) : pm_G l Γ zX9_span (d + 7) 116 [.ref l0, .int l1, .int l2, .int l3, .int l4, .int l5, .int l6, pmU, .int l8, .int l9, .int l10, .int l11] [.int t0] m (X9_span_j116 again71 l0 l1 l2 l3 l4 l5 l6 l8 l9 l10 l11 t0 m) := by
  unfold X9_span_j116
  refine pm_istore (ls2 := [.ref l0, .int l1, .int l2, .int l3, .int l4, .int l5, .int l6, .int t0, .int l8, .int l9, .int l10, .int l11]) dX9_span_116 rfl (Nat.le_of_ble_eq_true rfl) rfl ?_
  refine pm_iload dX9_span_118 rfl ?_
  refine pm_iload dX9_span_120 rfl ?_
  refine pm_kI (d := d + 6) rfl (pm_S (y := zX9_span) (z := zX9_more) (As := [.int l8, .int l11]) zkX9_more tw_1725 tw_1726 dX9_span_122 rfl rfl (Nat.le_of_ble_eq_true rfl)) (kcX9_more (d := d + 6) hfl l8 l11 m) (fun x13 m12 => ?_)
  refine pm_istore (ls2 := [.ref l0, .int l1, .int l2, .int l3, .int l4, .int l5, .int l6, .int t0, .int x13, .int l9, .int l10, .int l11]) dX9_span_125 rfl (Nat.le_of_ble_eq_true rfl) rfl ?_
  refine pm_iload dX9_span_127 rfl ?_
  refine pm_aload_n dX9_span_129 rfl rfl ?_
  refine pm_aload_n dX9_span_130 rfl rfl ?_
  refine fg_9_30 (y := zX9_span) (Or.inl tw_1396) dX9_span_131 (fun r14 => ?_)
  refine pm_iload dX9_span_134 rfl ?_
  refine pm_rcv (fun hb9 hc9 => ?_)
  refine pm_kI (d := d + 6) rfl (pm_V (y := zX9_span) (z := zX9_leftIn) (As := [.ref r14, .int l6]) zkX9_leftIn pm_q9 (by decide) tw_1707 tw_1709 tw_130 dX9_span_136 rfl rfl (Nat.le_of_ble_eq_true rfl) hb9 hc9) (kcX9_leftIn (d := d + 5) hfl l0 r14 l6 m12) (fun x16 m15 => ?_)
  refine pm_if_ne (tgt := 146) dX9_span_139 rfl ?_ ?_
  · refine pm_iconst (v := 0) dX9_span_146 ki_0 ?_
    refine pm_drop (ls2 := [.ref l0, .int l1, .int l2, .int l3, .int l4, .int l5, .int l6, .int t0, .int x13, pmU, .int l10, pmU]) (Nat.le_refl _) (pm_le_spec (pm_le_v (pm_le_v (pm_le_v (pm_le_v (pm_le_v (pm_le_v (pm_le_v (pm_le_v (pm_le_v (pm_le_u (pm_le_v (pm_le_u (pm_le_n)))))))))))))) ?_
    exact gX9_span_j147 hfl again71 l0 l1 l2 l3 l4 l5 l6 t0 x13 l10 0 l9 m15 hag71
  · refine pm_iconst (v := 1) dX9_span_142 ki_1 ?_
    refine pm_goto (tgt := 147) dX9_span_143 rfl ?_
    refine pm_drop (ls2 := [.ref l0, .int l1, .int l2, .int l3, .int l4, .int l5, .int l6, .int t0, .int x13, pmU, .int l10, pmU]) (Nat.le_refl _) (pm_le_spec (pm_le_v (pm_le_v (pm_le_v (pm_le_v (pm_le_v (pm_le_v (pm_le_v (pm_le_v (pm_le_v (pm_le_u (pm_le_v (pm_le_u (pm_le_n)))))))))))))) ?_
    exact gX9_span_j147 hfl again71 l0 l1 l2 l3 l4 l5 l6 t0 x13 l10 1 l9 m15 hag71
set_option maxRecDepth 100000 in
set_option maxHeartbeats 4000000 in
theorem gX9_span_L71 (hfl : l.flags = flags0) (l0 : Nat) (l1 : Int32) (l2 : Int32) (l3 : Int32) (l4 : Int32) (l5 : Int32) (l6 : Int32) : ∀ (n : Nat) (s : Int32 × Int32 × Int32 × Int32 × pmM), pm_G l Γ zX9_span (d + 7) 71 [.ref l0, .int l1, .int l2, .int l3, .int l4, .int l5, .int l6, .int s.1, .int s.2.1, .int s.2.2.1, .int s.2.2.2.1, pmU] [] s.2.2.2.2 (pm_lp n (X9_span_L71 l0 l1 l2 l3 l4 l5 l6) s) :=
  pm_loop (lsf := fun s : Int32 × Int32 × Int32 × Int32 × pmM => [.ref l0, .int l1, .int l2, .int l3, .int l4, .int l5, .int l6, .int s.1, .int s.2.1, .int s.2.2.1, .int s.2.2.2.1, pmU]) (mf := fun s : Int32 × Int32 × Int32 × Int32 × pmM => s.2.2.2.2) (fun again71 hag71 s71 => by
    unfold X9_span_L71
    refine pm_iload dX9_span_71 rfl ?_
    refine pm_iload_n dX9_span_73 rfl rfl ?_
    refine pm_icmp_ge (tgt := 156) dX9_span_74 rfl ?_ ?_
    · refine pm_iload dX9_span_156 rfl ?_
      refine pm_if_ne (tgt := 166) dX9_span_158 rfl ?_ ?_
      · refine pm_iload dX9_span_166 rfl ?_
        refine pm_iconst (v := 1) dX9_span_168 ki_1 ?_
        refine pm_icmp_ne (tgt := 177) dX9_span_169 rfl ?_ ?_
        · refine pm_iload dX9_span_177 rfl ?_
          refine pm_drop (ls2 := [pmU, pmU, pmU, pmU, pmU, pmU, pmU, pmU, pmU, pmU, pmU, pmU]) (Nat.le_refl _) (pm_le_spec (pm_le_u (pm_le_u (pm_le_u (pm_le_u (pm_le_u (pm_le_u (pm_le_u (pm_le_u (pm_le_u (pm_le_u (pm_le_u (pm_le_u (pm_le_n)))))))))))))) ?_
          exact gX9_span_j179 hfl s71.2.2.1 s71.2.2.2.2
        · refine pm_iload dX9_span_172 rfl ?_
          refine pm_goto (tgt := 179) dX9_span_174 rfl ?_
          refine pm_drop (ls2 := [pmU, pmU, pmU, pmU, pmU, pmU, pmU, pmU, pmU, pmU, pmU, pmU]) (Nat.le_refl _) (pm_le_spec (pm_le_u (pm_le_u (pm_le_u (pm_le_u (pm_le_u (pm_le_u (pm_le_u (pm_le_u (pm_le_u (pm_le_u (pm_le_u (pm_le_u (pm_le_n)))))))))))))) ?_
          exact gX9_span_j179 hfl s71.2.1 s71.2.2.2.2
      · refine pm_iload dX9_span_161 rfl ?_
        refine pm_goto (tgt := 179) dX9_span_163 rfl ?_
        refine pm_drop (ls2 := [pmU, pmU, pmU, pmU, pmU, pmU, pmU, pmU, pmU, pmU, pmU, pmU]) (Nat.le_refl _) (pm_le_spec (pm_le_u (pm_le_u (pm_le_u (pm_le_u (pm_le_u (pm_le_u (pm_le_u (pm_le_u (pm_le_u (pm_le_u (pm_le_u (pm_le_u (pm_le_n)))))))))))))) ?_
        exact gX9_span_j179 hfl s71.1 s71.2.2.2.2
    · refine pm_aload_n dX9_span_77 rfl rfl ?_
      refine pm_iload_n dX9_span_78 rfl rfl ?_
      refine pm_iload dX9_span_79 rfl ?_
      refine pm_iadd dX9_span_81 ?_
      refine pm_iload_n dX9_span_82 rfl rfl ?_
      refine pm_iload dX9_span_83 rfl ?_
      refine pm_rcv (fun hb9 hc9 => ?_)
      refine pm_kV (d := d + 6) rfl (pm_V (y := zX9_span) (z := zX9_handBy) (As := [.int (l1 + s71.2.2.2.1), .int l3, .int l4]) zkX9_handBy pm_q9 (by decide) tw_1931 tw_1933 tw_151 dX9_span_85 rfl rfl (Nat.le_of_ble_eq_true rfl) hb9 hc9) (kcX9_handBy (d := d + 0) hfl l0 (l1 + s71.2.2.2.1) l3 l4 s71.2.2.2.2) (fun m6 => ?_)
      refine pm_aload_n dX9_span_88 rfl rfl ?_
      refine pm_aload_n dX9_span_89 rfl rfl ?_
      refine fg_9_30 (y := zX9_span) (Or.inl tw_1396) dX9_span_90 (fun r7 => ?_)
      refine pm_rcv (fun hb9 hc9 => ?_)
      refine pm_kI (d := d + 6) rfl (pm_V (y := zX9_span) (z := zX9_leftAll) (As := [.ref r7]) zkX9_leftAll pm_q9 (by decide) tw_1703 tw_1705 tw_129 dX9_span_93 rfl rfl (Nat.le_of_ble_eq_true rfl) hb9 hc9) (kcX9_leftAll (d := d + 4) hfl l0 r7 m6) (fun x9 m8 => ?_)
      refine pm_istore (ls2 := [.ref l0, .int l1, .int l2, .int l3, .int l4, .int l5, .int l6, .int s71.1, .int s71.2.1, .int s71.2.2.1, .int s71.2.2.2.1, .int x9]) dX9_span_96 rfl (Nat.le_of_ble_eq_true rfl) rfl ?_
      refine pm_iload dX9_span_98 rfl ?_
      refine pm_iconst (v := (-1)) dX9_span_100 ki_n1 ?_
      refine pm_icmp_ne (tgt := 109) dX9_span_101 rfl ?_ ?_
      · refine pm_iload dX9_span_109 rfl ?_
        refine pm_iload dX9_span_111 rfl ?_
        refine pm_kI (d := d + 6) rfl (pm_S (y := zX9_span) (z := zX9_less) (As := [.int s71.1, .int x9]) zkX9_less tw_1722 tw_1723 dX9_span_113 rfl rfl (Nat.le_of_ble_eq_true rfl)) (kcX9_less (d := d + 6) hfl s71.1 x9 m8) (fun x11 m10 => ?_)
        refine pm_drop (ls2 := [.ref l0, .int l1, .int l2, .int l3, .int l4, .int l5, .int l6, pmU, .int s71.2.1, .int s71.2.2.1, .int s71.2.2.2.1, .int x9]) (Nat.le_refl _) (pm_le_spec (pm_le_v (pm_le_v (pm_le_v (pm_le_v (pm_le_v (pm_le_v (pm_le_v (pm_le_u (pm_le_v (pm_le_v (pm_le_v (pm_le_v (pm_le_n)))))))))))))) ?_
        exact gX9_span_j116 hfl again71 l0 l1 l2 l3 l4 l5 l6 s71.2.1 s71.2.2.1 s71.2.2.2.1 x9 x11 m10 hag71
      · refine pm_iload dX9_span_104 rfl ?_
        refine pm_goto (tgt := 116) dX9_span_106 rfl ?_
        refine pm_drop (ls2 := [.ref l0, .int l1, .int l2, .int l3, .int l4, .int l5, .int l6, pmU, .int s71.2.1, .int s71.2.2.1, .int s71.2.2.2.1, .int x9]) (Nat.le_refl _) (pm_le_spec (pm_le_v (pm_le_v (pm_le_v (pm_le_v (pm_le_v (pm_le_v (pm_le_v (pm_le_u (pm_le_v (pm_le_v (pm_le_v (pm_le_v (pm_le_n)))))))))))))) ?_
        exact gX9_span_j116 hfl again71 l0 l1 l2 l3 l4 l5 l6 s71.2.1 s71.2.2.1 s71.2.2.2.1 x9 x9 m8 hag71)
set_option maxRecDepth 100000 in
set_option maxHeartbeats 4000000 in
theorem gX9_span_j49 (hfl : l.flags = flags0) (l0 : Nat) (l1 : Int32) (l2 : Int32) (l3 : Int32) (l4 : Int32) (l5 : Int32) (l6 : Int32) (t0 : Int32) (t1 : Nat) (m : pmM) : pm_G l Γ zX9_span (d + 7) 49 [.ref l0, .int l1, .int l2, .int l3, .int l4, .int l5, .int l6, pmU, pmU, pmU, pmU, pmU] [.int t0, .ref t1] m (X9_span_j49 l0 l1 l2 l3 l4 l5 l6 t0 t1 m) := by
  unfold X9_span_j49
  refine pm_iconst (v := 1) dX9_span_49 ki_1 ?_
  refine pm_iconst (v := 1) dX9_span_50 ki_1 ?_
  refine pm_rcv (fun hb9 hc9 => ?_)
  refine pm_kI (d := d + 6) rfl (pm_V (y := zX9_span) (z := zX9_bad) (As := [.int t0, .int 1, .int 1]) zkX9_bad pm_q9 (by decide) tw_1548 tw_1550 tw_99 dX9_span_51 rfl rfl (Nat.le_of_ble_eq_true rfl) hb9 hc9) (kcX9_bad (d := d + 6) hfl t1 t0 1 1 m) (fun x5 m4 => ?_)
  refine pm_if_eq (tgt := 59) dX9_span_54 rfl ?_ ?_
  · refine pm_iconst (v := (-1)) dX9_span_59 ki_n1 ?_
    refine pm_istore (ls2 := [.ref l0, .int l1, .int l2, .int l3, .int l4, .int l5, .int l6, .int (-1), pmU, pmU, pmU, pmU]) dX9_span_60 rfl (Nat.le_of_ble_eq_true rfl) rfl ?_
    refine pm_iconst (v := 0) dX9_span_62 ki_0 ?_
    refine pm_istore (ls2 := [.ref l0, .int l1, .int l2, .int l3, .int l4, .int l5, .int l6, .int (-1), .int 0, pmU, pmU, pmU]) dX9_span_63 rfl (Nat.le_of_ble_eq_true rfl) rfl ?_
    refine pm_iconst (v := 0) dX9_span_65 ki_0 ?_
    refine pm_istore (ls2 := [.ref l0, .int l1, .int l2, .int l3, .int l4, .int l5, .int l6, .int (-1), .int 0, .int 0, pmU, pmU]) dX9_span_66 rfl (Nat.le_of_ble_eq_true rfl) rfl ?_
    refine pm_iconst (v := 0) dX9_span_68 ki_0 ?_
    refine pm_istore (ls2 := [.ref l0, .int l1, .int l2, .int l3, .int l4, .int l5, .int l6, .int (-1), .int 0, .int 0, .int 0, pmU]) dX9_span_69 rfl (Nat.le_of_ble_eq_true rfl) rfl ?_
    exact gX9_span_L71 hfl l0 l1 l2 l3 l4 l5 l6 pm_N ((-1), 0, 0, 0, m4)
  · refine pm_iconst (v := 0) dX9_span_57 ki_0 ?_
    exact pm_iret rfl dX9_span_58
set_option maxRecDepth 100000 in
set_option maxHeartbeats 4000000 in
theorem gX9_span_j44 (hfl : l.flags = flags0) (l0 : Nat) (l1 : Int32) (l2 : Int32) (l3 : Int32) (l4 : Int32) (l5 : Int32) (l6 : Int32) (t0 : Nat) (m : pmM) : pm_G l Γ zX9_span (d + 7) 44 [.ref l0, .int l1, .int l2, .int l3, .int l4, .int l5, .int l6, pmU, pmU, pmU, pmU, pmU] [.ref t0] m (X9_span_j44 l0 l1 l2 l3 l4 l5 l6 t0 m) := by
  unfold X9_span_j44
  refine pm_iconst (v := 1) dX9_span_44 ki_1 ?_
  refine pm_goto (tgt := 49) dX9_span_45 rfl ?_
  exact gX9_span_j49 hfl l0 l1 l2 l3 l4 l5 l6 1 t0 m
set_option maxRecDepth 100000 in
set_option maxHeartbeats 4000000 in
theorem kcX9_span (hfl : l.flags = flags0) (a0 : Nat) (a1 : Int32) (a2 : Int32) (a3 : Int32) (a4 : Int32) (a5 : Int32) (a6 : Int32) (m : pmM) : pm_C l Γ zX9_span (d + 7) [.ref a0, .int a1, .int a2, .int a3, .int a4, .int a5, .int a6] m (X9_span a0 a1 a2 a3 a4 a5 a6 m) := by
  refine pm_enter (ls := [.ref a0, .int a1, .int a2, .int a3, .int a4, .int a5, .int a6, pmU, pmU, pmU, pmU, pmU]) hfl (by decide +kernel) rfl (Nat.le_of_ble_eq_true rfl) rfl (Nat.le_of_ble_eq_true rfl) ?_
  unfold X9_span
  refine pm_aload_n dX9_span_0 rfl rfl ?_
  refine pm_iconst (v := 0) dX9_span_1 ki_0 ?_
  refine fp_9_0 (y := zX9_span) (Or.inl tw_1366) dX9_span_2 (fun m1 => ?_)
  refine pm_aload_n dX9_span_5 rfl rfl ?_
  refine pm_iload_n dX9_span_6 rfl rfl ?_
  refine pm_iconst (v := 1) dX9_span_7 ki_1 ?_
  refine pm_bipush (v := 20) dX9_span_8 kb_20 ?_
  refine pm_kI (d := d + 6) rfl (pm_S (y := zX9_span) (z := zX9_in) (As := [.int a2, .int 1, .int 20]) zkX9_in tw_1545 tw_1546 dX9_span_10 rfl rfl (Nat.le_of_ble_eq_true rfl)) (kcX9_in (d := d + 6) hfl a2 1 20 m1) (fun x3 m2 => ?_)
  refine pm_if_eq (tgt := 44) dX9_span_13 rfl ?_ ?_
  · exact gX9_span_j44 hfl a0 a1 a2 a3 a4 a5 a6 a0 m2
  · refine pm_iload_n dX9_span_16 rfl rfl ?_
    refine pm_iload dX9_span_17 rfl ?_
    refine pm_kI (d := d + 6) rfl (pm_S (y := zX9_span) (z := zX9_isHand) (As := [.int a3, .int a4]) zkX9_isHand tw_1928 tw_1929 dX9_span_19 rfl rfl (Nat.le_of_ble_eq_true rfl)) (kcX9_isHand (d := d + 5) hfl a3 a4 m2) (fun x20 m19 => ?_)
    refine pm_if_eq (tgt := 44) dX9_span_22 rfl ?_ ?_
    · exact gX9_span_j44 hfl a0 a1 a2 a3 a4 a5 a6 a0 m19
    · refine pm_iload dX9_span_25 rfl ?_
      refine pm_iconst (v := 0) dX9_span_27 ki_0 ?_
      refine pm_iconst (v := 2) dX9_span_28 ki_2 ?_
      refine pm_kI (d := d + 6) rfl (pm_S (y := zX9_span) (z := zX9_in) (As := [.int a5, .int 0, .int 2]) zkX9_in tw_1545 tw_1546 dX9_span_29 rfl rfl (Nat.le_of_ble_eq_true rfl)) (kcX9_in (d := d + 6) hfl a5 0 2 m19) (fun x22 m21 => ?_)
      refine pm_if_eq (tgt := 44) dX9_span_32 rfl ?_ ?_
      · exact gX9_span_j44 hfl a0 a1 a2 a3 a4 a5 a6 a0 m21
      · refine pm_aload_n dX9_span_35 rfl rfl ?_
        refine pm_iload dX9_span_36 rfl ?_
        refine pm_rcv (fun hb9 hc9 => ?_)
        refine pm_kI (d := d + 6) rfl (pm_V (y := zX9_span) (z := zX9_isLine) (As := [.int a6]) zkX9_isLine pm_q9 (by decide) tw_1781 tw_1783 tw_141 dX9_span_38 rfl rfl (Nat.le_of_ble_eq_true rfl) hb9 hc9) (kcX9_isLine (d := d + 5) hfl a0 a6 m21) (fun x24 m23 => ?_)
        refine pm_if_ne (tgt := 48) dX9_span_41 rfl ?_ ?_
        · refine pm_iconst (v := 0) dX9_span_48 ki_0 ?_
          exact gX9_span_j49 hfl a0 a1 a2 a3 a4 a5 a6 0 a0 m23
        · exact gX9_span_j44 hfl a0 a1 a2 a3 a4 a5 a6 a0 m23
-- StruckPageModel.puts([IIZ)I
def X9_puts_j11 (l0 : Nat) (l1 : Nat) (m : pmM) : pmR := pm_gI 9 l0 37 m fun x1 => pm_pI 9 l0 37 (x1 + 1) m fun m2 => pm_gI 9 l0 37 m2 fun x3 => pm_ld 100 l1 (x3 - 1) m2 fun x4 => pm_oI x4 m2
def X9_puts (a0 : Nat) (a1 : Nat) (a2 : Int32) (a3 : Int32) (m : pmM) : pmR := if a3 = 0 then (pm_gI 9 a0 37 m fun x5 => pm_st 100 a1 x5 a2 m fun m6 => X9_puts_j11 a0 a1 m6) else (X9_puts_j11 a0 a1 m)
set_option maxRecDepth 100000 in
set_option maxHeartbeats 4000000 in
theorem gX9_puts_j11 (hfl : l.flags = flags0) (l0 : Nat) (l1 : Nat) (m : pmM) : pm_G l Γ zX9_puts (d + 0) 11 [.ref l0, .ref l1, pmU, pmU] [] m (X9_puts_j11 l0 l1 m) := by
  unfold X9_puts_j11
  refine pm_aload_n dX9_puts_11 rfl rfl ?_
  refine pm_dup dX9_puts_12 rfl ?_
  refine fg_9_37 (y := zX9_puts) (Or.inl tw_1403) dX9_puts_13 (fun x1 => ?_)
  refine pm_iconst (v := 1) dX9_puts_16 ki_1 ?_
  refine pm_iadd dX9_puts_17 ?_
  refine fp_9_37 (y := zX9_puts) (Or.inl tw_1403) dX9_puts_18 (fun m2 => ?_)
  refine pm_aload_n dX9_puts_21 rfl rfl ?_
  refine pm_aload_n dX9_puts_22 rfl rfl ?_
  refine fg_9_37 (y := zX9_puts) (Or.inl tw_1403) dX9_puts_23 (fun x3 => ?_)
  refine pm_iconst (v := 1) dX9_puts_26 ki_1 ?_
  refine pm_isub dX9_puts_27 ?_
  refine pm_iald (y := zX9_puts) dX9_puts_28 (fun x4 => ?_)
  exact pm_iret rfl dX9_puts_29
set_option maxRecDepth 100000 in
set_option maxHeartbeats 4000000 in
theorem kcX9_puts (hfl : l.flags = flags0) (a0 : Nat) (a1 : Nat) (a2 : Int32) (a3 : Int32) (m : pmM) : pm_C l Γ zX9_puts (d + 0) [.ref a0, .ref a1, .int a2, .int a3] m (X9_puts a0 a1 a2 a3 m) := by
  refine pm_enter (ls := [.ref a0, .ref a1, .int a2, .int a3]) hfl (by decide +kernel) rfl (Nat.le_of_ble_eq_true rfl) rfl (Nat.le_of_ble_eq_true rfl) ?_
  unfold X9_puts
  refine pm_iload_n dX9_puts_0 rfl rfl ?_
  refine pm_if_ne (tgt := 11) dX9_puts_1 rfl ?_ ?_
  · refine pm_drop (ls2 := [.ref a0, .ref a1, pmU, pmU]) (Nat.le_refl _) (pm_le_spec (pm_le_v (pm_le_v (pm_le_u (pm_le_u (pm_le_n)))))) ?_
    exact gX9_puts_j11 hfl a0 a1 m
  · refine pm_aload_n dX9_puts_4 rfl rfl ?_
    refine pm_aload_n dX9_puts_5 rfl rfl ?_
    refine fg_9_37 (y := zX9_puts) (Or.inl tw_1403) dX9_puts_6 (fun x5 => ?_)
    refine pm_iload_n dX9_puts_9 rfl rfl ?_
    refine pm_iast (y := zX9_puts) dX9_puts_10 (fun m6 => ?_)
    refine pm_drop (ls2 := [.ref a0, .ref a1, pmU, pmU]) (Nat.le_refl _) (pm_le_spec (pm_le_v (pm_le_v (pm_le_u (pm_le_u (pm_le_n)))))) ?_
    exact gX9_puts_j11 hfl a0 a1 m6
-- StruckPageModel.putsAll([IZ)V
def X9_putsAll_L62 (again53 : (Int32 × pmM) → pmR) (l0 : Nat) (l1 : Nat) (l2 : Int32) (l3 : Int32) (again62 : (Int32 × pmM) → pmR) (s62 : Int32 × pmM) : pmR := if (14 : Int32) ≤ s62.1 then (pm_bI (l3 + 1) fun x6 => again53 (x6, s62.2)) else (pm_gR 9 l0 31 s62.2 fun r7 => pm_ldR 103 r7 l3 s62.2 fun r8 => pm_gR 9 l0 31 s62.2 fun r9 => pm_ldR 103 r9 l3 s62.2 fun r10 => pm_ld 100 r10 s62.1 s62.2 fun x11 => pm_rc 9 l0 s62.2 <| pm_cI (X9_puts l0 l1 x11 l2 s62.2) fun x13 m12 => pm_st 100 r8 s62.1 x13 m12 fun m14 => pm_bI (s62.1 + 1) fun x15 => again62 (x15, m14))
def X9_putsAll_L53 (l0 : Nat) (l1 : Nat) (l2 : Int32) (again53 : (Int32 × pmM) → pmR) (s53 : Int32 × pmM) : pmR := if (16 : Int32) ≤ s53.1 then (pm_oV s53.2) else (pm_lp pm_N (X9_putsAll_L62 again53 l0 l1 l2 s53.1) (0, s53.2))
def X9_putsAll_L21 (l0 : Nat) (l1 : Nat) (l2 : Int32) (again21 : (Int32 × pmM) → pmR) (s21 : Int32 × pmM) : pmR := if (14 : Int32) ≤ s21.1 then (pm_lp pm_N (X9_putsAll_L53 l0 l1 l2) (0, s21.2)) else (pm_gR 9 l0 29 s21.2 fun r16 => pm_gR 9 l0 29 s21.2 fun r17 => pm_ld 100 r17 s21.1 s21.2 fun x18 => pm_rc 9 l0 s21.2 <| pm_cI (X9_puts l0 l1 x18 l2 s21.2) fun x20 m19 => pm_st 100 r16 s21.1 x20 m19 fun m21 => pm_bI (s21.1 + 1) fun x22 => again21 (x22, m21))
def X9_putsAll (a0 : Nat) (a1 : Nat) (a2 : Int32) (m : pmM) : pmR := pm_pI 9 a0 37 0 m fun m1 => pm_gI 9 a0 34 m1 fun x2 => pm_rc 9 a0 m1 <| pm_cI (X9_puts a0 a1 x2 a2 m1) fun x4 m3 => pm_pI 9 a0 34 x4 m3 fun m5 => pm_lp pm_N (X9_putsAll_L21 a0 a1 a2) (0, m5)
set_option maxRecDepth 100000 in
set_option maxHeartbeats 4000000 in
theorem gX9_putsAll_L62 (hfl : l.flags = flags0) (again53 : (Int32 × pmM) → pmR) (l0 : Nat) (l1 : Nat) (l2 : Int32) (l3 : Int32) (hag53 : ∀ s : Int32 × pmM, pm_G l Γ zX9_putsAll (d + 1) 53 [.ref l0, .ref l1, .int l2, .int s.1, pmU] [] s.2 (again53 s)) : ∀ (n : Nat) (s : Int32 × pmM), pm_G l Γ zX9_putsAll (d + 1) 62 [.ref l0, .ref l1, .int l2, .int l3, .int s.1] [] s.2 (pm_lp n (X9_putsAll_L62 again53 l0 l1 l2 l3) s) :=
  pm_loop (lsf := fun s : Int32 × pmM => [.ref l0, .ref l1, .int l2, .int l3, .int s.1]) (mf := fun s : Int32 × pmM => s.2) (fun again62 hag62 s62 => by
    unfold X9_putsAll_L62
    refine pm_iload dX9_putsAll_62 rfl ?_
    refine pm_bipush (v := 14) dX9_putsAll_64 kb_14 ?_
    refine pm_icmp_ge (tgt := 99) dX9_putsAll_66 rfl ?_ ?_
    · refine pm_iincn (y := zX9_putsAll) dX9_putsAll_99 rfl ki_1 rfl (Nat.le_of_ble_eq_true rfl) (fun x6 => ?_)
      refine pm_eqls (ls2 := [.ref l0, .ref l1, .int l2, .int x6, .int s62.1]) rfl ?_
      refine pm_goto (tgt := 53) dX9_putsAll_102 rfl ?_
      refine pm_drop (ls2 := [.ref l0, .ref l1, .int l2, .int x6, pmU]) (Nat.le_refl _) (pm_le_spec (pm_le_v (pm_le_v (pm_le_v (pm_le_v (pm_le_u (pm_le_n))))))) ?_
      exact hag53 (x6, s62.2)
    · refine pm_aload_n dX9_putsAll_69 rfl rfl ?_
      refine fg_9_31 (y := zX9_putsAll) (Or.inl tw_1397) dX9_putsAll_70 (fun r7 => ?_)
      refine pm_iload_n dX9_putsAll_73 rfl rfl ?_
      refine pm_aaldI (y := zX9_putsAll) dX9_putsAll_74 (fun r8 => ?_)
      refine pm_iload dX9_putsAll_75 rfl ?_
      refine pm_aload_n dX9_putsAll_77 rfl rfl ?_
      refine pm_aload_n dX9_putsAll_78 rfl rfl ?_
      refine pm_aload_n dX9_putsAll_79 rfl rfl ?_
      refine fg_9_31 (y := zX9_putsAll) (Or.inl tw_1397) dX9_putsAll_80 (fun r9 => ?_)
      refine pm_iload_n dX9_putsAll_83 rfl rfl ?_
      refine pm_aaldI (y := zX9_putsAll) dX9_putsAll_84 (fun r10 => ?_)
      refine pm_iload dX9_putsAll_85 rfl ?_
      refine pm_iald (y := zX9_putsAll) dX9_putsAll_87 (fun x11 => ?_)
      refine pm_iload_n dX9_putsAll_88 rfl rfl ?_
      refine pm_rcv (fun hb9 hc9 => ?_)
      refine pm_kI (d := d + 0) rfl (pm_V (y := zX9_putsAll) (z := zX9_puts) (As := [.ref l1, .int x11, .int l2]) zkX9_puts pm_q9 (by decide) tw_1952 tw_1954 tw_154 dX9_putsAll_89 rfl rfl (Nat.le_of_ble_eq_true rfl) hb9 hc9) (kcX9_puts (d := d + 0) hfl l0 l1 x11 l2 s62.2) (fun x13 m12 => ?_)
      refine pm_iast (y := zX9_putsAll) dX9_putsAll_92 (fun m14 => ?_)
      refine pm_iincn (y := zX9_putsAll) dX9_putsAll_93 rfl ki_1 rfl (Nat.le_of_ble_eq_true rfl) (fun x15 => ?_)
      refine pm_eqls (ls2 := [.ref l0, .ref l1, .int l2, .int l3, .int x15]) rfl ?_
      refine pm_goto (tgt := 62) dX9_putsAll_96 rfl ?_
      exact hag62 (x15, m14))
set_option maxRecDepth 100000 in
set_option maxHeartbeats 4000000 in
theorem gX9_putsAll_L53 (hfl : l.flags = flags0) (l0 : Nat) (l1 : Nat) (l2 : Int32) : ∀ (n : Nat) (s : Int32 × pmM), pm_G l Γ zX9_putsAll (d + 1) 53 [.ref l0, .ref l1, .int l2, .int s.1, pmU] [] s.2 (pm_lp n (X9_putsAll_L53 l0 l1 l2) s) :=
  pm_loop (lsf := fun s : Int32 × pmM => [.ref l0, .ref l1, .int l2, .int s.1, pmU]) (mf := fun s : Int32 × pmM => s.2) (fun again53 hag53 s53 => by
    unfold X9_putsAll_L53
    refine pm_iload_n dX9_putsAll_53 rfl rfl ?_
    refine pm_bipush (v := 16) dX9_putsAll_54 kb_16 ?_
    refine pm_icmp_ge (tgt := 105) dX9_putsAll_56 rfl ?_ ?_
    · exact pm_vret rfl dX9_putsAll_105
    · refine pm_iconst (v := 0) dX9_putsAll_59 ki_0 ?_
      refine pm_istore (ls2 := [.ref l0, .ref l1, .int l2, .int s53.1, .int 0]) dX9_putsAll_60 rfl (Nat.le_of_ble_eq_true rfl) rfl ?_
      exact gX9_putsAll_L62 hfl again53 l0 l1 l2 s53.1 hag53 pm_N (0, s53.2))
set_option maxRecDepth 100000 in
set_option maxHeartbeats 4000000 in
theorem gX9_putsAll_L21 (hfl : l.flags = flags0) (l0 : Nat) (l1 : Nat) (l2 : Int32) : ∀ (n : Nat) (s : Int32 × pmM), pm_G l Γ zX9_putsAll (d + 1) 21 [.ref l0, .ref l1, .int l2, .int s.1, pmU] [] s.2 (pm_lp n (X9_putsAll_L21 l0 l1 l2) s) :=
  pm_loop (lsf := fun s : Int32 × pmM => [.ref l0, .ref l1, .int l2, .int s.1, pmU]) (mf := fun s : Int32 × pmM => s.2) (fun again21 hag21 s21 => by
    unfold X9_putsAll_L21
    refine pm_iload_n dX9_putsAll_21 rfl rfl ?_
    refine pm_bipush (v := 14) dX9_putsAll_22 kb_14 ?_
    refine pm_icmp_ge (tgt := 51) dX9_putsAll_24 rfl ?_ ?_
    · refine pm_iconst (v := 0) dX9_putsAll_51 ki_0 ?_
      refine pm_istore_n (ls2 := [.ref l0, .ref l1, .int l2, .int 0, pmU]) dX9_putsAll_52 rfl rfl (Nat.le_of_ble_eq_true rfl) rfl ?_
      exact gX9_putsAll_L53 hfl l0 l1 l2 pm_N (0, s21.2)
    · refine pm_aload_n dX9_putsAll_27 rfl rfl ?_
      refine fg_9_29 (y := zX9_putsAll) (Or.inl tw_1395) dX9_putsAll_28 (fun r16 => ?_)
      refine pm_iload_n dX9_putsAll_31 rfl rfl ?_
      refine pm_aload_n dX9_putsAll_32 rfl rfl ?_
      refine pm_aload_n dX9_putsAll_33 rfl rfl ?_
      refine pm_aload_n dX9_putsAll_34 rfl rfl ?_
      refine fg_9_29 (y := zX9_putsAll) (Or.inl tw_1395) dX9_putsAll_35 (fun r17 => ?_)
      refine pm_iload_n dX9_putsAll_38 rfl rfl ?_
      refine pm_iald (y := zX9_putsAll) dX9_putsAll_39 (fun x18 => ?_)
      refine pm_iload_n dX9_putsAll_40 rfl rfl ?_
      refine pm_rcv (fun hb9 hc9 => ?_)
      refine pm_kI (d := d + 0) rfl (pm_V (y := zX9_putsAll) (z := zX9_puts) (As := [.ref l1, .int x18, .int l2]) zkX9_puts pm_q9 (by decide) tw_1952 tw_1954 tw_154 dX9_putsAll_41 rfl rfl (Nat.le_of_ble_eq_true rfl) hb9 hc9) (kcX9_puts (d := d + 0) hfl l0 l1 x18 l2 s21.2) (fun x20 m19 => ?_)
      refine pm_iast (y := zX9_putsAll) dX9_putsAll_44 (fun m21 => ?_)
      refine pm_iincn (y := zX9_putsAll) dX9_putsAll_45 rfl ki_1 rfl (Nat.le_of_ble_eq_true rfl) (fun x22 => ?_)
      refine pm_eqls (ls2 := [.ref l0, .ref l1, .int l2, .int x22, pmU]) rfl ?_
      refine pm_goto (tgt := 21) dX9_putsAll_48 rfl ?_
      exact hag21 (x22, m21))
set_option maxRecDepth 100000 in
set_option maxHeartbeats 4000000 in
theorem kcX9_putsAll (hfl : l.flags = flags0) (a0 : Nat) (a1 : Nat) (a2 : Int32) (m : pmM) : pm_C l Γ zX9_putsAll (d + 1) [.ref a0, .ref a1, .int a2] m (X9_putsAll a0 a1 a2 m) := by
  refine pm_enter (ls := [.ref a0, .ref a1, .int a2, pmU, pmU]) hfl (by decide +kernel) rfl (Nat.le_of_ble_eq_true rfl) rfl (Nat.le_of_ble_eq_true rfl) ?_
  unfold X9_putsAll
  refine pm_aload_n dX9_putsAll_0 rfl rfl ?_
  refine pm_iconst (v := 0) dX9_putsAll_1 ki_0 ?_
  refine fp_9_37 (y := zX9_putsAll) (Or.inl tw_1403) dX9_putsAll_2 (fun m1 => ?_)
  refine pm_aload_n dX9_putsAll_5 rfl rfl ?_
  refine pm_aload_n dX9_putsAll_6 rfl rfl ?_
  refine pm_aload_n dX9_putsAll_7 rfl rfl ?_
  refine pm_aload_n dX9_putsAll_8 rfl rfl ?_
  refine fg_9_34 (y := zX9_putsAll) (Or.inl tw_1400) dX9_putsAll_9 (fun x2 => ?_)
  refine pm_iload_n dX9_putsAll_12 rfl rfl ?_
  refine pm_rcv (fun hb9 hc9 => ?_)
  refine pm_kI (d := d + 0) rfl (pm_V (y := zX9_putsAll) (z := zX9_puts) (As := [.ref a1, .int x2, .int a2]) zkX9_puts pm_q9 (by decide) tw_1952 tw_1954 tw_154 dX9_putsAll_13 rfl rfl (Nat.le_of_ble_eq_true rfl) hb9 hc9) (kcX9_puts (d := d + 0) hfl a0 a1 x2 a2 m1) (fun x4 m3 => ?_)
  refine fp_9_34 (y := zX9_putsAll) (Or.inl tw_1400) dX9_putsAll_16 (fun m5 => ?_)
  refine pm_iconst (v := 0) dX9_putsAll_19 ki_0 ?_
  refine pm_istore_n (ls2 := [.ref a0, .ref a1, .int a2, .int 0, pmU]) dX9_putsAll_20 rfl rfl (Nat.le_of_ble_eq_true rfl) rfl ?_
  exact gX9_putsAll_L21 hfl a0 a1 a2 pm_N (0, m5)
-- StruckPageModel.image()I
def X9_image (a0 : Nat) (m : pmM) : pmR := pm_pI 9 a0 0 0 m fun m1 => pm_gI 9 a0 36 m1 fun x2 => if x2 = 3 then (pm_oI (-1) m1) else (pm_gR 9 a0 32 m1 fun r3 => pm_gI 9 a0 36 m1 fun x4 => pm_ldR 103 r3 x4 m1 fun r5 => pm_rc 9 a0 m1 <| pm_cV (X9_putsAll a0 r5 0 m1) fun m6 => pm_gI 9 a0 36 m6 fun x7 => pm_pI 9 a0 36 (x7 + 1) m6 fun m8 => pm_gI 9 a0 36 m8 fun x9 => pm_oI x9 m8)
set_option maxRecDepth 100000 in
set_option maxHeartbeats 4000000 in
theorem kcX9_image (hfl : l.flags = flags0) (a0 : Nat) (m : pmM) : pm_C l Γ zX9_image (d + 2) [.ref a0] m (X9_image a0 m) := by
  refine pm_enter (ls := [.ref a0]) hfl (by decide +kernel) rfl (Nat.le_of_ble_eq_true rfl) rfl (Nat.le_of_ble_eq_true rfl) ?_
  unfold X9_image
  refine pm_aload_n dX9_image_0 rfl rfl ?_
  refine pm_iconst (v := 0) dX9_image_1 ki_0 ?_
  refine fp_9_0 (y := zX9_image) (Or.inl tw_1366) dX9_image_2 (fun m1 => ?_)
  refine pm_aload_n dX9_image_5 rfl rfl ?_
  refine fg_9_36 (y := zX9_image) (Or.inl tw_1402) dX9_image_6 (fun x2 => ?_)
  refine pm_iconst (v := 3) dX9_image_9 ki_3 ?_
  refine pm_icmp_ne (tgt := 15) dX9_image_10 rfl ?_ ?_
  · refine pm_aload_n dX9_image_15 rfl rfl ?_
    refine pm_aload_n dX9_image_16 rfl rfl ?_
    refine fg_9_32 (y := zX9_image) (Or.inl tw_1398) dX9_image_17 (fun r3 => ?_)
    refine pm_aload_n dX9_image_20 rfl rfl ?_
    refine fg_9_36 (y := zX9_image) (Or.inl tw_1402) dX9_image_21 (fun x4 => ?_)
    refine pm_aaldI (y := zX9_image) dX9_image_24 (fun r5 => ?_)
    refine pm_iconst (v := 0) dX9_image_25 ki_0 ?_
    refine pm_rcv (fun hb9 hc9 => ?_)
    refine pm_kV (d := d + 1) rfl (pm_V (y := zX9_image) (z := zX9_putsAll) (As := [.ref r5, .int 0]) zkX9_putsAll pm_q9 (by decide) tw_1948 tw_1950 tw_153 dX9_image_26 rfl rfl (Nat.le_of_ble_eq_true rfl) hb9 hc9) (kcX9_putsAll (d := d + 0) hfl a0 r5 0 m1) (fun m6 => ?_)
    refine pm_aload_n dX9_image_29 rfl rfl ?_
    refine pm_dup dX9_image_30 rfl ?_
    refine fg_9_36 (y := zX9_image) (Or.inl tw_1402) dX9_image_31 (fun x7 => ?_)
    refine pm_iconst (v := 1) dX9_image_34 ki_1 ?_
    refine pm_iadd dX9_image_35 ?_
    refine fp_9_36 (y := zX9_image) (Or.inl tw_1402) dX9_image_36 (fun m8 => ?_)
    refine pm_aload_n dX9_image_39 rfl rfl ?_
    refine fg_9_36 (y := zX9_image) (Or.inl tw_1402) dX9_image_40 (fun x9 => ?_)
    exact pm_iret rfl dX9_image_43
  · refine pm_iconst (v := (-1)) dX9_image_13 ki_n1 ?_
    exact pm_iret rfl dX9_image_14
-- StruckPageModel.restore()I
def X9_restore (a0 : Nat) (m : pmM) : pmR := pm_pI 9 a0 0 0 m fun m1 => pm_gI 9 a0 36 m1 fun x2 => if x2 = 0 then (pm_oI (-1) m1) else (pm_gI 9 a0 36 m1 fun x3 => pm_pI 9 a0 36 (x3 - 1) m1 fun m4 => pm_gR 9 a0 32 m4 fun r5 => pm_gI 9 a0 36 m4 fun x6 => pm_ldR 103 r5 x6 m4 fun r7 => pm_rc 9 a0 m4 <| pm_cV (X9_putsAll a0 r7 1 m4) fun m8 => pm_pI 9 a0 35 0 m8 fun m9 => pm_gI 9 a0 36 m9 fun x10 => pm_oI x10 m9)
set_option maxRecDepth 100000 in
set_option maxHeartbeats 4000000 in
theorem kcX9_restore (hfl : l.flags = flags0) (a0 : Nat) (m : pmM) : pm_C l Γ zX9_restore (d + 2) [.ref a0] m (X9_restore a0 m) := by
  refine pm_enter (ls := [.ref a0]) hfl (by decide +kernel) rfl (Nat.le_of_ble_eq_true rfl) rfl (Nat.le_of_ble_eq_true rfl) ?_
  unfold X9_restore
  refine pm_aload_n dX9_restore_0 rfl rfl ?_
  refine pm_iconst (v := 0) dX9_restore_1 ki_0 ?_
  refine fp_9_0 (y := zX9_restore) (Or.inl tw_1366) dX9_restore_2 (fun m1 => ?_)
  refine pm_aload_n dX9_restore_5 rfl rfl ?_
  refine fg_9_36 (y := zX9_restore) (Or.inl tw_1402) dX9_restore_6 (fun x2 => ?_)
  refine pm_if_ne (tgt := 14) dX9_restore_9 rfl ?_ ?_
  · refine pm_aload_n dX9_restore_14 rfl rfl ?_
    refine pm_dup dX9_restore_15 rfl ?_
    refine fg_9_36 (y := zX9_restore) (Or.inl tw_1402) dX9_restore_16 (fun x3 => ?_)
    refine pm_iconst (v := 1) dX9_restore_19 ki_1 ?_
    refine pm_isub dX9_restore_20 ?_
    refine fp_9_36 (y := zX9_restore) (Or.inl tw_1402) dX9_restore_21 (fun m4 => ?_)
    refine pm_aload_n dX9_restore_24 rfl rfl ?_
    refine pm_aload_n dX9_restore_25 rfl rfl ?_
    refine fg_9_32 (y := zX9_restore) (Or.inl tw_1398) dX9_restore_26 (fun r5 => ?_)
    refine pm_aload_n dX9_restore_29 rfl rfl ?_
    refine fg_9_36 (y := zX9_restore) (Or.inl tw_1402) dX9_restore_30 (fun x6 => ?_)
    refine pm_aaldI (y := zX9_restore) dX9_restore_33 (fun r7 => ?_)
    refine pm_iconst (v := 1) dX9_restore_34 ki_1 ?_
    refine pm_rcv (fun hb9 hc9 => ?_)
    refine pm_kV (d := d + 1) rfl (pm_V (y := zX9_restore) (z := zX9_putsAll) (As := [.ref r7, .int 1]) zkX9_putsAll pm_q9 (by decide) tw_1948 tw_1950 tw_153 dX9_restore_35 rfl rfl (Nat.le_of_ble_eq_true rfl) hb9 hc9) (kcX9_putsAll (d := d + 0) hfl a0 r7 1 m4) (fun m8 => ?_)
    refine pm_aload_n dX9_restore_38 rfl rfl ?_
    refine pm_iconst (v := 0) dX9_restore_39 ki_0 ?_
    refine fp_9_35 (y := zX9_restore) (Or.inl tw_1401) dX9_restore_40 (fun m9 => ?_)
    refine pm_aload_n dX9_restore_43 rfl rfl ?_
    refine fg_9_36 (y := zX9_restore) (Or.inl tw_1402) dX9_restore_44 (fun x10 => ?_)
    exact pm_iret rfl dX9_restore_47
  · refine pm_iconst (v := (-1)) dX9_restore_12 ki_n1 ?_
    exact pm_iret rfl dX9_restore_13
-- StruckPageModel.status(I)I
def X9_status_j24 (t0 : Int32) (m : pmM) : pmR := pm_oI t0 m
def X9_status (a0 : Nat) (a1 : Int32) (m : pmM) : pmR := pm_pI 9 a0 0 0 m fun m1 => pm_cI (X9_in a1 0 1 m1) fun x3 m2 => if x3 = 0 then (X9_status_j24 (-1) m2) else (pm_gR 9 a0 10 m2 fun r4 => pm_ld 100 r4 a1 m2 fun x5 => X9_status_j24 x5 m2)
set_option maxRecDepth 100000 in
set_option maxHeartbeats 4000000 in
theorem gX9_status_j24 (hfl : l.flags = flags0) (t0 : Int32) (m : pmM) : pm_G l Γ zX9_status (d + 1) 24 [pmU, pmU] [.int t0] m (X9_status_j24 t0 m) := by
  unfold X9_status_j24
  exact pm_iret rfl dX9_status_24
set_option maxRecDepth 100000 in
set_option maxHeartbeats 4000000 in
theorem kcX9_status (hfl : l.flags = flags0) (a0 : Nat) (a1 : Int32) (m : pmM) : pm_C l Γ zX9_status (d + 1) [.ref a0, .int a1] m (X9_status a0 a1 m) := by
  refine pm_enter (ls := [.ref a0, .int a1]) hfl (by decide +kernel) rfl (Nat.le_of_ble_eq_true rfl) rfl (Nat.le_of_ble_eq_true rfl) ?_
  unfold X9_status
  refine pm_aload_n dX9_status_0 rfl rfl ?_
  refine pm_iconst (v := 0) dX9_status_1 ki_0 ?_
  refine fp_9_0 (y := zX9_status) (Or.inl tw_1366) dX9_status_2 (fun m1 => ?_)
  refine pm_iload_n dX9_status_5 rfl rfl ?_
  refine pm_iconst (v := 0) dX9_status_6 ki_0 ?_
  refine pm_iconst (v := 1) dX9_status_7 ki_1 ?_
  refine pm_kI (d := d + 0) rfl (pm_S (y := zX9_status) (z := zX9_in) (As := [.int a1, .int 0, .int 1]) zkX9_in tw_1545 tw_1546 dX9_status_8 rfl rfl (Nat.le_of_ble_eq_true rfl)) (kcX9_in (d := d + 0) hfl a1 0 1 m1) (fun x3 m2 => ?_)
  refine pm_if_eq (tgt := 23) dX9_status_11 rfl ?_ ?_
  · refine pm_iconst (v := (-1)) dX9_status_23 ki_n1 ?_
    refine pm_drop (ls2 := [pmU, pmU]) (Nat.le_refl _) (pm_le_spec (pm_le_u (pm_le_u (pm_le_n)))) ?_
    exact gX9_status_j24 hfl (-1) m2
  · refine pm_aload_n dX9_status_14 rfl rfl ?_
    refine fg_9_10 (y := zX9_status) (Or.inl tw_1376) dX9_status_15 (fun r4 => ?_)
    refine pm_iload_n dX9_status_18 rfl rfl ?_
    refine pm_iald (y := zX9_status) dX9_status_19 (fun x5 => ?_)
    refine pm_goto (tgt := 24) dX9_status_20 rfl ?_
    refine pm_drop (ls2 := [pmU, pmU]) (Nat.le_refl _) (pm_le_spec (pm_le_u (pm_le_u (pm_le_n)))) ?_
    exact gX9_status_j24 hfl x5 m2
-- StruckPageModel.count(I)I
def X9_count_j41 (t0 : Int32) (m : pmM) : pmR := pm_oI t0 m
def X9_count (a0 : Nat) (a1 : Int32) (m : pmM) : pmR := pm_pI 9 a0 0 0 m fun m1 => if a1 = 0 then (pm_gI 9 a0 36 m1 fun x4 => X9_count_j41 x4 m1) else (if a1 = 1 then (pm_gI 9 a0 1 m1 fun x3 => X9_count_j41 x3 m1) else (if a1 = 2 then (pm_gI 9 a0 34 m1 fun x2 => X9_count_j41 x2 m1) else (X9_count_j41 (-1) m1)))
set_option maxRecDepth 100000 in
set_option maxHeartbeats 4000000 in
theorem gX9_count_j41 (hfl : l.flags = flags0) (t0 : Int32) (m : pmM) : pm_G l Γ zX9_count (d + 0) 41 [pmU, pmU] [.int t0] m (X9_count_j41 t0 m) := by
  unfold X9_count_j41
  exact pm_iret rfl dX9_count_41
set_option maxRecDepth 100000 in
set_option maxHeartbeats 4000000 in
theorem kcX9_count (hfl : l.flags = flags0) (a0 : Nat) (a1 : Int32) (m : pmM) : pm_C l Γ zX9_count (d + 0) [.ref a0, .int a1] m (X9_count a0 a1 m) := by
  refine pm_enter (ls := [.ref a0, .int a1]) hfl (by decide +kernel) rfl (Nat.le_of_ble_eq_true rfl) rfl (Nat.le_of_ble_eq_true rfl) ?_
  unfold X9_count
  refine pm_aload_n dX9_count_0 rfl rfl ?_
  refine pm_iconst (v := 0) dX9_count_1 ki_0 ?_
  refine fp_9_0 (y := zX9_count) (Or.inl tw_1366) dX9_count_2 (fun m1 => ?_)
  refine pm_iload_n dX9_count_5 rfl rfl ?_
  refine pm_if_ne (tgt := 16) dX9_count_6 rfl ?_ ?_
  · refine pm_iload_n dX9_count_16 rfl rfl ?_
    refine pm_iconst (v := 1) dX9_count_17 ki_1 ?_
    refine pm_icmp_ne (tgt := 28) dX9_count_18 rfl ?_ ?_
    · refine pm_iload_n dX9_count_28 rfl rfl ?_
      refine pm_iconst (v := 2) dX9_count_29 ki_2 ?_
      refine pm_icmp_ne (tgt := 40) dX9_count_30 rfl ?_ ?_
      · refine pm_iconst (v := (-1)) dX9_count_40 ki_n1 ?_
        refine pm_drop (ls2 := [pmU, pmU]) (Nat.le_refl _) (pm_le_spec (pm_le_u (pm_le_u (pm_le_n)))) ?_
        exact gX9_count_j41 hfl (-1) m1
      · refine pm_aload_n dX9_count_33 rfl rfl ?_
        refine fg_9_34 (y := zX9_count) (Or.inl tw_1400) dX9_count_34 (fun x2 => ?_)
        refine pm_goto (tgt := 41) dX9_count_37 rfl ?_
        refine pm_drop (ls2 := [pmU, pmU]) (Nat.le_refl _) (pm_le_spec (pm_le_u (pm_le_u (pm_le_n)))) ?_
        exact gX9_count_j41 hfl x2 m1
    · refine pm_aload_n dX9_count_21 rfl rfl ?_
      refine fg_9_1 (y := zX9_count) (Or.inl tw_1367) dX9_count_22 (fun x3 => ?_)
      refine pm_goto (tgt := 41) dX9_count_25 rfl ?_
      refine pm_drop (ls2 := [pmU, pmU]) (Nat.le_refl _) (pm_le_spec (pm_le_u (pm_le_u (pm_le_n)))) ?_
      exact gX9_count_j41 hfl x3 m1
  · refine pm_aload_n dX9_count_9 rfl rfl ?_
    refine fg_9_36 (y := zX9_count) (Or.inl tw_1402) dX9_count_10 (fun x4 => ?_)
    refine pm_goto (tgt := 41) dX9_count_13 rfl ?_
    refine pm_drop (ls2 := [pmU, pmU]) (Nat.le_refl _) (pm_le_spec (pm_le_u (pm_le_u (pm_le_n)))) ?_
    exact gX9_count_j41 hfl x4 m1
-- StruckPageLaw.page(LStruckPage;I[J)I
def L_page (a0 : Nat) (a1 : Int32) (a2 : Nat) (m : pmM) : pmR := pm_rc 8 a0 m <| pm_cIH (X8_page a0 a1 m) (h := fun k9 m9 => if k9 = 1 then (pm_oI 1 m9) else none) fun x2 m1 => pm_stL a2 0 x2.toInt64 m1 fun m3 => pm_oI 0 m3
set_option maxRecDepth 100000 in
set_option maxHeartbeats 4000000 in
theorem kcL_page (hfl : l.flags = flags0) (a0 : Nat) (a1 : Int32) (a2 : Nat) (m : pmM) : pm_C l Γ zL_page (d + 9) [.ref a0, .int a1, .ref a2] m (L_page a0 a1 a2 m) := by
  refine pm_enterH (ls := [.ref a0, .int a1, .ref a2, pmU]) hfl (by decide +kernel) (by decide) (Nat.le_of_ble_eq_true rfl) rfl (Nat.le_of_ble_eq_true rfl) ?_
  unfold L_page
  refine pm_aload_n dL_page_0 rfl rfl ?_
  refine pm_iconst (v := 0) dL_page_1 ki_0 ?_
  refine pm_aload_n dL_page_2 rfl rfl ?_
  refine pm_iload_n dL_page_3 rfl rfl ?_
  refine pm_rcv (fun hb9 hc9 => ?_)
  refine pm_kIH (d := d + 8) (pm_V (y := zL_page) (z := zX8_page) (As := [.int a1]) zkX8_page pm_q8 (by decide) tw_676 tw_677 tw_678 dL_page_4 rfl rfl (Nat.le_of_ble_eq_true rfl) hb9 hc9) (kcX8_page (d := d + 0) hfl a0 a1 m) ?_ (fun x2 m1 => ?_)
  · intro k9 m9
    by_cases e1 : k9 = 1
    · subst e1
      refine Or.inr ⟨[], [], 0, 9, 12, 13, 3, 1, rfl, (by intro q hq; cases hq), by decide, by decide, by decide, tw_675, tw_690, Or.inr ⟨rfl, 3, rfl, dL_page_12⟩, Nat.le_of_ble_eq_true rfl, rfl, ?_⟩
      refine pm_eqls (ls2 := [.ref a0, .int a1, .ref a2, pmU]) rfl ?_
      rw [if_pos rfl]
      refine pm_iconst (v := 1) dL_page_13 ki_1 ?_
      exact pm_iret rfl dL_page_14
    exact Or.inl (by simp [e1])
  refine pm_i2l dL_page_7 ?_
  refine pm_last (y := zL_page) dL_page_8 (fun m3 => ?_)
  refine pm_goto (tgt := 15) dL_page_9 rfl ?_
  refine pm_iconst (v := 0) dL_page_15 ki_0 ?_
  exact pm_iret rfl dL_page_16
-- StruckPageLaw.law(LStruckPage;I[J)I
def L_law (a0 : Nat) (a1 : Int32) (a2 : Nat) (m : pmM) : pmR := pm_rc 8 a0 m <| pm_cIH (X8_law a0 a1 m) (h := fun k9 m9 => if k9 = 1 then (pm_oI 1 m9) else none) fun x2 m1 => pm_stL a2 0 x2.toInt64 m1 fun m3 => pm_oI 0 m3
set_option maxRecDepth 100000 in
set_option maxHeartbeats 4000000 in
theorem kcL_law (hfl : l.flags = flags0) (a0 : Nat) (a1 : Int32) (a2 : Nat) (m : pmM) : pm_C l Γ zL_law (d + 49) [.ref a0, .int a1, .ref a2] m (L_law a0 a1 a2 m) := by
  refine pm_enterH (ls := [.ref a0, .int a1, .ref a2, pmU]) hfl (by decide +kernel) (by decide) (Nat.le_of_ble_eq_true rfl) rfl (Nat.le_of_ble_eq_true rfl) ?_
  unfold L_law
  refine pm_aload_n dL_law_0 rfl rfl ?_
  refine pm_iconst (v := 0) dL_law_1 ki_0 ?_
  refine pm_aload_n dL_law_2 rfl rfl ?_
  refine pm_iload_n dL_law_3 rfl rfl ?_
  refine pm_rcv (fun hb9 hc9 => ?_)
  refine pm_kIH (d := d + 48) (pm_V (y := zL_law) (z := zX8_law) (As := [.int a1]) zkX8_law pm_q8 (by decide) tw_883 tw_884 tw_885 dL_law_4 rfl rfl (Nat.le_of_ble_eq_true rfl) hb9 hc9) (kcX8_law (d := d + 0) hfl a0 a1 m) ?_ (fun x2 m1 => ?_)
  · intro k9 m9
    by_cases e1 : k9 = 1
    · subst e1
      refine Or.inr ⟨[], [], 0, 9, 12, 13, 3, 1, rfl, (by intro q hq; cases hq), by decide, by decide, by decide, tw_675, tw_690, Or.inr ⟨rfl, 3, rfl, dL_law_12⟩, Nat.le_of_ble_eq_true rfl, rfl, ?_⟩
      refine pm_eqls (ls2 := [.ref a0, .int a1, .ref a2, pmU]) rfl ?_
      rw [if_pos rfl]
      refine pm_iconst (v := 1) dL_law_13 ki_1 ?_
      exact pm_iret rfl dL_law_14
    exact Or.inl (by simp [e1])
  refine pm_i2l dL_law_7 ?_
  refine pm_last (y := zL_law) dL_law_8 (fun m3 => ?_)
  refine pm_goto (tgt := 15) dL_law_9 rfl ?_
  refine pm_iconst (v := 0) dL_law_15 ki_0 ?_
  exact pm_iret rfl dL_law_16
-- StruckPageLaw.work(LStruckPage;I[J)I
def L_work (a0 : Nat) (a1 : Int32) (a2 : Nat) (m : pmM) : pmR := pm_rc 8 a0 m <| pm_cIH (X8_work a0 a1 m) (h := fun k9 m9 => if k9 = 1 then (pm_oI 1 m9) else none) fun x2 m1 => pm_stL a2 0 x2.toInt64 m1 fun m3 => pm_oI 0 m3
set_option maxRecDepth 100000 in
set_option maxHeartbeats 4000000 in
theorem kcL_work (hfl : l.flags = flags0) (a0 : Nat) (a1 : Int32) (a2 : Nat) (m : pmM) : pm_C l Γ zL_work (d + 39) [.ref a0, .int a1, .ref a2] m (L_work a0 a1 a2 m) := by
  refine pm_enterH (ls := [.ref a0, .int a1, .ref a2, pmU]) hfl (by decide +kernel) (by decide) (Nat.le_of_ble_eq_true rfl) rfl (Nat.le_of_ble_eq_true rfl) ?_
  unfold L_work
  refine pm_aload_n dL_work_0 rfl rfl ?_
  refine pm_iconst (v := 0) dL_work_1 ki_0 ?_
  refine pm_aload_n dL_work_2 rfl rfl ?_
  refine pm_iload_n dL_work_3 rfl rfl ?_
  refine pm_rcv (fun hb9 hc9 => ?_)
  refine pm_kIH (d := d + 38) (pm_V (y := zL_work) (z := zX8_work) (As := [.int a1]) zkX8_work pm_q8 (by decide) tw_937 tw_938 tw_939 dL_work_4 rfl rfl (Nat.le_of_ble_eq_true rfl) hb9 hc9) (kcX8_work (d := d + 0) hfl a0 a1 m) ?_ (fun x2 m1 => ?_)
  · intro k9 m9
    by_cases e1 : k9 = 1
    · subst e1
      refine Or.inr ⟨[], [], 0, 9, 12, 13, 3, 1, rfl, (by intro q hq; cases hq), by decide, by decide, by decide, tw_675, tw_690, Or.inr ⟨rfl, 3, rfl, dL_work_12⟩, Nat.le_of_ble_eq_true rfl, rfl, ?_⟩
      refine pm_eqls (ls2 := [.ref a0, .int a1, .ref a2, pmU]) rfl ?_
      rw [if_pos rfl]
      refine pm_iconst (v := 1) dL_work_13 ki_1 ?_
      exact pm_iret rfl dL_work_14
    exact Or.inl (by simp [e1])
  refine pm_i2l dL_work_7 ?_
  refine pm_last (y := zL_work) dL_work_8 (fun m3 => ?_)
  refine pm_goto (tgt := 15) dL_work_9 rfl ?_
  refine pm_iconst (v := 0) dL_work_15 ki_0 ?_
  exact pm_iret rfl dL_work_16
-- StruckPageLaw.sentence(LStruckPage;I[J)I
def L_sentence (a0 : Nat) (a1 : Int32) (a2 : Nat) (m : pmM) : pmR := pm_rc 8 a0 m <| pm_cIH (X8_sentence a0 a1 m) (h := fun k9 m9 => if k9 = 1 then (pm_oI 1 m9) else none) fun x2 m1 => pm_stL a2 0 x2.toInt64 m1 fun m3 => pm_oI 0 m3
set_option maxRecDepth 100000 in
set_option maxHeartbeats 4000000 in
theorem kcL_sentence (hfl : l.flags = flags0) (a0 : Nat) (a1 : Int32) (a2 : Nat) (m : pmM) : pm_C l Γ zL_sentence (d + 4) [.ref a0, .int a1, .ref a2] m (L_sentence a0 a1 a2 m) := by
  refine pm_enterH (ls := [.ref a0, .int a1, .ref a2, pmU]) hfl (by decide +kernel) (by decide) (Nat.le_of_ble_eq_true rfl) rfl (Nat.le_of_ble_eq_true rfl) ?_
  unfold L_sentence
  refine pm_aload_n dL_sentence_0 rfl rfl ?_
  refine pm_iconst (v := 0) dL_sentence_1 ki_0 ?_
  refine pm_aload_n dL_sentence_2 rfl rfl ?_
  refine pm_iload_n dL_sentence_3 rfl rfl ?_
  refine pm_rcv (fun hb9 hc9 => ?_)
  refine pm_kIH (d := d + 3) (pm_V (y := zL_sentence) (z := zX8_sentence) (As := [.int a1]) zkX8_sentence pm_q8 (by decide) tw_1051 tw_1052 tw_1053 dL_sentence_4 rfl rfl (Nat.le_of_ble_eq_true rfl) hb9 hc9) (kcX8_sentence (d := d + 0) hfl a0 a1 m) ?_ (fun x2 m1 => ?_)
  · intro k9 m9
    by_cases e1 : k9 = 1
    · subst e1
      refine Or.inr ⟨[], [], 0, 9, 12, 13, 3, 1, rfl, (by intro q hq; cases hq), by decide, by decide, by decide, tw_675, tw_690, Or.inr ⟨rfl, 3, rfl, dL_sentence_12⟩, Nat.le_of_ble_eq_true rfl, rfl, ?_⟩
      refine pm_eqls (ls2 := [.ref a0, .int a1, .ref a2, pmU]) rfl ?_
      rw [if_pos rfl]
      refine pm_iconst (v := 1) dL_sentence_13 ki_1 ?_
      exact pm_iret rfl dL_sentence_14
    exact Or.inl (by simp [e1])
  refine pm_i2l dL_sentence_7 ?_
  refine pm_last (y := zL_sentence) dL_sentence_8 (fun m3 => ?_)
  refine pm_goto (tgt := 15) dL_sentence_9 rfl ?_
  refine pm_iconst (v := 0) dL_sentence_15 ki_0 ?_
  exact pm_iret rfl dL_sentence_16
-- StruckPageLaw.told(LStruckPage;I[J)I
def L_told (a0 : Nat) (a1 : Int32) (a2 : Nat) (m : pmM) : pmR := pm_rc 8 a0 m <| pm_cIH (X8_told a0 a1 m) (h := fun k9 m9 => if k9 = 1 then (pm_oI 1 m9) else none) fun x2 m1 => pm_stL a2 0 x2.toInt64 m1 fun m3 => pm_oI 0 m3
set_option maxRecDepth 100000 in
set_option maxHeartbeats 4000000 in
theorem kcL_told (hfl : l.flags = flags0) (a0 : Nat) (a1 : Int32) (a2 : Nat) (m : pmM) : pm_C l Γ zL_told (d + 4) [.ref a0, .int a1, .ref a2] m (L_told a0 a1 a2 m) := by
  refine pm_enterH (ls := [.ref a0, .int a1, .ref a2, pmU]) hfl (by decide +kernel) (by decide) (Nat.le_of_ble_eq_true rfl) rfl (Nat.le_of_ble_eq_true rfl) ?_
  unfold L_told
  refine pm_aload_n dL_told_0 rfl rfl ?_
  refine pm_iconst (v := 0) dL_told_1 ki_0 ?_
  refine pm_aload_n dL_told_2 rfl rfl ?_
  refine pm_iload_n dL_told_3 rfl rfl ?_
  refine pm_rcv (fun hb9 hc9 => ?_)
  refine pm_kIH (d := d + 3) (pm_V (y := zL_told) (z := zX8_told) (As := [.int a1]) zkX8_told pm_q8 (by decide) tw_1071 tw_1072 tw_1073 dL_told_4 rfl rfl (Nat.le_of_ble_eq_true rfl) hb9 hc9) (kcX8_told (d := d + 0) hfl a0 a1 m) ?_ (fun x2 m1 => ?_)
  · intro k9 m9
    by_cases e1 : k9 = 1
    · subst e1
      refine Or.inr ⟨[], [], 0, 9, 12, 13, 3, 1, rfl, (by intro q hq; cases hq), by decide, by decide, by decide, tw_675, tw_690, Or.inr ⟨rfl, 3, rfl, dL_told_12⟩, Nat.le_of_ble_eq_true rfl, rfl, ?_⟩
      refine pm_eqls (ls2 := [.ref a0, .int a1, .ref a2, pmU]) rfl ?_
      rw [if_pos rfl]
      refine pm_iconst (v := 1) dL_told_13 ki_1 ?_
      exact pm_iret rfl dL_told_14
    exact Or.inl (by simp [e1])
  refine pm_i2l dL_told_7 ?_
  refine pm_last (y := zL_told) dL_told_8 (fun m3 => ?_)
  refine pm_goto (tgt := 15) dL_told_9 rfl ?_
  refine pm_iconst (v := 0) dL_told_15 ki_0 ?_
  exact pm_iret rfl dL_told_16
end GEN28
