section GEN16
variable {l : Launch} {Γ : pmG} {d : Nat}
-- StruckPageModel.takesSign(I)Z
def X9_takesSign_j45 (l2 : Int32) (m : pmM) : pmR := pm_oI (vp_nar .boolean l2) m
def X9_takesSign_j30 (l0 : Nat) (t0 : Int32) (m : pmM) : pmR := if t0 = 0 then (X9_takesSign_j45 t0 m) else (pm_gI 9 l0 4 m fun x6 => pm_pI 9 l0 4 (x6 + 1) m fun m7 => X9_takesSign_j45 t0 m7)
def X9_takesSign (a0 : Nat) (a1 : Int32) (m : pmM) : pmR := pm_gI 9 a0 5 m fun x1 => if x1 = 0 then (pm_rc 9 a0 m <| pm_cV (X9_blanks a0 m) fun m2 => pm_gI 9 a0 4 m2 fun x3 => pm_rc 9 a0 m2 <| pm_cI (X9_byteAt a0 x3 m2) fun x5 m4 => if x5 = a1 then (X9_takesSign_j30 a0 1 m4) else (X9_takesSign_j30 a0 0 m4)) else (pm_oI 0 m)
set_option maxRecDepth 100000 in
set_option maxHeartbeats 4000000 in
theorem gX9_takesSign_j45 (hfl : l.flags = flags0) (l2 : Int32) (m : pmM) : pm_G l Γ zX9_takesSign (d + 2) 45 [pmU, pmU, .int l2] [] m (X9_takesSign_j45 l2 m) := by
  unfold X9_takesSign_j45
  refine pm_iload_n dX9_takesSign_45 rfl rfl ?_
  exact pm_nret (ty := .boolean) (w := vp_nar .boolean l2) rfl (by decide) rfl dX9_takesSign_46
set_option maxRecDepth 100000 in
set_option maxHeartbeats 4000000 in
theorem gX9_takesSign_j30 (hfl : l.flags = flags0) (l0 : Nat) (t0 : Int32) (m : pmM) : pm_G l Γ zX9_takesSign (d + 2) 30 [.ref l0, pmU, pmU] [.int t0] m (X9_takesSign_j30 l0 t0 m) := by
  unfold X9_takesSign_j30
  refine pm_istore_n (ls2 := [.ref l0, pmU, .int t0]) dX9_takesSign_30 rfl rfl (Nat.le_of_ble_eq_true rfl) rfl ?_
  refine pm_iload_n dX9_takesSign_31 rfl rfl ?_
  refine pm_if_eq (tgt := 45) dX9_takesSign_32 rfl ?_ ?_
  · refine pm_drop (ls2 := [pmU, pmU, .int t0]) (Nat.le_refl _) (pm_le_spec (pm_le_u (pm_le_u (pm_le_v (pm_le_n))))) ?_
    exact gX9_takesSign_j45 hfl t0 m
  · refine pm_aload_n dX9_takesSign_35 rfl rfl ?_
    refine pm_dup dX9_takesSign_36 rfl ?_
    refine fg_9_4 (y := zX9_takesSign) (Or.inl tw_1370) dX9_takesSign_37 (fun x6 => ?_)
    refine pm_iconst (v := 1) dX9_takesSign_40 ki_1 ?_
    refine pm_iadd dX9_takesSign_41 ?_
    refine fp_9_4 (y := zX9_takesSign) (Or.inl tw_1370) dX9_takesSign_42 (fun m7 => ?_)
    refine pm_drop (ls2 := [pmU, pmU, .int t0]) (Nat.le_refl _) (pm_le_spec (pm_le_u (pm_le_u (pm_le_v (pm_le_n))))) ?_
    exact gX9_takesSign_j45 hfl t0 m7
set_option maxRecDepth 100000 in
set_option maxHeartbeats 4000000 in
theorem kcX9_takesSign (hfl : l.flags = flags0) (a0 : Nat) (a1 : Int32) (m : pmM) : pm_C l Γ zX9_takesSign (d + 2) [.ref a0, .int a1] m (X9_takesSign a0 a1 m) := by
  refine pm_enter (ls := [.ref a0, .int a1, pmU]) hfl (by decide +kernel) rfl (Nat.le_of_ble_eq_true rfl) rfl (Nat.le_of_ble_eq_true rfl) ?_
  unfold X9_takesSign
  refine pm_aload_n dX9_takesSign_0 rfl rfl ?_
  refine fg_9_5 (y := zX9_takesSign) (Or.inl tw_1371) dX9_takesSign_1 (fun x1 => ?_)
  refine pm_if_eq (tgt := 9) dX9_takesSign_4 rfl ?_ ?_
  · refine pm_aload_n dX9_takesSign_9 rfl rfl ?_
    refine pm_rcv (fun hb9 hc9 => ?_)
    refine pm_kV (d := d + 1) rfl (pm_V (y := zX9_takesSign) (z := zX9_blanks) (As := []) zkX9_blanks pm_q9 (by decide) tw_1556 tw_1558 tw_101 dX9_takesSign_10 rfl rfl (Nat.le_of_ble_eq_true rfl) hb9 hc9) (kcX9_blanks (d := d + 0) hfl a0 m) (fun m2 => ?_)
    refine pm_aload_n dX9_takesSign_13 rfl rfl ?_
    refine pm_aload_n dX9_takesSign_14 rfl rfl ?_
    refine fg_9_4 (y := zX9_takesSign) (Or.inl tw_1370) dX9_takesSign_15 (fun x3 => ?_)
    refine pm_rcv (fun hb9 hc9 => ?_)
    refine pm_kI (d := d + 1) rfl (pm_V (y := zX9_takesSign) (z := zX9_byteAt) (As := [.int x3]) zkX9_byteAt pm_q9 (by decide) tw_1560 tw_1562 tw_102 dX9_takesSign_18 rfl rfl (Nat.le_of_ble_eq_true rfl) hb9 hc9) (kcX9_byteAt (d := d + 1) hfl a0 x3 m2) (fun x5 m4 => ?_)
    refine pm_iload_n dX9_takesSign_21 rfl rfl ?_
    refine pm_icmp_ne (tgt := 29) dX9_takesSign_22 rfl ?_ ?_
    · refine pm_iconst (v := 0) dX9_takesSign_29 ki_0 ?_
      refine pm_drop (ls2 := [.ref a0, pmU, pmU]) (Nat.le_refl _) (pm_le_spec (pm_le_v (pm_le_u (pm_le_u (pm_le_n))))) ?_
      exact gX9_takesSign_j30 hfl a0 0 m4
    · refine pm_iconst (v := 1) dX9_takesSign_25 ki_1 ?_
      refine pm_goto (tgt := 30) dX9_takesSign_26 rfl ?_
      refine pm_drop (ls2 := [.ref a0, pmU, pmU]) (Nat.le_refl _) (pm_le_spec (pm_le_v (pm_le_u (pm_le_u (pm_le_n))))) ?_
      exact gX9_takesSign_j30 hfl a0 1 m4
  · refine pm_iconst (v := 0) dX9_takesSign_7 ki_0 ?_
    exact pm_nret (ty := .boolean) (w := 0) rfl (by decide) (by decide) dX9_takesSign_8
-- StruckPageModel.starts(I)V
def X9_starts (a0 : Nat) (a1 : Int32) (m : pmM) : pmR := pm_pI 9 a0 1 0 m fun m1 => pm_pI 9 a0 2 a1 m1 fun m2 => pm_pI 9 a0 4 0 m2 fun m3 => pm_pI 9 a0 5 0 m3 fun m4 => pm_pI 9 a0 6 (-1) m4 fun m5 => pm_pI 9 a0 7 0 m5 fun m6 => pm_pI 9 a0 8 0 m6 fun m7 => pm_rc 9 a0 m7 <| pm_cV (X9_blanks a0 m7) fun m8 => pm_oV m8
set_option maxRecDepth 100000 in
set_option maxHeartbeats 4000000 in
theorem kcX9_starts (hfl : l.flags = flags0) (a0 : Nat) (a1 : Int32) (m : pmM) : pm_C l Γ zX9_starts (d + 2) [.ref a0, .int a1] m (X9_starts a0 a1 m) := by
  refine pm_enter (ls := [.ref a0, .int a1]) hfl (by decide +kernel) rfl (Nat.le_of_ble_eq_true rfl) rfl (Nat.le_of_ble_eq_true rfl) ?_
  unfold X9_starts
  refine pm_aload_n dX9_starts_0 rfl rfl ?_
  refine pm_iconst (v := 0) dX9_starts_1 ki_0 ?_
  refine fp_9_1 (y := zX9_starts) (Or.inl tw_1367) dX9_starts_2 (fun m1 => ?_)
  refine pm_aload_n dX9_starts_5 rfl rfl ?_
  refine pm_iload_n dX9_starts_6 rfl rfl ?_
  refine fp_9_2 (y := zX9_starts) (Or.inl tw_1368) dX9_starts_7 (fun m2 => ?_)
  refine pm_aload_n dX9_starts_10 rfl rfl ?_
  refine pm_iconst (v := 0) dX9_starts_11 ki_0 ?_
  refine fp_9_4 (y := zX9_starts) (Or.inl tw_1370) dX9_starts_12 (fun m3 => ?_)
  refine pm_aload_n dX9_starts_15 rfl rfl ?_
  refine pm_iconst (v := 0) dX9_starts_16 ki_0 ?_
  refine fp_9_5 (y := zX9_starts) (Or.inl tw_1371) dX9_starts_17 (fun m4 => ?_)
  refine pm_aload_n dX9_starts_20 rfl rfl ?_
  refine pm_iconst (v := (-1)) dX9_starts_21 ki_n1 ?_
  refine fp_9_6 (y := zX9_starts) (Or.inl tw_1372) dX9_starts_22 (fun m5 => ?_)
  refine pm_aload_n dX9_starts_25 rfl rfl ?_
  refine pm_iconst (v := 0) dX9_starts_26 ki_0 ?_
  refine fp_9_7 (y := zX9_starts) (Or.inl tw_1373) dX9_starts_27 (fun m6 => ?_)
  refine pm_aload_n dX9_starts_30 rfl rfl ?_
  refine pm_iconst (v := 0) dX9_starts_31 ki_0 ?_
  refine fp_9_8 (y := zX9_starts) (Or.inl tw_1374) dX9_starts_32 (fun m7 => ?_)
  refine pm_aload_n dX9_starts_35 rfl rfl ?_
  refine pm_rcv (fun hb9 hc9 => ?_)
  refine pm_kV (d := d + 1) rfl (pm_V (y := zX9_starts) (z := zX9_blanks) (As := []) zkX9_blanks pm_q9 (by decide) tw_1556 tw_1558 tw_101 dX9_starts_36 rfl rfl (Nat.le_of_ble_eq_true rfl) hb9 hc9) (kcX9_blanks (d := d + 0) hfl a0 m7) (fun m8 => ?_)
  exact pm_vret rfl dX9_starts_39
-- StruckPageModel.faulty()I
def X9_faulty (a0 : Nat) (m : pmM) : pmR := pm_gI 9 a0 6 m fun x1 => pm_pI 9 a0 3 x1 m fun m2 => pm_gI 9 a0 5 m2 fun x3 => pm_oI (x3 - 10) m2
set_option maxRecDepth 100000 in
set_option maxHeartbeats 4000000 in
theorem kcX9_faulty (hfl : l.flags = flags0) (a0 : Nat) (m : pmM) : pm_C l Γ zX9_faulty (d + 0) [.ref a0] m (X9_faulty a0 m) := by
  refine pm_enter (ls := [.ref a0]) hfl (by decide +kernel) rfl (Nat.le_of_ble_eq_true rfl) rfl (Nat.le_of_ble_eq_true rfl) ?_
  unfold X9_faulty
  refine pm_aload_n dX9_faulty_0 rfl rfl ?_
  refine pm_aload_n dX9_faulty_1 rfl rfl ?_
  refine fg_9_6 (y := zX9_faulty) (Or.inl tw_1372) dX9_faulty_2 (fun x1 => ?_)
  refine fp_9_3 (y := zX9_faulty) (Or.inl tw_1369) dX9_faulty_5 (fun m2 => ?_)
  refine pm_aload_n dX9_faulty_8 rfl rfl ?_
  refine fg_9_5 (y := zX9_faulty) (Or.inl tw_1371) dX9_faulty_9 (fun x3 => ?_)
  refine pm_bipush (v := 10) dX9_faulty_12 kb_10 ?_
  refine pm_isub dX9_faulty_14 ?_
  exact pm_iret rfl dX9_faulty_15
-- StruckPageModel.kindHere()I
def X9_kindHere_j56 (t0 : Int32) (m : pmM) : pmR := pm_oI t0 m
def X9_kindHere (a0 : Nat) (m : pmM) : pmR := pm_rc 9 a0 m <| pm_cI (X9_isWord a0 12 9 14 5 0 0 m) fun x2 m1 => if x2 = 0 then (pm_rc 9 a0 m1 <| pm_cI (X9_isWord a0 3 5 12 12 0 0 m1) fun x4 m3 => if x4 = 0 then (pm_rc 9 a0 m3 <| pm_cI (X9_isWord a0 9 14 11 0 0 0 m3) fun x6 m5 => if x6 = 0 then (X9_kindHere_j56 (-1) m5) else (X9_kindHere_j56 2 m5)) else (pm_oI 1 m3)) else (pm_oI 0 m1)
set_option maxRecDepth 100000 in
set_option maxHeartbeats 4000000 in
theorem gX9_kindHere_j56 (hfl : l.flags = flags0) (t0 : Int32) (m : pmM) : pm_G l Γ zX9_kindHere (d + 4) 56 [pmU] [.int t0] m (X9_kindHere_j56 t0 m) := by
  unfold X9_kindHere_j56
  exact pm_iret rfl dX9_kindHere_56
set_option maxRecDepth 100000 in
set_option maxHeartbeats 4000000 in
theorem kcX9_kindHere (hfl : l.flags = flags0) (a0 : Nat) (m : pmM) : pm_C l Γ zX9_kindHere (d + 4) [.ref a0] m (X9_kindHere a0 m) := by
  refine pm_enter (ls := [.ref a0]) hfl (by decide +kernel) rfl (Nat.le_of_ble_eq_true rfl) rfl (Nat.le_of_ble_eq_true rfl) ?_
  unfold X9_kindHere
  refine pm_aload_n dX9_kindHere_0 rfl rfl ?_
  refine pm_bipush (v := 12) dX9_kindHere_1 kb_12 ?_
  refine pm_bipush (v := 9) dX9_kindHere_3 kb_9 ?_
  refine pm_bipush (v := 14) dX9_kindHere_5 kb_14 ?_
  refine pm_iconst (v := 5) dX9_kindHere_7 ki_5 ?_
  refine pm_iconst (v := 0) dX9_kindHere_8 ki_0 ?_
  refine pm_iconst (v := 0) dX9_kindHere_9 ki_0 ?_
  refine pm_rcv (fun hb9 hc9 => ?_)
  refine pm_kI (d := d + 3) rfl (pm_V (y := zX9_kindHere) (z := zX9_isWord) (As := [.int 12, .int 9, .int 14, .int 5, .int 0, .int 0]) zkX9_isWord pm_q9 (by decide) tw_1572 tw_1574 tw_105 dX9_kindHere_10 rfl rfl (Nat.le_of_ble_eq_true rfl) hb9 hc9) (kcX9_isWord (d := d + 0) hfl a0 12 9 14 5 0 0 m) (fun x2 m1 => ?_)
  refine pm_if_eq (tgt := 18) dX9_kindHere_13 rfl ?_ ?_
  · refine pm_aload_n dX9_kindHere_18 rfl rfl ?_
    refine pm_iconst (v := 3) dX9_kindHere_19 ki_3 ?_
    refine pm_iconst (v := 5) dX9_kindHere_20 ki_5 ?_
    refine pm_bipush (v := 12) dX9_kindHere_21 kb_12 ?_
    refine pm_bipush (v := 12) dX9_kindHere_23 kb_12 ?_
    refine pm_iconst (v := 0) dX9_kindHere_25 ki_0 ?_
    refine pm_iconst (v := 0) dX9_kindHere_26 ki_0 ?_
    refine pm_rcv (fun hb9 hc9 => ?_)
    refine pm_kI (d := d + 3) rfl (pm_V (y := zX9_kindHere) (z := zX9_isWord) (As := [.int 3, .int 5, .int 12, .int 12, .int 0, .int 0]) zkX9_isWord pm_q9 (by decide) tw_1572 tw_1574 tw_105 dX9_kindHere_27 rfl rfl (Nat.le_of_ble_eq_true rfl) hb9 hc9) (kcX9_isWord (d := d + 0) hfl a0 3 5 12 12 0 0 m1) (fun x4 m3 => ?_)
    refine pm_if_eq (tgt := 35) dX9_kindHere_30 rfl ?_ ?_
    · refine pm_aload_n dX9_kindHere_35 rfl rfl ?_
      refine pm_bipush (v := 9) dX9_kindHere_36 kb_9 ?_
      refine pm_bipush (v := 14) dX9_kindHere_38 kb_14 ?_
      refine pm_bipush (v := 11) dX9_kindHere_40 kb_11 ?_
      refine pm_iconst (v := 0) dX9_kindHere_42 ki_0 ?_
      refine pm_iconst (v := 0) dX9_kindHere_43 ki_0 ?_
      refine pm_iconst (v := 0) dX9_kindHere_44 ki_0 ?_
      refine pm_rcv (fun hb9 hc9 => ?_)
      refine pm_kI (d := d + 3) rfl (pm_V (y := zX9_kindHere) (z := zX9_isWord) (As := [.int 9, .int 14, .int 11, .int 0, .int 0, .int 0]) zkX9_isWord pm_q9 (by decide) tw_1572 tw_1574 tw_105 dX9_kindHere_45 rfl rfl (Nat.le_of_ble_eq_true rfl) hb9 hc9) (kcX9_isWord (d := d + 0) hfl a0 9 14 11 0 0 0 m3) (fun x6 m5 => ?_)
      refine pm_if_eq (tgt := 55) dX9_kindHere_48 rfl ?_ ?_
      · refine pm_iconst (v := (-1)) dX9_kindHere_55 ki_n1 ?_
        refine pm_drop (ls2 := [pmU]) (Nat.le_refl _) (pm_le_spec (pm_le_u (pm_le_n))) ?_
        exact gX9_kindHere_j56 hfl (-1) m5
      · refine pm_iconst (v := 2) dX9_kindHere_51 ki_2 ?_
        refine pm_goto (tgt := 56) dX9_kindHere_52 rfl ?_
        refine pm_drop (ls2 := [pmU]) (Nat.le_refl _) (pm_le_spec (pm_le_u (pm_le_n))) ?_
        exact gX9_kindHere_j56 hfl 2 m5
    · refine pm_iconst (v := 1) dX9_kindHere_33 ki_1 ?_
      exact pm_iret rfl dX9_kindHere_34
  · refine pm_iconst (v := 0) dX9_kindHere_16 ki_0 ?_
    exact pm_iret rfl dX9_kindHere_17
-- StruckPageModel.wordsOwn(II)I
def X9_wordsOwn_j36 (l4 : Int32) (m : pmM) : pmR := pm_oI l4 m
def X9_wordsOwn (a0 : Nat) (a1 : Int32) (a2 : Int32) (m : pmM) : pmR := pm_rc 9 a0 m <| pm_cV (X9_blanks a0 m) fun m1 => pm_gI 9 a0 4 m1 fun x2 => pm_rc 9 a0 m1 <| pm_cI (X9_number a0 0 15 m1) fun x4 m3 => pm_gI 9 a0 5 m3 fun x5 => if x5 = 0 then (if a1 = a2 then (pm_rc 9 a0 m3 <| pm_cV (X9_wrong a0 3 x2 m3) fun m6 => X9_wordsOwn_j36 x4 m6) else (X9_wordsOwn_j36 x4 m3)) else (X9_wordsOwn_j36 x4 m3)
set_option maxRecDepth 100000 in
set_option maxHeartbeats 4000000 in
theorem gX9_wordsOwn_j36 (hfl : l.flags = flags0) (l4 : Int32) (m : pmM) : pm_G l Γ zX9_wordsOwn (d + 3) 36 [pmU, pmU, pmU, pmU, .int l4] [] m (X9_wordsOwn_j36 l4 m) := by
  unfold X9_wordsOwn_j36
  refine pm_iload dX9_wordsOwn_36 rfl ?_
  exact pm_iret rfl dX9_wordsOwn_38
set_option maxRecDepth 100000 in
set_option maxHeartbeats 4000000 in
theorem kcX9_wordsOwn (hfl : l.flags = flags0) (a0 : Nat) (a1 : Int32) (a2 : Int32) (m : pmM) : pm_C l Γ zX9_wordsOwn (d + 3) [.ref a0, .int a1, .int a2] m (X9_wordsOwn a0 a1 a2 m) := by
  refine pm_enter (ls := [.ref a0, .int a1, .int a2, pmU, pmU]) hfl (by decide +kernel) rfl (Nat.le_of_ble_eq_true rfl) rfl (Nat.le_of_ble_eq_true rfl) ?_
  unfold X9_wordsOwn
  refine pm_aload_n dX9_wordsOwn_0 rfl rfl ?_
  refine pm_rcv (fun hb9 hc9 => ?_)
  refine pm_kV (d := d + 2) rfl (pm_V (y := zX9_wordsOwn) (z := zX9_blanks) (As := []) zkX9_blanks pm_q9 (by decide) tw_1556 tw_1558 tw_101 dX9_wordsOwn_1 rfl rfl (Nat.le_of_ble_eq_true rfl) hb9 hc9) (kcX9_blanks (d := d + 1) hfl a0 m) (fun m1 => ?_)
  refine pm_aload_n dX9_wordsOwn_4 rfl rfl ?_
  refine fg_9_4 (y := zX9_wordsOwn) (Or.inl tw_1370) dX9_wordsOwn_5 (fun x2 => ?_)
  refine pm_istore_n (ls2 := [.ref a0, .int a1, .int a2, .int x2, pmU]) dX9_wordsOwn_8 rfl rfl (Nat.le_of_ble_eq_true rfl) rfl ?_
  refine pm_aload_n dX9_wordsOwn_9 rfl rfl ?_
  refine pm_iconst (v := 0) dX9_wordsOwn_10 ki_0 ?_
  refine pm_bipush (v := 15) dX9_wordsOwn_11 kb_15 ?_
  refine pm_rcv (fun hb9 hc9 => ?_)
  refine pm_kI (d := d + 2) rfl (pm_V (y := zX9_wordsOwn) (z := zX9_number) (As := [.int 0, .int 15]) zkX9_number pm_q9 (by decide) tw_1602 tw_1604 tw_111 dX9_wordsOwn_13 rfl rfl (Nat.le_of_ble_eq_true rfl) hb9 hc9) (kcX9_number (d := d + 0) hfl a0 0 15 m1) (fun x4 m3 => ?_)
  refine pm_istore (ls2 := [.ref a0, .int a1, .int a2, .int x2, .int x4]) dX9_wordsOwn_16 rfl (Nat.le_of_ble_eq_true rfl) rfl ?_
  refine pm_aload_n dX9_wordsOwn_18 rfl rfl ?_
  refine fg_9_5 (y := zX9_wordsOwn) (Or.inl tw_1371) dX9_wordsOwn_19 (fun x5 => ?_)
  refine pm_if_ne (tgt := 36) dX9_wordsOwn_22 rfl ?_ ?_
  · refine pm_drop (ls2 := [pmU, pmU, pmU, pmU, .int x4]) (Nat.le_refl _) (pm_le_spec (pm_le_u (pm_le_u (pm_le_u (pm_le_u (pm_le_v (pm_le_n))))))) ?_
    exact gX9_wordsOwn_j36 hfl x4 m3
  · refine pm_iload_n dX9_wordsOwn_25 rfl rfl ?_
    refine pm_iload_n dX9_wordsOwn_26 rfl rfl ?_
    refine pm_icmp_ne (tgt := 36) dX9_wordsOwn_27 rfl ?_ ?_
    · refine pm_drop (ls2 := [pmU, pmU, pmU, pmU, .int x4]) (Nat.le_refl _) (pm_le_spec (pm_le_u (pm_le_u (pm_le_u (pm_le_u (pm_le_v (pm_le_n))))))) ?_
      exact gX9_wordsOwn_j36 hfl x4 m3
    · refine pm_aload_n dX9_wordsOwn_30 rfl rfl ?_
      refine pm_iconst (v := 3) dX9_wordsOwn_31 ki_3 ?_
      refine pm_iload_n dX9_wordsOwn_32 rfl rfl ?_
      refine pm_rcv (fun hb9 hc9 => ?_)
      refine pm_kV (d := d + 2) rfl (pm_V (y := zX9_wordsOwn) (z := zX9_wrong) (As := [.int 3, .int x2]) zkX9_wrong pm_q9 (by decide) tw_1586 tw_1588 tw_107 dX9_wordsOwn_33 rfl rfl (Nat.le_of_ble_eq_true rfl) hb9 hc9) (kcX9_wrong (d := d + 2) hfl a0 3 x2 m3) (fun m6 => ?_)
      refine pm_drop (ls2 := [pmU, pmU, pmU, pmU, .int x4]) (Nat.le_refl _) (pm_le_spec (pm_le_u (pm_le_u (pm_le_u (pm_le_u (pm_le_v (pm_le_n))))))) ?_
      exact gX9_wordsOwn_j36 hfl x4 m6
-- StruckPageModel.lineOfPage()V
def X9_lineOfPage_L2 (l0 : Nat) (again2 : (Int32 × pmM) → pmR) (s2 : Int32 × pmM) : pmR := pm_rc 9 l0 s2.2 <| pm_cI (X9_wordsOwn l0 s2.1 8 s2.2) fun x2 m1 => pm_gI 9 l0 5 m1 fun x3 => if x3 = 0 then (pm_gR 9 l0 17 m1 fun r4 => pm_gI 9 l0 11 m1 fun x5 => pm_ldR 103 r4 x5 m1 fun r6 => pm_st 100 r6 s2.1 x2 m1 fun m7 => pm_bI (s2.1 + 1) fun x8 => pm_rc 9 l0 m7 <| pm_cV (X9_blanks l0 m7) fun m9 => pm_gI 9 l0 4 m9 fun x10 => pm_rc 9 l0 m9 <| pm_cI (X9_byteAt l0 x10 m9) fun x12 m11 => pm_cI (X9_in x12 48 57 m11) fun x14 m13 => if x14 = 0 then (pm_gR 9 l0 15 m13 fun r15 => pm_gI 9 l0 11 m13 fun x16 => pm_st 100 r15 x16 x8 m13 fun m17 => pm_oV m17) else (again2 (x8, m13))) else (pm_oV m1)
def X9_lineOfPage (a0 : Nat) (m : pmM) : pmR := pm_lp pm_N (X9_lineOfPage_L2 a0) (0, m)
set_option maxRecDepth 100000 in
set_option maxHeartbeats 4000000 in
theorem gX9_lineOfPage_L2 (hfl : l.flags = flags0) (l0 : Nat) : ∀ (n : Nat) (s : Int32 × pmM), pm_G l Γ zX9_lineOfPage (d + 4) 2 [.ref l0, .int s.1, pmU] [] s.2 (pm_lp n (X9_lineOfPage_L2 l0) s) :=
  pm_loop (lsf := fun s : Int32 × pmM => [.ref l0, .int s.1, pmU]) (mf := fun s : Int32 × pmM => s.2) (fun again2 hag2 s2 => by
    unfold X9_lineOfPage_L2
    refine pm_aload_n dX9_lineOfPage_2 rfl rfl ?_
    refine pm_iload_n dX9_lineOfPage_3 rfl rfl ?_
    refine pm_bipush (v := 8) dX9_lineOfPage_4 kb_8 ?_
    refine pm_rcv (fun hb9 hc9 => ?_)
    refine pm_kI (d := d + 3) rfl (pm_V (y := zX9_lineOfPage) (z := zX9_wordsOwn) (As := [.int s2.1, .int 8]) zkX9_wordsOwn pm_q9 (by decide) tw_1598 tw_1600 tw_110 dX9_lineOfPage_6 rfl rfl (Nat.le_of_ble_eq_true rfl) hb9 hc9) (kcX9_wordsOwn (d := d + 0) hfl l0 s2.1 8 s2.2) (fun x2 m1 => ?_)
    refine pm_istore_n (ls2 := [.ref l0, .int s2.1, .int x2]) dX9_lineOfPage_9 rfl rfl (Nat.le_of_ble_eq_true rfl) rfl ?_
    refine pm_aload_n dX9_lineOfPage_10 rfl rfl ?_
    refine fg_9_5 (y := zX9_lineOfPage) (Or.inl tw_1371) dX9_lineOfPage_11 (fun x3 => ?_)
    refine pm_if_eq (tgt := 18) dX9_lineOfPage_14 rfl ?_ ?_
    · refine pm_aload_n dX9_lineOfPage_18 rfl rfl ?_
      refine fg_9_17 (y := zX9_lineOfPage) (Or.inl tw_1383) dX9_lineOfPage_19 (fun r4 => ?_)
      refine pm_aload_n dX9_lineOfPage_22 rfl rfl ?_
      refine fg_9_11 (y := zX9_lineOfPage) (Or.inl tw_1377) dX9_lineOfPage_23 (fun x5 => ?_)
      refine pm_aaldI (y := zX9_lineOfPage) dX9_lineOfPage_26 (fun r6 => ?_)
      refine pm_iload_n dX9_lineOfPage_27 rfl rfl ?_
      refine pm_iload_n dX9_lineOfPage_28 rfl rfl ?_
      refine pm_iast (y := zX9_lineOfPage) dX9_lineOfPage_29 (fun m7 => ?_)
      refine pm_iincn (y := zX9_lineOfPage) dX9_lineOfPage_30 rfl ki_1 rfl (Nat.le_of_ble_eq_true rfl) (fun x8 => ?_)
      refine pm_eqls (ls2 := [.ref l0, .int x8, .int x2]) rfl ?_
      refine pm_aload_n dX9_lineOfPage_33 rfl rfl ?_
      refine pm_rcv (fun hb9 hc9 => ?_)
      refine pm_kV (d := d + 3) rfl (pm_V (y := zX9_lineOfPage) (z := zX9_blanks) (As := []) zkX9_blanks pm_q9 (by decide) tw_1556 tw_1558 tw_101 dX9_lineOfPage_34 rfl rfl (Nat.le_of_ble_eq_true rfl) hb9 hc9) (kcX9_blanks (d := d + 2) hfl l0 m7) (fun m9 => ?_)
      refine pm_aload_n dX9_lineOfPage_37 rfl rfl ?_
      refine pm_aload_n dX9_lineOfPage_38 rfl rfl ?_
      refine fg_9_4 (y := zX9_lineOfPage) (Or.inl tw_1370) dX9_lineOfPage_39 (fun x10 => ?_)
      refine pm_rcv (fun hb9 hc9 => ?_)
      refine pm_kI (d := d + 3) rfl (pm_V (y := zX9_lineOfPage) (z := zX9_byteAt) (As := [.int x10]) zkX9_byteAt pm_q9 (by decide) tw_1560 tw_1562 tw_102 dX9_lineOfPage_42 rfl rfl (Nat.le_of_ble_eq_true rfl) hb9 hc9) (kcX9_byteAt (d := d + 3) hfl l0 x10 m9) (fun x12 m11 => ?_)
      refine pm_bipush (v := 48) dX9_lineOfPage_45 kb_48 ?_
      refine pm_bipush (v := 57) dX9_lineOfPage_47 kb_57 ?_
      refine pm_kI (d := d + 3) rfl (pm_S (y := zX9_lineOfPage) (z := zX9_in) (As := [.int x12, .int 48, .int 57]) zkX9_in tw_1545 tw_1546 dX9_lineOfPage_49 rfl rfl (Nat.le_of_ble_eq_true rfl)) (kcX9_in (d := d + 3) hfl x12 48 57 m11) (fun x14 m13 => ?_)
      refine pm_if_ne (tgt := 2) dX9_lineOfPage_52 rfl ?_ ?_
      · refine pm_drop (ls2 := [.ref l0, .int x8, pmU]) (Nat.le_refl _) (pm_le_spec (pm_le_v (pm_le_v (pm_le_u (pm_le_n))))) ?_
        exact hag2 (x8, m13)
      · refine pm_aload_n dX9_lineOfPage_55 rfl rfl ?_
        refine fg_9_15 (y := zX9_lineOfPage) (Or.inl tw_1381) dX9_lineOfPage_56 (fun r15 => ?_)
        refine pm_aload_n dX9_lineOfPage_59 rfl rfl ?_
        refine fg_9_11 (y := zX9_lineOfPage) (Or.inl tw_1377) dX9_lineOfPage_60 (fun x16 => ?_)
        refine pm_iload_n dX9_lineOfPage_63 rfl rfl ?_
        refine pm_iast (y := zX9_lineOfPage) dX9_lineOfPage_64 (fun m17 => ?_)
        exact pm_vret rfl dX9_lineOfPage_65
    · exact pm_vret rfl dX9_lineOfPage_17)
set_option maxRecDepth 100000 in
set_option maxHeartbeats 4000000 in
theorem kcX9_lineOfPage (hfl : l.flags = flags0) (a0 : Nat) (m : pmM) : pm_C l Γ zX9_lineOfPage (d + 4) [.ref a0] m (X9_lineOfPage a0 m) := by
  refine pm_enter (ls := [.ref a0, pmU, pmU]) hfl (by decide +kernel) rfl (Nat.le_of_ble_eq_true rfl) rfl (Nat.le_of_ble_eq_true rfl) ?_
  unfold X9_lineOfPage
  refine pm_iconst (v := 0) dX9_lineOfPage_0 ki_0 ?_
  refine pm_istore_n (ls2 := [.ref a0, .int 0, pmU]) dX9_lineOfPage_1 rfl rfl (Nat.le_of_ble_eq_true rfl) rfl ?_
  exact gX9_lineOfPage_L2 hfl a0 pm_N (0, m)
-- StruckPageModel.clause()V
def X9_clause_j165 (m : pmM) : pmR := pm_oV m
def X9_clause_j161 (t0 : Int32) (t1 : Int32) (t2 : Nat) (m : pmM) : pmR := pm_pI 9 t2 11 (t1 + t0) m fun m13 => X9_clause_j165 m13
def X9_clause_j134 (l0 : Nat) (l1 : Int32) (m : pmM) : pmR := pm_rc 9 l0 m <| pm_cV (X9_sign l0 59 m) fun m10 => if l1 = 0 then (pm_gI 9 l0 11 m10 fun x11 => pm_gI 9 l0 5 m10 fun x12 => if x12 = 0 then (X9_clause_j161 1 x11 l0 m10) else (X9_clause_j161 0 x11 l0 m10)) else (X9_clause_j165 m10)
def X9_clause_j117 (l0 : Nat) (l1 : Int32) (m : pmM) : pmR := if l1 = 2 then (pm_rc 9 l0 m <| pm_cI (X9_number l0 0 200 m) fun x15 m14 => pm_pI 9 l0 12 x15 m14 fun m16 => X9_clause_j134 l0 l1 m16) else (X9_clause_j134 l0 l1 m)
def X9_clause_j83 (l0 : Nat) (l1 : Int32) (m : pmM) : pmR := if l1 = 1 then (pm_rc 9 l0 m <| pm_cI (X9_number l0 0 3 m) fun x18 m17 => pm_rc 9 l0 m17 <| pm_cI (X9_number l0 0 99 m17) fun x20 m19 => pm_gI 9 l0 5 m19 fun x21 => if x21 = 0 then (pm_gR 9 l0 14 m19 fun r22 => pm_st 100 r22 x18 x20 m19 fun m23 => X9_clause_j117 l0 l1 m23) else (X9_clause_j117 l0 l1 m19)) else (X9_clause_j117 l0 l1 m)
def X9_clause_j53 (l0 : Nat) (l1 : Int32) (m : pmM) : pmR := pm_gI 9 l0 5 m fun x6 => if x6 = 0 then (pm_rc 9 l0 m <| pm_cV (X9_skipWord l0 m) fun m7 => pm_gI 9 l0 7 m7 fun x8 => pm_pI 9 l0 7 (x8 + 1) m7 fun m9 => if l1 = 0 then (pm_rc 9 l0 m9 <| pm_cV (X9_lineOfPage l0 m9) fun m24 => X9_clause_j83 l0 l1 m24) else (X9_clause_j83 l0 l1 m9)) else (pm_oV m)
def X9_clause_j44 (l0 : Nat) (l1 : Int32) (m : pmM) : pmR := pm_gI 9 l0 4 m fun x4 => pm_rc 9 l0 m <| pm_cV (X9_wrong l0 3 x4 m) fun m5 => X9_clause_j53 l0 l1 m5
def X9_clause (a0 : Nat) (m : pmM) : pmR := pm_rc 9 a0 m <| pm_cI (X9_kindHere a0 m) fun x2 m1 => if x2 = (-1) then (pm_gI 9 a0 4 m1 fun x26 => pm_rc 9 a0 m1 <| pm_cV (X9_wrong a0 1 x26 m1) fun m27 => X9_clause_j53 a0 x2 m27) else (pm_gI 9 a0 7 m1 fun x3 => if x3 = 60 then (X9_clause_j44 a0 x2 m1) else (if x2 = 0 then (pm_gI 9 a0 11 m1 fun x25 => if x25 = 6 then (X9_clause_j44 a0 x2 m1) else (X9_clause_j53 a0 x2 m1)) else (X9_clause_j53 a0 x2 m1)))
set_option maxRecDepth 100000 in
set_option maxHeartbeats 4000000 in
theorem gX9_clause_j165 (hfl : l.flags = flags0) (m : pmM) : pm_G l Γ zX9_clause (d + 5) 165 [pmU, pmU, pmU, pmU] [] m (X9_clause_j165 m) := by
  unfold X9_clause_j165
  exact pm_vret rfl dX9_clause_165
set_option maxRecDepth 100000 in
set_option maxHeartbeats 4000000 in
theorem gX9_clause_j161 (hfl : l.flags = flags0) (t0 : Int32) (t1 : Int32) (t2 : Nat) (m : pmM) : pm_G l Γ zX9_clause (d + 5) 161 [pmU, pmU, pmU, pmU] [.int t0, .int t1, .ref t2] m (X9_clause_j161 t0 t1 t2 m) := by
  unfold X9_clause_j161
  refine pm_iadd dX9_clause_161 ?_
  refine fp_9_11 (y := zX9_clause) (Or.inl tw_1377) dX9_clause_162 (fun m13 => ?_)
  exact gX9_clause_j165 hfl m13
set_option maxRecDepth 100000 in
set_option maxHeartbeats 4000000 in
theorem gX9_clause_j134 (hfl : l.flags = flags0) (l0 : Nat) (l1 : Int32) (m : pmM) : pm_G l Γ zX9_clause (d + 5) 134 [.ref l0, .int l1, pmU, pmU] [] m (X9_clause_j134 l0 l1 m) := by
  unfold X9_clause_j134
  refine pm_aload_n dX9_clause_134 rfl rfl ?_
  refine pm_bipush (v := 59) dX9_clause_135 kb_59 ?_
  refine pm_rcv (fun hb9 hc9 => ?_)
  refine pm_kV (d := d + 4) rfl (pm_V (y := zX9_clause) (z := zX9_sign) (As := [.int 59]) zkX9_sign pm_q9 (by decide) tw_1610 tw_1612 tw_112 dX9_clause_137 rfl rfl (Nat.le_of_ble_eq_true rfl) hb9 hc9) (kcX9_sign (d := d + 2) hfl l0 59 m) (fun m10 => ?_)
  refine pm_iload_n dX9_clause_140 rfl rfl ?_
  refine pm_if_ne (tgt := 165) dX9_clause_141 rfl ?_ ?_
  · refine pm_drop (ls2 := [pmU, pmU, pmU, pmU]) (Nat.le_refl _) (pm_le_spec (pm_le_u (pm_le_u (pm_le_u (pm_le_u (pm_le_n)))))) ?_
    exact gX9_clause_j165 hfl m10
  · refine pm_aload_n dX9_clause_144 rfl rfl ?_
    refine pm_dup dX9_clause_145 rfl ?_
    refine fg_9_11 (y := zX9_clause) (Or.inl tw_1377) dX9_clause_146 (fun x11 => ?_)
    refine pm_aload_n dX9_clause_149 rfl rfl ?_
    refine fg_9_5 (y := zX9_clause) (Or.inl tw_1371) dX9_clause_150 (fun x12 => ?_)
    refine pm_if_ne (tgt := 160) dX9_clause_153 rfl ?_ ?_
    · refine pm_iconst (v := 0) dX9_clause_160 ki_0 ?_
      refine pm_drop (ls2 := [pmU, pmU, pmU, pmU]) (Nat.le_refl _) (pm_le_spec (pm_le_u (pm_le_u (pm_le_u (pm_le_u (pm_le_n)))))) ?_
      exact gX9_clause_j161 hfl 0 x11 l0 m10
    · refine pm_iconst (v := 1) dX9_clause_156 ki_1 ?_
      refine pm_goto (tgt := 161) dX9_clause_157 rfl ?_
      refine pm_drop (ls2 := [pmU, pmU, pmU, pmU]) (Nat.le_refl _) (pm_le_spec (pm_le_u (pm_le_u (pm_le_u (pm_le_u (pm_le_n)))))) ?_
      exact gX9_clause_j161 hfl 1 x11 l0 m10
set_option maxRecDepth 100000 in
set_option maxHeartbeats 4000000 in
theorem gX9_clause_j117 (hfl : l.flags = flags0) (l0 : Nat) (l1 : Int32) (m : pmM) : pm_G l Γ zX9_clause (d + 5) 117 [.ref l0, .int l1, pmU, pmU] [] m (X9_clause_j117 l0 l1 m) := by
  unfold X9_clause_j117
  refine pm_iload_n dX9_clause_117 rfl rfl ?_
  refine pm_iconst (v := 2) dX9_clause_118 ki_2 ?_
  refine pm_icmp_ne (tgt := 134) dX9_clause_119 rfl ?_ ?_
  · exact gX9_clause_j134 hfl l0 l1 m
  · refine pm_aload_n dX9_clause_122 rfl rfl ?_
    refine pm_aload_n dX9_clause_123 rfl rfl ?_
    refine pm_iconst (v := 0) dX9_clause_124 ki_0 ?_
    refine pm_sipush (v := 200) dX9_clause_125 ks_200 ?_
    refine pm_rcv (fun hb9 hc9 => ?_)
    refine pm_kI (d := d + 4) rfl (pm_V (y := zX9_clause) (z := zX9_number) (As := [.int 0, .int 200]) zkX9_number pm_q9 (by decide) tw_1602 tw_1604 tw_111 dX9_clause_128 rfl rfl (Nat.le_of_ble_eq_true rfl) hb9 hc9) (kcX9_number (d := d + 2) hfl l0 0 200 m) (fun x15 m14 => ?_)
    refine fp_9_12 (y := zX9_clause) (Or.inl tw_1378) dX9_clause_131 (fun m16 => ?_)
    exact gX9_clause_j134 hfl l0 l1 m16
set_option maxRecDepth 100000 in
set_option maxHeartbeats 4000000 in
theorem gX9_clause_j83 (hfl : l.flags = flags0) (l0 : Nat) (l1 : Int32) (m : pmM) : pm_G l Γ zX9_clause (d + 5) 83 [.ref l0, .int l1, pmU, pmU] [] m (X9_clause_j83 l0 l1 m) := by
  unfold X9_clause_j83
  refine pm_iload_n dX9_clause_83 rfl rfl ?_
  refine pm_iconst (v := 1) dX9_clause_84 ki_1 ?_
  refine pm_icmp_ne (tgt := 117) dX9_clause_85 rfl ?_ ?_
  · exact gX9_clause_j117 hfl l0 l1 m
  · refine pm_aload_n dX9_clause_88 rfl rfl ?_
    refine pm_iconst (v := 0) dX9_clause_89 ki_0 ?_
    refine pm_iconst (v := 3) dX9_clause_90 ki_3 ?_
    refine pm_rcv (fun hb9 hc9 => ?_)
    refine pm_kI (d := d + 4) rfl (pm_V (y := zX9_clause) (z := zX9_number) (As := [.int 0, .int 3]) zkX9_number pm_q9 (by decide) tw_1602 tw_1604 tw_111 dX9_clause_91 rfl rfl (Nat.le_of_ble_eq_true rfl) hb9 hc9) (kcX9_number (d := d + 2) hfl l0 0 3 m) (fun x18 m17 => ?_)
    refine pm_istore_n (ls2 := [.ref l0, .int l1, .int x18, pmU]) dX9_clause_94 rfl rfl (Nat.le_of_ble_eq_true rfl) rfl ?_
    refine pm_aload_n dX9_clause_95 rfl rfl ?_
    refine pm_iconst (v := 0) dX9_clause_96 ki_0 ?_
    refine pm_bipush (v := 99) dX9_clause_97 kb_99 ?_
    refine pm_rcv (fun hb9 hc9 => ?_)
    refine pm_kI (d := d + 4) rfl (pm_V (y := zX9_clause) (z := zX9_number) (As := [.int 0, .int 99]) zkX9_number pm_q9 (by decide) tw_1602 tw_1604 tw_111 dX9_clause_99 rfl rfl (Nat.le_of_ble_eq_true rfl) hb9 hc9) (kcX9_number (d := d + 2) hfl l0 0 99 m17) (fun x20 m19 => ?_)
    refine pm_istore_n (ls2 := [.ref l0, .int l1, .int x18, .int x20]) dX9_clause_102 rfl rfl (Nat.le_of_ble_eq_true rfl) rfl ?_
    refine pm_aload_n dX9_clause_103 rfl rfl ?_
    refine fg_9_5 (y := zX9_clause) (Or.inl tw_1371) dX9_clause_104 (fun x21 => ?_)
    refine pm_if_ne (tgt := 117) dX9_clause_107 rfl ?_ ?_
    · refine pm_drop (ls2 := [.ref l0, .int l1, pmU, pmU]) (Nat.le_refl _) (pm_le_spec (pm_le_v (pm_le_v (pm_le_u (pm_le_u (pm_le_n)))))) ?_
      exact gX9_clause_j117 hfl l0 l1 m19
    · refine pm_aload_n dX9_clause_110 rfl rfl ?_
      refine fg_9_14 (y := zX9_clause) (Or.inl tw_1380) dX9_clause_111 (fun r22 => ?_)
      refine pm_iload_n dX9_clause_114 rfl rfl ?_
      refine pm_iload_n dX9_clause_115 rfl rfl ?_
      refine pm_iast (y := zX9_clause) dX9_clause_116 (fun m23 => ?_)
      refine pm_drop (ls2 := [.ref l0, .int l1, pmU, pmU]) (Nat.le_refl _) (pm_le_spec (pm_le_v (pm_le_v (pm_le_u (pm_le_u (pm_le_n)))))) ?_
      exact gX9_clause_j117 hfl l0 l1 m23
set_option maxRecDepth 100000 in
set_option maxHeartbeats 4000000 in
theorem gX9_clause_j53 (hfl : l.flags = flags0) (l0 : Nat) (l1 : Int32) (m : pmM) : pm_G l Γ zX9_clause (d + 5) 53 [.ref l0, .int l1, pmU, pmU] [] m (X9_clause_j53 l0 l1 m) := by
  unfold X9_clause_j53
  refine pm_aload_n dX9_clause_53 rfl rfl ?_
  refine fg_9_5 (y := zX9_clause) (Or.inl tw_1371) dX9_clause_54 (fun x6 => ?_)
  refine pm_if_eq (tgt := 61) dX9_clause_57 rfl ?_ ?_
  · refine pm_aload_n dX9_clause_61 rfl rfl ?_
    refine pm_rcv (fun hb9 hc9 => ?_)
    refine pm_kV (d := d + 4) rfl (pm_V (y := zX9_clause) (z := zX9_skipWord) (As := []) zkX9_skipWord pm_q9 (by decide) tw_1590 tw_1592 tw_108 dX9_clause_62 rfl rfl (Nat.le_of_ble_eq_true rfl) hb9 hc9) (kcX9_skipWord (d := d + 3) hfl l0 m) (fun m7 => ?_)
    refine pm_aload_n dX9_clause_65 rfl rfl ?_
    refine pm_dup dX9_clause_66 rfl ?_
    refine fg_9_7 (y := zX9_clause) (Or.inl tw_1373) dX9_clause_67 (fun x8 => ?_)
    refine pm_iconst (v := 1) dX9_clause_70 ki_1 ?_
    refine pm_iadd dX9_clause_71 ?_
    refine fp_9_7 (y := zX9_clause) (Or.inl tw_1373) dX9_clause_72 (fun m9 => ?_)
    refine pm_iload_n dX9_clause_75 rfl rfl ?_
    refine pm_if_ne (tgt := 83) dX9_clause_76 rfl ?_ ?_
    · exact gX9_clause_j83 hfl l0 l1 m9
    · refine pm_aload_n dX9_clause_79 rfl rfl ?_
      refine pm_rcv (fun hb9 hc9 => ?_)
      refine pm_kV (d := d + 4) rfl (pm_V (y := zX9_clause) (z := zX9_lineOfPage) (As := []) zkX9_lineOfPage pm_q9 (by decide) tw_1594 tw_1596 tw_109 dX9_clause_80 rfl rfl (Nat.le_of_ble_eq_true rfl) hb9 hc9) (kcX9_lineOfPage (d := d + 0) hfl l0 m9) (fun m24 => ?_)
      exact gX9_clause_j83 hfl l0 l1 m24
  · exact pm_vret rfl dX9_clause_60
set_option maxRecDepth 100000 in
set_option maxHeartbeats 4000000 in
theorem gX9_clause_j44 (hfl : l.flags = flags0) (l0 : Nat) (l1 : Int32) (m : pmM) : pm_G l Γ zX9_clause (d + 5) 44 [.ref l0, .int l1, pmU, pmU] [] m (X9_clause_j44 l0 l1 m) := by
  unfold X9_clause_j44
  refine pm_aload_n dX9_clause_44 rfl rfl ?_
  refine pm_iconst (v := 3) dX9_clause_45 ki_3 ?_
  refine pm_aload_n dX9_clause_46 rfl rfl ?_
  refine fg_9_4 (y := zX9_clause) (Or.inl tw_1370) dX9_clause_47 (fun x4 => ?_)
  refine pm_rcv (fun hb9 hc9 => ?_)
  refine pm_kV (d := d + 4) rfl (pm_V (y := zX9_clause) (z := zX9_wrong) (As := [.int 3, .int x4]) zkX9_wrong pm_q9 (by decide) tw_1586 tw_1588 tw_107 dX9_clause_50 rfl rfl (Nat.le_of_ble_eq_true rfl) hb9 hc9) (kcX9_wrong (d := d + 4) hfl l0 3 x4 m) (fun m5 => ?_)
  exact gX9_clause_j53 hfl l0 l1 m5
set_option maxRecDepth 100000 in
set_option maxHeartbeats 4000000 in
theorem kcX9_clause (hfl : l.flags = flags0) (a0 : Nat) (m : pmM) : pm_C l Γ zX9_clause (d + 5) [.ref a0] m (X9_clause a0 m) := by
  refine pm_enter (ls := [.ref a0, pmU, pmU, pmU]) hfl (by decide +kernel) rfl (Nat.le_of_ble_eq_true rfl) rfl (Nat.le_of_ble_eq_true rfl) ?_
  unfold X9_clause
  refine pm_aload_n dX9_clause_0 rfl rfl ?_
  refine pm_rcv (fun hb9 hc9 => ?_)
  refine pm_kI (d := d + 4) rfl (pm_V (y := zX9_clause) (z := zX9_kindHere) (As := []) zkX9_kindHere pm_q9 (by decide) tw_1568 tw_1570 tw_104 dX9_clause_1 rfl rfl (Nat.le_of_ble_eq_true rfl) hb9 hc9) (kcX9_kindHere (d := d + 0) hfl a0 m) (fun x2 m1 => ?_)
  refine pm_istore_n (ls2 := [.ref a0, .int x2, pmU, pmU]) dX9_clause_4 rfl rfl (Nat.le_of_ble_eq_true rfl) rfl ?_
  refine pm_iload_n dX9_clause_5 rfl rfl ?_
  refine pm_iconst (v := (-1)) dX9_clause_6 ki_n1 ?_
  refine pm_icmp_ne (tgt := 22) dX9_clause_7 rfl ?_ ?_
  · refine pm_aload_n dX9_clause_22 rfl rfl ?_
    refine fg_9_7 (y := zX9_clause) (Or.inl tw_1373) dX9_clause_23 (fun x3 => ?_)
    refine pm_bipush (v := 60) dX9_clause_26 kb_60 ?_
    refine pm_icmp_eq (tgt := 44) dX9_clause_28 rfl ?_ ?_
    · exact gX9_clause_j44 hfl a0 x2 m1
    · refine pm_iload_n dX9_clause_31 rfl rfl ?_
      refine pm_if_ne (tgt := 53) dX9_clause_32 rfl ?_ ?_
      · exact gX9_clause_j53 hfl a0 x2 m1
      · refine pm_aload_n dX9_clause_35 rfl rfl ?_
        refine fg_9_11 (y := zX9_clause) (Or.inl tw_1377) dX9_clause_36 (fun x25 => ?_)
        refine pm_bipush (v := 6) dX9_clause_39 kb_6 ?_
        refine pm_icmp_ne (tgt := 53) dX9_clause_41 rfl ?_ ?_
        · exact gX9_clause_j53 hfl a0 x2 m1
        · exact gX9_clause_j44 hfl a0 x2 m1
  · refine pm_aload_n dX9_clause_10 rfl rfl ?_
    refine pm_iconst (v := 1) dX9_clause_11 ki_1 ?_
    refine pm_aload_n dX9_clause_12 rfl rfl ?_
    refine fg_9_4 (y := zX9_clause) (Or.inl tw_1370) dX9_clause_13 (fun x26 => ?_)
    refine pm_rcv (fun hb9 hc9 => ?_)
    refine pm_kV (d := d + 4) rfl (pm_V (y := zX9_clause) (z := zX9_wrong) (As := [.int 1, .int x26]) zkX9_wrong pm_q9 (by decide) tw_1586 tw_1588 tw_107 dX9_clause_16 rfl rfl (Nat.le_of_ble_eq_true rfl) hb9 hc9) (kcX9_wrong (d := d + 4) hfl a0 1 x26 m1) (fun m27 => ?_)
    refine pm_goto (tgt := 53) dX9_clause_19 rfl ?_
    exact gX9_clause_j53 hfl a0 x2 m27
-- StruckPageModel.wordsOfAll()I
def X9_wordsOfAll_L4 (l0 : Nat) (again4 : (Int32 × Int32 × pmM) → pmR) (s4 : Int32 × Int32 × pmM) : pmR := pm_gI 9 l0 13 s4.2.2 fun x1 => if x1 ≤ s4.2.1 then (pm_oI s4.1 s4.2.2) else (pm_gR 9 l0 16 s4.2.2 fun r2 => pm_ld 100 r2 s4.2.1 s4.2.2 fun x3 => pm_bI (s4.1 + x3) fun x4 => pm_bI (s4.2.1 + 1) fun x5 => again4 (x4, x5, s4.2.2))
def X9_wordsOfAll (a0 : Nat) (m : pmM) : pmR := pm_lp pm_N (X9_wordsOfAll_L4 a0) (0, 0, m)
set_option maxRecDepth 100000 in
set_option maxHeartbeats 4000000 in
theorem gX9_wordsOfAll_L4 (hfl : l.flags = flags0) (l0 : Nat) : ∀ (n : Nat) (s : Int32 × Int32 × pmM), pm_G l Γ zX9_wordsOfAll (d + 0) 4 [.ref l0, .int s.1, .int s.2.1] [] s.2.2 (pm_lp n (X9_wordsOfAll_L4 l0) s) :=
  pm_loop (lsf := fun s : Int32 × Int32 × pmM => [.ref l0, .int s.1, .int s.2.1]) (mf := fun s : Int32 × Int32 × pmM => s.2.2) (fun again4 hag4 s4 => by
    unfold X9_wordsOfAll_L4
    refine pm_iload_n dX9_wordsOfAll_4 rfl rfl ?_
    refine pm_aload_n dX9_wordsOfAll_5 rfl rfl ?_
    refine fg_9_13 (y := zX9_wordsOfAll) (Or.inl tw_1379) dX9_wordsOfAll_6 (fun x1 => ?_)
    refine pm_icmp_ge (tgt := 27) dX9_wordsOfAll_9 rfl ?_ ?_
    · refine pm_iload_n dX9_wordsOfAll_27 rfl rfl ?_
      exact pm_iret rfl dX9_wordsOfAll_28
    · refine pm_iload_n dX9_wordsOfAll_12 rfl rfl ?_
      refine pm_aload_n dX9_wordsOfAll_13 rfl rfl ?_
      refine fg_9_16 (y := zX9_wordsOfAll) (Or.inl tw_1382) dX9_wordsOfAll_14 (fun r2 => ?_)
      refine pm_iload_n dX9_wordsOfAll_17 rfl rfl ?_
      refine pm_iald (y := zX9_wordsOfAll) dX9_wordsOfAll_18 (fun x3 => ?_)
      refine pm_iadd dX9_wordsOfAll_19 ?_
      refine pm_bIn (fun x4 => ?_)
      refine pm_istore_n (ls2 := [.ref l0, .int x4, .int s4.2.1]) dX9_wordsOfAll_20 rfl rfl (Nat.le_of_ble_eq_true rfl) rfl ?_
      refine pm_iincn (y := zX9_wordsOfAll) dX9_wordsOfAll_21 rfl ki_1 rfl (Nat.le_of_ble_eq_true rfl) (fun x5 => ?_)
      refine pm_eqls (ls2 := [.ref l0, .int x4, .int x5]) rfl ?_
      refine pm_goto (tgt := 4) dX9_wordsOfAll_24 rfl ?_
      exact hag4 (x4, x5, s4.2.2))
set_option maxRecDepth 100000 in
set_option maxHeartbeats 4000000 in
theorem kcX9_wordsOfAll (hfl : l.flags = flags0) (a0 : Nat) (m : pmM) : pm_C l Γ zX9_wordsOfAll (d + 0) [.ref a0] m (X9_wordsOfAll a0 m) := by
  refine pm_enter (ls := [.ref a0, pmU, pmU]) hfl (by decide +kernel) rfl (Nat.le_of_ble_eq_true rfl) rfl (Nat.le_of_ble_eq_true rfl) ?_
  unfold X9_wordsOfAll
  refine pm_iconst (v := 0) dX9_wordsOfAll_0 ki_0 ?_
  refine pm_istore_n (ls2 := [.ref a0, .int 0, pmU]) dX9_wordsOfAll_1 rfl rfl (Nat.le_of_ble_eq_true rfl) rfl ?_
  refine pm_iconst (v := 0) dX9_wordsOfAll_2 ki_0 ?_
  refine pm_istore_n (ls2 := [.ref a0, .int 0, .int 0]) dX9_wordsOfAll_3 rfl rfl (Nat.le_of_ble_eq_true rfl) rfl ?_
  exact gX9_wordsOfAll_L4 hfl a0 pm_N (0, 0, m)
-- StruckPageModel.page(I)I
def X9_page_j71 (l0 : Nat) (m : pmM) : pmR := pm_gI 9 l0 5 m fun x10 => if x10 = 0 then (pm_pI 9 l0 3 (-1) m fun m11 => pm_rc 9 l0 m11 <| pm_cV (X9_beginsAnew l0 m11) fun m12 => pm_rc 9 l0 m12 <| pm_cI (X9_wordsOfAll l0 m12) fun x14 m13 => pm_oI x14 m13) else (pm_rc 9 l0 m <| pm_cI (X9_faulty l0 m) fun x16 m15 => pm_oI x16 m15)
def X9_page_L42 (l0 : Nat) (again42 : (pmM) → pmR) (s42 : pmM) : pmR := pm_gI 9 l0 5 s42 fun x9 => if x9 = 0 then (pm_gI 9 l0 4 s42 fun x17 => pm_gI 9 l0 2 s42 fun x18 => if x18 ≤ x17 then (X9_page_j71 l0 s42) else (pm_rc 9 l0 s42 <| pm_cV (X9_clause l0 s42) fun m19 => pm_rc 9 l0 m19 <| pm_cV (X9_blanks l0 m19) fun m20 => again42 m20)) else (X9_page_j71 l0 s42)
def X9_page_j23 (l0 : Nat) (l1 : Int32) (t0 : Int32) (t1 : Nat) (m : pmM) : pmR := pm_rc 9 t1 m <| pm_cI (X9_bad t1 t0 1 1 m) fun x6 m5 => if x6 = 0 then (pm_rc 9 l0 m5 <| pm_cV (X9_starts l0 l1 m5) fun m7 => pm_rc 9 l0 m7 <| pm_cV (X9_tellsNothing l0 m7) fun m8 => pm_lp pm_N (X9_page_L42 l0) m8) else (pm_oI 0 m5)
def X9_page (a0 : Nat) (a1 : Int32) (m : pmM) : pmR := pm_pI 9 a0 0 0 m fun m1 => pm_gI 9 a0 1 m1 fun x2 => pm_cI (X9_in a1 0 x2 m1) fun x4 m3 => if x4 = 0 then (X9_page_j23 a0 a1 1 a0 m3) else (X9_page_j23 a0 a1 0 a0 m3)
set_option maxRecDepth 100000 in
set_option maxHeartbeats 4000000 in
theorem gX9_page_j71 (hfl : l.flags = flags0) (l0 : Nat) (m : pmM) : pm_G l Γ zX9_page (d + 6) 71 [.ref l0, pmU] [] m (X9_page_j71 l0 m) := by
  unfold X9_page_j71
  refine pm_aload_n dX9_page_71 rfl rfl ?_
  refine fg_9_5 (y := zX9_page) (Or.inl tw_1371) dX9_page_72 (fun x10 => ?_)
  refine pm_if_eq (tgt := 83) dX9_page_75 rfl ?_ ?_
  · refine pm_aload_n dX9_page_83 rfl rfl ?_
    refine pm_iconst (v := (-1)) dX9_page_84 ki_n1 ?_
    refine fp_9_3 (y := zX9_page) (Or.inl tw_1369) dX9_page_85 (fun m11 => ?_)
    refine pm_aload_n dX9_page_88 rfl rfl ?_
    refine pm_rcv (fun hb9 hc9 => ?_)
    refine pm_kV (d := d + 5) rfl (pm_V (y := zX9_page) (z := zX9_beginsAnew) (As := []) zkX9_beginsAnew pm_q9 (by decide) tw_1359 tw_1361 tw_98 dX9_page_89 rfl rfl (Nat.le_of_ble_eq_true rfl) hb9 hc9) (kcX9_beginsAnew (d := d + 4) hfl l0 m11) (fun m12 => ?_)
    refine pm_aload_n dX9_page_92 rfl rfl ?_
    refine pm_rcv (fun hb9 hc9 => ?_)
    refine pm_kI (d := d + 5) rfl (pm_V (y := zX9_page) (z := zX9_wordsOfAll) (As := []) zkX9_wordsOfAll pm_q9 (by decide) tw_1618 tw_1620 tw_114 dX9_page_93 rfl rfl (Nat.le_of_ble_eq_true rfl) hb9 hc9) (kcX9_wordsOfAll (d := d + 5) hfl l0 m12) (fun x14 m13 => ?_)
    exact pm_iret rfl dX9_page_96
  · refine pm_aload_n dX9_page_78 rfl rfl ?_
    refine pm_rcv (fun hb9 hc9 => ?_)
    refine pm_kI (d := d + 5) rfl (pm_V (y := zX9_page) (z := zX9_faulty) (As := []) zkX9_faulty pm_q9 (by decide) tw_1614 tw_1616 tw_113 dX9_page_79 rfl rfl (Nat.le_of_ble_eq_true rfl) hb9 hc9) (kcX9_faulty (d := d + 5) hfl l0 m) (fun x16 m15 => ?_)
    exact pm_iret rfl dX9_page_82
set_option maxRecDepth 100000 in
set_option maxHeartbeats 4000000 in
theorem gX9_page_L42 (hfl : l.flags = flags0) (l0 : Nat) : ∀ (n : Nat) (s : pmM), pm_G l Γ zX9_page (d + 6) 42 [.ref l0, pmU] [] s (pm_lp n (X9_page_L42 l0) s) :=
  pm_loop (lsf := fun s : pmM => [.ref l0, pmU]) (mf := fun s : pmM => s) (fun again42 hag42 s42 => by
    unfold X9_page_L42
    refine pm_aload_n dX9_page_42 rfl rfl ?_
    refine fg_9_5 (y := zX9_page) (Or.inl tw_1371) dX9_page_43 (fun x9 => ?_)
    refine pm_if_ne (tgt := 71) dX9_page_46 rfl ?_ ?_
    · exact gX9_page_j71 hfl l0 s42
    · refine pm_aload_n dX9_page_49 rfl rfl ?_
      refine fg_9_4 (y := zX9_page) (Or.inl tw_1370) dX9_page_50 (fun x17 => ?_)
      refine pm_aload_n dX9_page_53 rfl rfl ?_
      refine fg_9_2 (y := zX9_page) (Or.inl tw_1368) dX9_page_54 (fun x18 => ?_)
      refine pm_icmp_ge (tgt := 71) dX9_page_57 rfl ?_ ?_
      · exact gX9_page_j71 hfl l0 s42
      · refine pm_aload_n dX9_page_60 rfl rfl ?_
        refine pm_rcv (fun hb9 hc9 => ?_)
        refine pm_kV (d := d + 5) rfl (pm_V (y := zX9_page) (z := zX9_clause) (As := []) zkX9_clause pm_q9 (by decide) tw_1564 tw_1566 tw_103 dX9_page_61 rfl rfl (Nat.le_of_ble_eq_true rfl) hb9 hc9) (kcX9_clause (d := d + 0) hfl l0 s42) (fun m19 => ?_)
        refine pm_aload_n dX9_page_64 rfl rfl ?_
        refine pm_rcv (fun hb9 hc9 => ?_)
        refine pm_kV (d := d + 5) rfl (pm_V (y := zX9_page) (z := zX9_blanks) (As := []) zkX9_blanks pm_q9 (by decide) tw_1556 tw_1558 tw_101 dX9_page_65 rfl rfl (Nat.le_of_ble_eq_true rfl) hb9 hc9) (kcX9_blanks (d := d + 4) hfl l0 m19) (fun m20 => ?_)
        refine pm_goto (tgt := 42) dX9_page_68 rfl ?_
        exact hag42 m20)
set_option maxRecDepth 100000 in
set_option maxHeartbeats 4000000 in
theorem gX9_page_j23 (hfl : l.flags = flags0) (l0 : Nat) (l1 : Int32) (t0 : Int32) (t1 : Nat) (m : pmM) : pm_G l Γ zX9_page (d + 6) 23 [.ref l0, .int l1] [.int t0, .ref t1] m (X9_page_j23 l0 l1 t0 t1 m) := by
  unfold X9_page_j23
  refine pm_iconst (v := 1) dX9_page_23 ki_1 ?_
  refine pm_iconst (v := 1) dX9_page_24 ki_1 ?_
  refine pm_rcv (fun hb9 hc9 => ?_)
  refine pm_kI (d := d + 5) rfl (pm_V (y := zX9_page) (z := zX9_bad) (As := [.int t0, .int 1, .int 1]) zkX9_bad pm_q9 (by decide) tw_1548 tw_1550 tw_99 dX9_page_25 rfl rfl (Nat.le_of_ble_eq_true rfl) hb9 hc9) (kcX9_bad (d := d + 5) hfl t1 t0 1 1 m) (fun x6 m5 => ?_)
  refine pm_if_eq (tgt := 33) dX9_page_28 rfl ?_ ?_
  · refine pm_aload_n dX9_page_33 rfl rfl ?_
    refine pm_iload_n dX9_page_34 rfl rfl ?_
    refine pm_rcv (fun hb9 hc9 => ?_)
    refine pm_kV (d := d + 5) rfl (pm_V (y := zX9_page) (z := zX9_starts) (As := [.int l1]) zkX9_starts pm_q9 (by decide) tw_1552 tw_1554 tw_100 dX9_page_35 rfl rfl (Nat.le_of_ble_eq_true rfl) hb9 hc9) (kcX9_starts (d := d + 3) hfl l0 l1 m5) (fun m7 => ?_)
    refine pm_aload_n dX9_page_38 rfl rfl ?_
    refine pm_rcv (fun hb9 hc9 => ?_)
    refine pm_kV (d := d + 5) rfl (pm_V (y := zX9_page) (z := zX9_tellsNothing) (As := []) zkX9_tellsNothing pm_q9 (by decide) tw_1355 tw_1357 tw_97 dX9_page_39 rfl rfl (Nat.le_of_ble_eq_true rfl) hb9 hc9) (kcX9_tellsNothing (d := d + 5) hfl l0 m7) (fun m8 => ?_)
    refine pm_drop (ls2 := [.ref l0, pmU]) (Nat.le_refl _) (pm_le_spec (pm_le_v (pm_le_u (pm_le_n)))) ?_
    exact gX9_page_L42 hfl l0 pm_N m8
  · refine pm_iconst (v := 0) dX9_page_31 ki_0 ?_
    exact pm_iret rfl dX9_page_32
set_option maxRecDepth 100000 in
set_option maxHeartbeats 4000000 in
theorem kcX9_page (hfl : l.flags = flags0) (a0 : Nat) (a1 : Int32) (m : pmM) : pm_C l Γ zX9_page (d + 6) [.ref a0, .int a1] m (X9_page a0 a1 m) := by
  refine pm_enter (ls := [.ref a0, .int a1]) hfl (by decide +kernel) rfl (Nat.le_of_ble_eq_true rfl) rfl (Nat.le_of_ble_eq_true rfl) ?_
  unfold X9_page
  refine pm_aload_n dX9_page_0 rfl rfl ?_
  refine pm_iconst (v := 0) dX9_page_1 ki_0 ?_
  refine fp_9_0 (y := zX9_page) (Or.inl tw_1366) dX9_page_2 (fun m1 => ?_)
  refine pm_aload_n dX9_page_5 rfl rfl ?_
  refine pm_iload_n dX9_page_6 rfl rfl ?_
  refine pm_iconst (v := 0) dX9_page_7 ki_0 ?_
  refine pm_aload_n dX9_page_8 rfl rfl ?_
  refine fg_9_1 (y := zX9_page) (Or.inl tw_1367) dX9_page_9 (fun x2 => ?_)
  refine pm_kI (d := d + 5) rfl (pm_S (y := zX9_page) (z := zX9_in) (As := [.int a1, .int 0, .int x2]) zkX9_in tw_1545 tw_1546 dX9_page_12 rfl rfl (Nat.le_of_ble_eq_true rfl)) (kcX9_in (d := d + 5) hfl a1 0 x2 m1) (fun x4 m3 => ?_)
  refine pm_if_ne (tgt := 22) dX9_page_15 rfl ?_ ?_
  · refine pm_iconst (v := 0) dX9_page_22 ki_0 ?_
    exact gX9_page_j23 hfl a0 a1 0 a0 m3
  · refine pm_iconst (v := 1) dX9_page_18 ki_1 ?_
    refine pm_goto (tgt := 23) dX9_page_19 rfl ?_
    exact gX9_page_j23 hfl a0 a1 1 a0 m3
-- StruckPageModel.copies([I[I)V
def X9_copies_L2 (l0 : Nat) (l1 : Nat) (again2 : (Int32 × pmM) → pmR) (s2 : Int32 × pmM) : pmR := if (14 : Int32) ≤ s2.1 then (pm_oV s2.2) else (pm_ld 100 l0 s2.1 s2.2 fun x1 => pm_st 100 l1 s2.1 x1 s2.2 fun m2 => pm_bI (s2.1 + 1) fun x3 => again2 (x3, m2))
def X9_copies (a0 : Nat) (a1 : Nat) (m : pmM) : pmR := pm_lp pm_N (X9_copies_L2 a0 a1) (0, m)
set_option maxRecDepth 100000 in
set_option maxHeartbeats 4000000 in
theorem gX9_copies_L2 (hfl : l.flags = flags0) (l0 : Nat) (l1 : Nat) : ∀ (n : Nat) (s : Int32 × pmM), pm_G l Γ zX9_copies (d + 0) 2 [.ref l0, .ref l1, .int s.1] [] s.2 (pm_lp n (X9_copies_L2 l0 l1) s) :=
  pm_loop (lsf := fun s : Int32 × pmM => [.ref l0, .ref l1, .int s.1]) (mf := fun s : Int32 × pmM => s.2) (fun again2 hag2 s2 => by
    unfold X9_copies_L2
    refine pm_iload_n dX9_copies_2 rfl rfl ?_
    refine pm_bipush (v := 14) dX9_copies_3 kb_14 ?_
    refine pm_icmp_ge (tgt := 20) dX9_copies_5 rfl ?_ ?_
    · exact pm_vret rfl dX9_copies_20
    · refine pm_aload_n dX9_copies_8 rfl rfl ?_
      refine pm_iload_n dX9_copies_9 rfl rfl ?_
      refine pm_aload_n dX9_copies_10 rfl rfl ?_
      refine pm_iload_n dX9_copies_11 rfl rfl ?_
      refine pm_iald (y := zX9_copies) dX9_copies_12 (fun x1 => ?_)
      refine pm_iast (y := zX9_copies) dX9_copies_13 (fun m2 => ?_)
      refine pm_iincn (y := zX9_copies) dX9_copies_14 rfl ki_1 rfl (Nat.le_of_ble_eq_true rfl) (fun x3 => ?_)
      refine pm_eqls (ls2 := [.ref l0, .ref l1, .int x3]) rfl ?_
      refine pm_goto (tgt := 2) dX9_copies_17 rfl ?_
      exact hag2 (x3, m2))
set_option maxRecDepth 100000 in
set_option maxHeartbeats 4000000 in
theorem kcX9_copies (hfl : l.flags = flags0) (a0 : Nat) (a1 : Nat) (m : pmM) : pm_C l Γ zX9_copies (d + 0) [.ref a0, .ref a1] m (X9_copies a0 a1 m) := by
  refine pm_enter (ls := [.ref a0, .ref a1, pmU]) hfl (by decide +kernel) rfl (Nat.le_of_ble_eq_true rfl) rfl (Nat.le_of_ble_eq_true rfl) ?_
  unfold X9_copies
  refine pm_iconst (v := 0) dX9_copies_0 ki_0 ?_
  refine pm_istore_n (ls2 := [.ref a0, .ref a1, .int 0]) dX9_copies_1 rfl rfl (Nat.le_of_ble_eq_true rfl) rfl ?_
  exact gX9_copies_L2 hfl a0 a1 pm_N (0, m)
-- StruckPageModel.notes(II)V
def X9_notes (a0 : Nat) (a1 : Int32) (a2 : Int32) (m : pmM) : pmR := pm_gI 9 a0 5 m fun x1 => if x1 = 0 then (pm_gR 9 a0 22 m fun r2 => pm_gI 9 a0 20 m fun x3 => pm_ldR 103 r2 x3 m fun r4 => pm_st 100 r4 0 a1 m fun m5 => pm_gR 9 a0 22 m5 fun r6 => pm_gI 9 a0 20 m5 fun x7 => pm_ldR 103 r6 x7 m5 fun r8 => pm_st 100 r8 1 a2 m5 fun m9 => pm_gI 9 a0 20 m9 fun x10 => pm_pI 9 a0 20 (x10 + 1) m9 fun m11 => pm_oV m11) else (pm_oV m)
set_option maxRecDepth 100000 in
set_option maxHeartbeats 4000000 in
theorem kcX9_notes (hfl : l.flags = flags0) (a0 : Nat) (a1 : Int32) (a2 : Int32) (m : pmM) : pm_C l Γ zX9_notes (d + 0) [.ref a0, .int a1, .int a2] m (X9_notes a0 a1 a2 m) := by
  refine pm_enter (ls := [.ref a0, .int a1, .int a2]) hfl (by decide +kernel) rfl (Nat.le_of_ble_eq_true rfl) rfl (Nat.le_of_ble_eq_true rfl) ?_
  unfold X9_notes
  refine pm_aload_n dX9_notes_0 rfl rfl ?_
  refine fg_9_5 (y := zX9_notes) (Or.inl tw_1371) dX9_notes_1 (fun x1 => ?_)
  refine pm_if_eq (tgt := 8) dX9_notes_4 rfl ?_ ?_
  · refine pm_aload_n dX9_notes_8 rfl rfl ?_
    refine fg_9_22 (y := zX9_notes) (Or.inl tw_1388) dX9_notes_9 (fun r2 => ?_)
    refine pm_aload_n dX9_notes_12 rfl rfl ?_
    refine fg_9_20 (y := zX9_notes) (Or.inl tw_1386) dX9_notes_13 (fun x3 => ?_)
    refine pm_aaldI (y := zX9_notes) dX9_notes_16 (fun r4 => ?_)
    refine pm_iconst (v := 0) dX9_notes_17 ki_0 ?_
    refine pm_iload_n dX9_notes_18 rfl rfl ?_
    refine pm_iast (y := zX9_notes) dX9_notes_19 (fun m5 => ?_)
    refine pm_aload_n dX9_notes_20 rfl rfl ?_
    refine fg_9_22 (y := zX9_notes) (Or.inl tw_1388) dX9_notes_21 (fun r6 => ?_)
    refine pm_aload_n dX9_notes_24 rfl rfl ?_
    refine fg_9_20 (y := zX9_notes) (Or.inl tw_1386) dX9_notes_25 (fun x7 => ?_)
    refine pm_aaldI (y := zX9_notes) dX9_notes_28 (fun r8 => ?_)
    refine pm_iconst (v := 1) dX9_notes_29 ki_1 ?_
    refine pm_iload_n dX9_notes_30 rfl rfl ?_
    refine pm_iast (y := zX9_notes) dX9_notes_31 (fun m9 => ?_)
    refine pm_aload_n dX9_notes_32 rfl rfl ?_
    refine pm_dup dX9_notes_33 rfl ?_
    refine fg_9_20 (y := zX9_notes) (Or.inl tw_1386) dX9_notes_34 (fun x10 => ?_)
    refine pm_iconst (v := 1) dX9_notes_37 ki_1 ?_
    refine pm_iadd dX9_notes_38 ?_
    refine fp_9_20 (y := zX9_notes) (Or.inl tw_1386) dX9_notes_39 (fun m11 => ?_)
    exact pm_vret rfl dX9_notes_42
  · exact pm_vret rfl dX9_notes_7
-- StruckPageModel.opensOne()Z
def X9_opensOne_j57 (t0 : Int32) (m : pmM) : pmR := pm_oI (vp_nar .boolean t0) m
def X9_opensOne_j45 (l0 : Nat) (m : pmM) : pmR := pm_gI 9 l0 5 m fun x3 => if x3 = 0 then (X9_opensOne_j57 1 m) else (X9_opensOne_j57 0 m)
def X9_opensOne_j28 (l0 : Nat) (m : pmM) : pmR := pm_gI 9 l0 5 m fun x2 => if x2 = 0 then (pm_gI 9 l0 8 m fun x4 => pm_pI 9 l0 8 (x4 + 1) m fun m5 => X9_opensOne_j45 l0 m5) else (X9_opensOne_j45 l0 m)
def X9_opensOne (a0 : Nat) (m : pmM) : pmR := pm_gI 9 a0 5 m fun x1 => if x1 = 0 then (pm_gI 9 a0 8 m fun x6 => if x6 = 6 then (pm_gI 9 a0 4 m fun x7 => pm_rc 9 a0 m <| pm_cV (X9_wrong a0 3 x7 m) fun m8 => X9_opensOne_j45 a0 m8) else (X9_opensOne_j28 a0 m)) else (X9_opensOne_j28 a0 m)
set_option maxRecDepth 100000 in
set_option maxHeartbeats 4000000 in
theorem gX9_opensOne_j57 (hfl : l.flags = flags0) (t0 : Int32) (m : pmM) : pm_G l Γ zX9_opensOne (d + 1) 57 [pmU] [.int t0] m (X9_opensOne_j57 t0 m) := by
  unfold X9_opensOne_j57
  exact pm_nret (ty := .boolean) (w := vp_nar .boolean t0) rfl (by decide) rfl dX9_opensOne_57
set_option maxRecDepth 100000 in
set_option maxHeartbeats 4000000 in
theorem gX9_opensOne_j45 (hfl : l.flags = flags0) (l0 : Nat) (m : pmM) : pm_G l Γ zX9_opensOne (d + 1) 45 [.ref l0] [] m (X9_opensOne_j45 l0 m) := by
  unfold X9_opensOne_j45
  refine pm_aload_n dX9_opensOne_45 rfl rfl ?_
  refine fg_9_5 (y := zX9_opensOne) (Or.inl tw_1371) dX9_opensOne_46 (fun x3 => ?_)
  refine pm_if_ne (tgt := 56) dX9_opensOne_49 rfl ?_ ?_
  · refine pm_iconst (v := 0) dX9_opensOne_56 ki_0 ?_
    refine pm_drop (ls2 := [pmU]) (Nat.le_refl _) (pm_le_spec (pm_le_u (pm_le_n))) ?_
    exact gX9_opensOne_j57 hfl 0 m
  · refine pm_iconst (v := 1) dX9_opensOne_52 ki_1 ?_
    refine pm_goto (tgt := 57) dX9_opensOne_53 rfl ?_
    refine pm_drop (ls2 := [pmU]) (Nat.le_refl _) (pm_le_spec (pm_le_u (pm_le_n))) ?_
    exact gX9_opensOne_j57 hfl 1 m
set_option maxRecDepth 100000 in
set_option maxHeartbeats 4000000 in
theorem gX9_opensOne_j28 (hfl : l.flags = flags0) (l0 : Nat) (m : pmM) : pm_G l Γ zX9_opensOne (d + 1) 28 [.ref l0] [] m (X9_opensOne_j28 l0 m) := by
  unfold X9_opensOne_j28
  refine pm_aload_n dX9_opensOne_28 rfl rfl ?_
  refine fg_9_5 (y := zX9_opensOne) (Or.inl tw_1371) dX9_opensOne_29 (fun x2 => ?_)
  refine pm_if_ne (tgt := 45) dX9_opensOne_32 rfl ?_ ?_
  · exact gX9_opensOne_j45 hfl l0 m
  · refine pm_aload_n dX9_opensOne_35 rfl rfl ?_
    refine pm_dup dX9_opensOne_36 rfl ?_
    refine fg_9_8 (y := zX9_opensOne) (Or.inl tw_1374) dX9_opensOne_37 (fun x4 => ?_)
    refine pm_iconst (v := 1) dX9_opensOne_40 ki_1 ?_
    refine pm_iadd dX9_opensOne_41 ?_
    refine fp_9_8 (y := zX9_opensOne) (Or.inl tw_1374) dX9_opensOne_42 (fun m5 => ?_)
    exact gX9_opensOne_j45 hfl l0 m5
set_option maxRecDepth 100000 in
set_option maxHeartbeats 4000000 in
theorem kcX9_opensOne (hfl : l.flags = flags0) (a0 : Nat) (m : pmM) : pm_C l Γ zX9_opensOne (d + 1) [.ref a0] m (X9_opensOne a0 m) := by
  refine pm_enter (ls := [.ref a0]) hfl (by decide +kernel) rfl (Nat.le_of_ble_eq_true rfl) rfl (Nat.le_of_ble_eq_true rfl) ?_
  unfold X9_opensOne
  refine pm_aload_n dX9_opensOne_0 rfl rfl ?_
  refine fg_9_5 (y := zX9_opensOne) (Or.inl tw_1371) dX9_opensOne_1 (fun x1 => ?_)
  refine pm_if_ne (tgt := 28) dX9_opensOne_4 rfl ?_ ?_
  · exact gX9_opensOne_j28 hfl a0 m
  · refine pm_aload_n dX9_opensOne_7 rfl rfl ?_
    refine fg_9_8 (y := zX9_opensOne) (Or.inl tw_1374) dX9_opensOne_8 (fun x6 => ?_)
    refine pm_bipush (v := 6) dX9_opensOne_11 kb_6 ?_
    refine pm_icmp_ne (tgt := 28) dX9_opensOne_13 rfl ?_ ?_
    · exact gX9_opensOne_j28 hfl a0 m
    · refine pm_aload_n dX9_opensOne_16 rfl rfl ?_
      refine pm_iconst (v := 3) dX9_opensOne_17 ki_3 ?_
      refine pm_aload_n dX9_opensOne_18 rfl rfl ?_
      refine fg_9_4 (y := zX9_opensOne) (Or.inl tw_1370) dX9_opensOne_19 (fun x7 => ?_)
      refine pm_rcv (fun hb9 hc9 => ?_)
      refine pm_kV (d := d + 0) rfl (pm_V (y := zX9_opensOne) (z := zX9_wrong) (As := [.int 3, .int x7]) zkX9_wrong pm_q9 (by decide) tw_1586 tw_1588 tw_107 dX9_opensOne_22 rfl rfl (Nat.le_of_ble_eq_true rfl) hb9 hc9) (kcX9_wrong (d := d + 0) hfl a0 3 x7 m) (fun m8 => ?_)
      refine pm_goto (tgt := 45) dX9_opensOne_25 rfl ?_
      exact gX9_opensOne_j45 hfl a0 m8
end GEN16
