section GEN22
variable {l : Launch} {Γ : pmG} {d : Nat}
-- StruckPageModel.ahead(II)I
def X9_ahead_j125 (t0 : Int32) (m : pmM) : pmR := pm_oI t0 m
def X9_ahead_j88 (l0 : Nat) (l2 : Int32) (m : pmM) : pmR := if l2 = 0 then (pm_gR 9 l0 30 m fun r15 => pm_ld 100 r15 11 m fun x16 => X9_ahead_j125 x16 m) else (if l2 = 1 then (pm_gR 9 l0 30 m fun r12 => pm_cI (X9_cellsOf r12 m) fun x14 m13 => X9_ahead_j125 x14 m13) else (pm_gR 9 l0 30 m fun r9 => pm_rc 9 l0 m <| pm_cI (X9_leftAll l0 r9 m) fun x11 m10 => X9_ahead_j125 x11 m10))
def X9_ahead_L54 (l0 : Nat) (l1 : Int32) (l2 : Int32) (again54 : (Int32 × pmM) → pmR) (s54 : Int32 × pmM) : pmR := if l1 ≤ s54.1 then (X9_ahead_j88 l0 l2 s54.2) else (pm_gR 9 l0 30 s54.2 fun r17 => pm_ld 100 r17 11 s54.2 fun x18 => pm_gI 9 l0 13 s54.2 fun x19 => if x19 ≤ x18 then (X9_ahead_j88 l0 l2 s54.2) else (pm_gR 9 l0 30 s54.2 fun r20 => pm_rc 9 l0 s54.2 <| pm_cI (X9_deed l0 r20 s54.2) fun x22 m21 => pm_bI (s54.1 + 1) fun x23 => again54 (x23, m21)))
def X9_ahead_j31 (l0 : Nat) (l1 : Int32) (l2 : Int32) (t0 : Int32) (t1 : Nat) (m : pmM) : pmR := pm_rc 9 t1 m <| pm_cI (X9_bad t1 t0 1 1 m) fun x5 m4 => if x5 = 0 then (pm_gR 9 l0 29 m4 fun r6 => pm_gR 9 l0 30 m4 fun r7 => pm_cV (X9_copies r6 r7 m4) fun m8 => pm_lp pm_N (X9_ahead_L54 l0 l1 l2) (0, m8)) else (pm_oI 0 m4)
def X9_ahead_j26 (l0 : Nat) (l1 : Int32) (l2 : Int32) (t0 : Nat) (m : pmM) : pmR := X9_ahead_j31 l0 l1 l2 1 t0 m
def X9_ahead (a0 : Nat) (a1 : Int32) (a2 : Int32) (m : pmM) : pmR := pm_pI 9 a0 0 0 m fun m1 => pm_cI (X9_in a1 0 999 m1) fun x3 m2 => if x3 = 0 then (X9_ahead_j26 a0 a1 a2 a0 m2) else (pm_cI (X9_in a2 0 2 m2) fun x25 m24 => if x25 = 0 then (X9_ahead_j26 a0 a1 a2 a0 m24) else (X9_ahead_j31 a0 a1 a2 0 a0 m24))
set_option maxRecDepth 100000 in
set_option maxHeartbeats 4000000 in
theorem gX9_ahead_j125 (hfl : l.flags = flags0) (t0 : Int32) (m : pmM) : pm_G l Γ zX9_ahead (d + 4) 125 [pmU, pmU, pmU, pmU] [.int t0] m (X9_ahead_j125 t0 m) := by
  unfold X9_ahead_j125
  exact pm_iret rfl dX9_ahead_125
set_option maxRecDepth 100000 in
set_option maxHeartbeats 4000000 in
theorem gX9_ahead_j88 (hfl : l.flags = flags0) (l0 : Nat) (l2 : Int32) (m : pmM) : pm_G l Γ zX9_ahead (d + 4) 88 [.ref l0, pmU, .int l2, pmU] [] m (X9_ahead_j88 l0 l2 m) := by
  unfold X9_ahead_j88
  refine pm_iload_n dX9_ahead_88 rfl rfl ?_
  refine pm_if_ne (tgt := 102) dX9_ahead_89 rfl ?_ ?_
  · refine pm_iload_n dX9_ahead_102 rfl rfl ?_
    refine pm_iconst (v := 1) dX9_ahead_103 ki_1 ?_
    refine pm_icmp_ne (tgt := 117) dX9_ahead_104 rfl ?_ ?_
    · refine pm_aload_n dX9_ahead_117 rfl rfl ?_
      refine pm_aload_n dX9_ahead_118 rfl rfl ?_
      refine fg_9_30 (y := zX9_ahead) (Or.inl tw_1396) dX9_ahead_119 (fun r9 => ?_)
      refine pm_rcv (fun hb9 hc9 => ?_)
      refine pm_kI (d := d + 3) rfl (pm_V (y := zX9_ahead) (z := zX9_leftAll) (As := [.ref r9]) zkX9_leftAll pm_q9 (by decide) tw_1703 tw_1705 tw_129 dX9_ahead_122 rfl rfl (Nat.le_of_ble_eq_true rfl) hb9 hc9) (kcX9_leftAll (d := d + 1) hfl l0 r9 m) (fun x11 m10 => ?_)
      refine pm_drop (ls2 := [pmU, pmU, pmU, pmU]) (Nat.le_refl _) (pm_le_spec (pm_le_u (pm_le_u (pm_le_u (pm_le_u (pm_le_n)))))) ?_
      exact gX9_ahead_j125 hfl x11 m10
    · refine pm_aload_n dX9_ahead_107 rfl rfl ?_
      refine fg_9_30 (y := zX9_ahead) (Or.inl tw_1396) dX9_ahead_108 (fun r12 => ?_)
      refine pm_kI (d := d + 3) rfl (pm_S (y := zX9_ahead) (z := zX9_cellsOf) (As := [.ref r12]) zkX9_cellsOf tw_1774 tw_1775 dX9_ahead_111 rfl rfl (Nat.le_of_ble_eq_true rfl)) (kcX9_cellsOf (d := d + 3) hfl r12 m) (fun x14 m13 => ?_)
      refine pm_goto (tgt := 125) dX9_ahead_114 rfl ?_
      refine pm_drop (ls2 := [pmU, pmU, pmU, pmU]) (Nat.le_refl _) (pm_le_spec (pm_le_u (pm_le_u (pm_le_u (pm_le_u (pm_le_n)))))) ?_
      exact gX9_ahead_j125 hfl x14 m13
  · refine pm_aload_n dX9_ahead_92 rfl rfl ?_
    refine fg_9_30 (y := zX9_ahead) (Or.inl tw_1396) dX9_ahead_93 (fun r15 => ?_)
    refine pm_bipush (v := 11) dX9_ahead_96 kb_11 ?_
    refine pm_iald (y := zX9_ahead) dX9_ahead_98 (fun x16 => ?_)
    refine pm_goto (tgt := 125) dX9_ahead_99 rfl ?_
    refine pm_drop (ls2 := [pmU, pmU, pmU, pmU]) (Nat.le_refl _) (pm_le_spec (pm_le_u (pm_le_u (pm_le_u (pm_le_u (pm_le_n)))))) ?_
    exact gX9_ahead_j125 hfl x16 m
set_option maxRecDepth 100000 in
set_option maxHeartbeats 4000000 in
theorem gX9_ahead_L54 (hfl : l.flags = flags0) (l0 : Nat) (l1 : Int32) (l2 : Int32) : ∀ (n : Nat) (s : Int32 × pmM), pm_G l Γ zX9_ahead (d + 4) 54 [.ref l0, .int l1, .int l2, .int s.1] [] s.2 (pm_lp n (X9_ahead_L54 l0 l1 l2) s) :=
  pm_loop (lsf := fun s : Int32 × pmM => [.ref l0, .int l1, .int l2, .int s.1]) (mf := fun s : Int32 × pmM => s.2) (fun again54 hag54 s54 => by
    unfold X9_ahead_L54
    refine pm_iload_n dX9_ahead_54 rfl rfl ?_
    refine pm_iload_n dX9_ahead_55 rfl rfl ?_
    refine pm_icmp_ge (tgt := 88) dX9_ahead_56 rfl ?_ ?_
    · refine pm_drop (ls2 := [.ref l0, pmU, .int l2, pmU]) (Nat.le_refl _) (pm_le_spec (pm_le_v (pm_le_u (pm_le_v (pm_le_u (pm_le_n)))))) ?_
      exact gX9_ahead_j88 hfl l0 l2 s54.2
    · refine pm_aload_n dX9_ahead_59 rfl rfl ?_
      refine fg_9_30 (y := zX9_ahead) (Or.inl tw_1396) dX9_ahead_60 (fun r17 => ?_)
      refine pm_bipush (v := 11) dX9_ahead_63 kb_11 ?_
      refine pm_iald (y := zX9_ahead) dX9_ahead_65 (fun x18 => ?_)
      refine pm_aload_n dX9_ahead_66 rfl rfl ?_
      refine fg_9_13 (y := zX9_ahead) (Or.inl tw_1379) dX9_ahead_67 (fun x19 => ?_)
      refine pm_icmp_ge (tgt := 88) dX9_ahead_70 rfl ?_ ?_
      · refine pm_drop (ls2 := [.ref l0, pmU, .int l2, pmU]) (Nat.le_refl _) (pm_le_spec (pm_le_v (pm_le_u (pm_le_v (pm_le_u (pm_le_n)))))) ?_
        exact gX9_ahead_j88 hfl l0 l2 s54.2
      · refine pm_aload_n dX9_ahead_73 rfl rfl ?_
        refine pm_aload_n dX9_ahead_74 rfl rfl ?_
        refine fg_9_30 (y := zX9_ahead) (Or.inl tw_1396) dX9_ahead_75 (fun r20 => ?_)
        refine pm_rcv (fun hb9 hc9 => ?_)
        refine pm_kI (d := d + 3) rfl (pm_V (y := zX9_ahead) (z := zX9_deed) (As := [.ref r20]) zkX9_deed pm_q9 (by decide) tw_1732 tw_1734 tw_134 dX9_ahead_78 rfl rfl (Nat.le_of_ble_eq_true rfl) hb9 hc9) (kcX9_deed (d := d + 0) hfl l0 r20 s54.2) (fun x22 m21 => ?_)
        refine pm_pop dX9_ahead_81 rfl ?_
        refine pm_iincn (y := zX9_ahead) dX9_ahead_82 rfl ki_1 rfl (Nat.le_of_ble_eq_true rfl) (fun x23 => ?_)
        refine pm_eqls (ls2 := [.ref l0, .int l1, .int l2, .int x23]) rfl ?_
        refine pm_goto (tgt := 54) dX9_ahead_85 rfl ?_
        exact hag54 (x23, m21))
set_option maxRecDepth 100000 in
set_option maxHeartbeats 4000000 in
theorem gX9_ahead_j31 (hfl : l.flags = flags0) (l0 : Nat) (l1 : Int32) (l2 : Int32) (t0 : Int32) (t1 : Nat) (m : pmM) : pm_G l Γ zX9_ahead (d + 4) 31 [.ref l0, .int l1, .int l2, pmU] [.int t0, .ref t1] m (X9_ahead_j31 l0 l1 l2 t0 t1 m) := by
  unfold X9_ahead_j31
  refine pm_iconst (v := 1) dX9_ahead_31 ki_1 ?_
  refine pm_iconst (v := 1) dX9_ahead_32 ki_1 ?_
  refine pm_rcv (fun hb9 hc9 => ?_)
  refine pm_kI (d := d + 3) rfl (pm_V (y := zX9_ahead) (z := zX9_bad) (As := [.int t0, .int 1, .int 1]) zkX9_bad pm_q9 (by decide) tw_1548 tw_1550 tw_99 dX9_ahead_33 rfl rfl (Nat.le_of_ble_eq_true rfl) hb9 hc9) (kcX9_bad (d := d + 3) hfl t1 t0 1 1 m) (fun x5 m4 => ?_)
  refine pm_if_eq (tgt := 41) dX9_ahead_36 rfl ?_ ?_
  · refine pm_aload_n dX9_ahead_41 rfl rfl ?_
    refine fg_9_29 (y := zX9_ahead) (Or.inl tw_1395) dX9_ahead_42 (fun r6 => ?_)
    refine pm_aload_n dX9_ahead_45 rfl rfl ?_
    refine fg_9_30 (y := zX9_ahead) (Or.inl tw_1396) dX9_ahead_46 (fun r7 => ?_)
    refine pm_kV (d := d + 3) rfl (pm_S (y := zX9_ahead) (z := zX9_copies) (As := [.ref r6, .ref r7]) zkX9_copies tw_1678 tw_1679 dX9_ahead_49 rfl rfl (Nat.le_of_ble_eq_true rfl)) (kcX9_copies (d := d + 3) hfl r6 r7 m4) (fun m8 => ?_)
    refine pm_iconst (v := 0) dX9_ahead_52 ki_0 ?_
    refine pm_istore_n (ls2 := [.ref l0, .int l1, .int l2, .int 0]) dX9_ahead_53 rfl rfl (Nat.le_of_ble_eq_true rfl) rfl ?_
    exact gX9_ahead_L54 hfl l0 l1 l2 pm_N (0, m8)
  · refine pm_iconst (v := 0) dX9_ahead_39 ki_0 ?_
    exact pm_iret rfl dX9_ahead_40
set_option maxRecDepth 100000 in
set_option maxHeartbeats 4000000 in
theorem gX9_ahead_j26 (hfl : l.flags = flags0) (l0 : Nat) (l1 : Int32) (l2 : Int32) (t0 : Nat) (m : pmM) : pm_G l Γ zX9_ahead (d + 4) 26 [.ref l0, .int l1, .int l2, pmU] [.ref t0] m (X9_ahead_j26 l0 l1 l2 t0 m) := by
  unfold X9_ahead_j26
  refine pm_iconst (v := 1) dX9_ahead_26 ki_1 ?_
  refine pm_goto (tgt := 31) dX9_ahead_27 rfl ?_
  exact gX9_ahead_j31 hfl l0 l1 l2 1 t0 m
set_option maxRecDepth 100000 in
set_option maxHeartbeats 4000000 in
theorem kcX9_ahead (hfl : l.flags = flags0) (a0 : Nat) (a1 : Int32) (a2 : Int32) (m : pmM) : pm_C l Γ zX9_ahead (d + 4) [.ref a0, .int a1, .int a2] m (X9_ahead a0 a1 a2 m) := by
  refine pm_enter (ls := [.ref a0, .int a1, .int a2, pmU]) hfl (by decide +kernel) rfl (Nat.le_of_ble_eq_true rfl) rfl (Nat.le_of_ble_eq_true rfl) ?_
  unfold X9_ahead
  refine pm_aload_n dX9_ahead_0 rfl rfl ?_
  refine pm_iconst (v := 0) dX9_ahead_1 ki_0 ?_
  refine fp_9_0 (y := zX9_ahead) (Or.inl tw_1366) dX9_ahead_2 (fun m1 => ?_)
  refine pm_aload_n dX9_ahead_5 rfl rfl ?_
  refine pm_iload_n dX9_ahead_6 rfl rfl ?_
  refine pm_iconst (v := 0) dX9_ahead_7 ki_0 ?_
  refine pm_sipush (v := 999) dX9_ahead_8 ks_999 ?_
  refine pm_kI (d := d + 3) rfl (pm_S (y := zX9_ahead) (z := zX9_in) (As := [.int a1, .int 0, .int 999]) zkX9_in tw_1545 tw_1546 dX9_ahead_11 rfl rfl (Nat.le_of_ble_eq_true rfl)) (kcX9_in (d := d + 3) hfl a1 0 999 m1) (fun x3 m2 => ?_)
  refine pm_if_eq (tgt := 26) dX9_ahead_14 rfl ?_ ?_
  · exact gX9_ahead_j26 hfl a0 a1 a2 a0 m2
  · refine pm_iload_n dX9_ahead_17 rfl rfl ?_
    refine pm_iconst (v := 0) dX9_ahead_18 ki_0 ?_
    refine pm_iconst (v := 2) dX9_ahead_19 ki_2 ?_
    refine pm_kI (d := d + 3) rfl (pm_S (y := zX9_ahead) (z := zX9_in) (As := [.int a2, .int 0, .int 2]) zkX9_in tw_1545 tw_1546 dX9_ahead_20 rfl rfl (Nat.le_of_ble_eq_true rfl)) (kcX9_in (d := d + 3) hfl a2 0 2 m2) (fun x25 m24 => ?_)
    refine pm_if_ne (tgt := 30) dX9_ahead_23 rfl ?_ ?_
    · refine pm_iconst (v := 0) dX9_ahead_30 ki_0 ?_
      exact gX9_ahead_j31 hfl a0 a1 a2 0 a0 m24
    · exact gX9_ahead_j26 hfl a0 a1 a2 a0 m24
-- StruckPageModel.ends()I
def X9_ends_j73 (t0 : Int32) (m : pmM) : pmR := pm_oI t0 m
def X9_ends_j61 (l1 : Int32) (m : pmM) : pmR := if l1 ≤ 999 then (X9_ends_j73 l1 m) else (X9_ends_j73 (-1) m)
def X9_ends_j56 (again18 : (Int32 × pmM) → pmR) (l0 : Nat) (t0 : Int32) (t1 : Int32) (m : pmM) : pmR := pm_bI (t1 + t0) fun x11 => again18 (x11, m)
def X9_ends_L18 (l0 : Nat) (again18 : (Int32 × pmM) → pmR) (s18 : Int32 × pmM) : pmR := pm_gR 9 l0 30 s18.2 fun r5 => pm_ld 100 r5 11 s18.2 fun x6 => pm_gI 9 l0 13 s18.2 fun x7 => if x7 ≤ x6 then (X9_ends_j61 s18.1 s18.2) else (if (999 : Int32) < s18.1 then (X9_ends_j61 s18.1 s18.2) else (pm_gR 9 l0 30 s18.2 fun r8 => pm_rc 9 l0 s18.2 <| pm_cI (X9_deed l0 r8 s18.2) fun x10 m9 => if x10 = 0 then (X9_ends_j56 again18 l0 0 s18.1 m9) else (X9_ends_j56 again18 l0 1 s18.1 m9)))
def X9_ends (a0 : Nat) (m : pmM) : pmR := pm_pI 9 a0 0 0 m fun m1 => pm_gR 9 a0 29 m1 fun r2 => pm_gR 9 a0 30 m1 fun r3 => pm_cV (X9_copies r2 r3 m1) fun m4 => pm_lp pm_N (X9_ends_L18 a0) (0, m4)
set_option maxRecDepth 100000 in
set_option maxHeartbeats 4000000 in
theorem gX9_ends_j73 (hfl : l.flags = flags0) (t0 : Int32) (m : pmM) : pm_G l Γ zX9_ends (d + 4) 73 [pmU, pmU] [.int t0] m (X9_ends_j73 t0 m) := by
  unfold X9_ends_j73
  exact pm_iret rfl dX9_ends_73
set_option maxRecDepth 100000 in
set_option maxHeartbeats 4000000 in
theorem gX9_ends_j61 (hfl : l.flags = flags0) (l1 : Int32) (m : pmM) : pm_G l Γ zX9_ends (d + 4) 61 [pmU, .int l1] [] m (X9_ends_j61 l1 m) := by
  unfold X9_ends_j61
  refine pm_iload_n dX9_ends_61 rfl rfl ?_
  refine pm_sipush (v := 999) dX9_ends_62 ks_999 ?_
  refine pm_icmp_le (tgt := 72) dX9_ends_65 rfl ?_ ?_
  · refine pm_iload_n dX9_ends_72 rfl rfl ?_
    refine pm_drop (ls2 := [pmU, pmU]) (Nat.le_refl _) (pm_le_spec (pm_le_u (pm_le_u (pm_le_n)))) ?_
    exact gX9_ends_j73 hfl l1 m
  · refine pm_iconst (v := (-1)) dX9_ends_68 ki_n1 ?_
    refine pm_goto (tgt := 73) dX9_ends_69 rfl ?_
    refine pm_drop (ls2 := [pmU, pmU]) (Nat.le_refl _) (pm_le_spec (pm_le_u (pm_le_u (pm_le_n)))) ?_
    exact gX9_ends_j73 hfl (-1) m
set_option maxRecDepth 100000 in
set_option maxHeartbeats 4000000 in
theorem gX9_ends_j56 (hfl : l.flags = flags0) (again18 : (Int32 × pmM) → pmR) (l0 : Nat) (t0 : Int32) (t1 : Int32) (m : pmM) (hag18 : ∀ s : Int32 × pmM, pm_G l Γ zX9_ends (d + 4) 18 [.ref l0, .int s.1] [] s.2 (again18 s)) : pm_G l Γ zX9_ends (d + 4) 56 [.ref l0, pmU] [.int t0, .int t1] m (X9_ends_j56 again18 l0 t0 t1 m) := by
  unfold X9_ends_j56
  refine pm_iadd dX9_ends_56 ?_
  refine pm_bIn (fun x11 => ?_)
  refine pm_istore_n (ls2 := [.ref l0, .int x11]) dX9_ends_57 rfl rfl (Nat.le_of_ble_eq_true rfl) rfl ?_
  refine pm_goto (tgt := 18) dX9_ends_58 rfl ?_
  exact hag18 (x11, m)
set_option maxRecDepth 100000 in
set_option maxHeartbeats 4000000 in
theorem gX9_ends_L18 (hfl : l.flags = flags0) (l0 : Nat) : ∀ (n : Nat) (s : Int32 × pmM), pm_G l Γ zX9_ends (d + 4) 18 [.ref l0, .int s.1] [] s.2 (pm_lp n (X9_ends_L18 l0) s) :=
  pm_loop (lsf := fun s : Int32 × pmM => [.ref l0, .int s.1]) (mf := fun s : Int32 × pmM => s.2) (fun again18 hag18 s18 => by
    unfold X9_ends_L18
    refine pm_aload_n dX9_ends_18 rfl rfl ?_
    refine fg_9_30 (y := zX9_ends) (Or.inl tw_1396) dX9_ends_19 (fun r5 => ?_)
    refine pm_bipush (v := 11) dX9_ends_22 kb_11 ?_
    refine pm_iald (y := zX9_ends) dX9_ends_24 (fun x6 => ?_)
    refine pm_aload_n dX9_ends_25 rfl rfl ?_
    refine fg_9_13 (y := zX9_ends) (Or.inl tw_1379) dX9_ends_26 (fun x7 => ?_)
    refine pm_icmp_ge (tgt := 61) dX9_ends_29 rfl ?_ ?_
    · refine pm_drop (ls2 := [pmU, .int s18.1]) (Nat.le_refl _) (pm_le_spec (pm_le_u (pm_le_v (pm_le_n)))) ?_
      exact gX9_ends_j61 hfl s18.1 s18.2
    · refine pm_iload_n dX9_ends_32 rfl rfl ?_
      refine pm_sipush (v := 999) dX9_ends_33 ks_999 ?_
      refine pm_icmp_gt (tgt := 61) dX9_ends_36 rfl ?_ ?_
      · refine pm_drop (ls2 := [pmU, .int s18.1]) (Nat.le_refl _) (pm_le_spec (pm_le_u (pm_le_v (pm_le_n)))) ?_
        exact gX9_ends_j61 hfl s18.1 s18.2
      · refine pm_iload_n dX9_ends_39 rfl rfl ?_
        refine pm_aload_n dX9_ends_40 rfl rfl ?_
        refine pm_aload_n dX9_ends_41 rfl rfl ?_
        refine fg_9_30 (y := zX9_ends) (Or.inl tw_1396) dX9_ends_42 (fun r8 => ?_)
        refine pm_rcv (fun hb9 hc9 => ?_)
        refine pm_kI (d := d + 3) rfl (pm_V (y := zX9_ends) (z := zX9_deed) (As := [.ref r8]) zkX9_deed pm_q9 (by decide) tw_1732 tw_1734 tw_134 dX9_ends_45 rfl rfl (Nat.le_of_ble_eq_true rfl) hb9 hc9) (kcX9_deed (d := d + 0) hfl l0 r8 s18.2) (fun x10 m9 => ?_)
        refine pm_if_eq (tgt := 55) dX9_ends_48 rfl ?_ ?_
        · refine pm_iconst (v := 0) dX9_ends_55 ki_0 ?_
          refine pm_drop (ls2 := [.ref l0, pmU]) (Nat.le_refl _) (pm_le_spec (pm_le_v (pm_le_u (pm_le_n)))) ?_
          exact gX9_ends_j56 hfl again18 l0 0 s18.1 m9 hag18
        · refine pm_iconst (v := 1) dX9_ends_51 ki_1 ?_
          refine pm_goto (tgt := 56) dX9_ends_52 rfl ?_
          refine pm_drop (ls2 := [.ref l0, pmU]) (Nat.le_refl _) (pm_le_spec (pm_le_v (pm_le_u (pm_le_n)))) ?_
          exact gX9_ends_j56 hfl again18 l0 1 s18.1 m9 hag18)
set_option maxRecDepth 100000 in
set_option maxHeartbeats 4000000 in
theorem kcX9_ends (hfl : l.flags = flags0) (a0 : Nat) (m : pmM) : pm_C l Γ zX9_ends (d + 4) [.ref a0] m (X9_ends a0 m) := by
  refine pm_enter (ls := [.ref a0, pmU]) hfl (by decide +kernel) rfl (Nat.le_of_ble_eq_true rfl) rfl (Nat.le_of_ble_eq_true rfl) ?_
  unfold X9_ends
  refine pm_aload_n dX9_ends_0 rfl rfl ?_
  refine pm_iconst (v := 0) dX9_ends_1 ki_0 ?_
  refine fp_9_0 (y := zX9_ends) (Or.inl tw_1366) dX9_ends_2 (fun m1 => ?_)
  refine pm_aload_n dX9_ends_5 rfl rfl ?_
  refine fg_9_29 (y := zX9_ends) (Or.inl tw_1395) dX9_ends_6 (fun r2 => ?_)
  refine pm_aload_n dX9_ends_9 rfl rfl ?_
  refine fg_9_30 (y := zX9_ends) (Or.inl tw_1396) dX9_ends_10 (fun r3 => ?_)
  refine pm_kV (d := d + 3) rfl (pm_S (y := zX9_ends) (z := zX9_copies) (As := [.ref r2, .ref r3]) zkX9_copies tw_1678 tw_1679 dX9_ends_13 rfl rfl (Nat.le_of_ble_eq_true rfl)) (kcX9_copies (d := d + 3) hfl r2 r3 m1) (fun m4 => ?_)
  refine pm_iconst (v := 0) dX9_ends_16 ki_0 ?_
  refine pm_istore_n (ls2 := [.ref a0, .int 0]) dX9_ends_17 rfl rfl (Nat.le_of_ble_eq_true rfl) rfl ?_
  exact gX9_ends_L18 hfl a0 pm_N (0, m4)
-- StruckPageModel.laysPage()I
def X9_laysPage_j70 (again4 : (Int32 × Int32 × pmM) → pmR) (again14 : (Int32 × Int32 × pmM) → pmR) (l0 : Nat) (l1 : Int32) (l2 : Int32) (l3 : Int32) (t0 : Int32) (t1 : Int32) (t2 : Nat) (m : pmM) : pmR := pm_st 100 t2 t1 t0 m fun m15 => pm_bI (l1 + 1) fun x16 => pm_bI (l3 + 1) fun x17 => again14 (x16, x17, m15)
def X9_laysPage_L14 (again4 : (Int32 × Int32 × pmM) → pmR) (l0 : Nat) (l2 : Int32) (again14 : (Int32 × Int32 × pmM) → pmR) (s14 : Int32 × Int32 × pmM) : pmR := pm_gR 9 l0 16 s14.2.2 fun r2 => pm_ld 100 r2 l2 s14.2.2 fun x3 => if x3 ≤ s14.2.1 then (pm_bI (l2 + 1) fun x4 => again4 (s14.1, x4, s14.2.2)) else (pm_gR 9 l0 40 s14.2.2 fun r5 => pm_gR 9 l0 18 s14.2.2 fun r6 => pm_ldR 103 r6 l2 s14.2.2 fun r7 => pm_ld 100 r7 s14.2.1 s14.2.2 fun x8 => pm_st 100 r5 s14.1 x8 s14.2.2 fun m9 => pm_gR 9 l0 41 m9 fun r10 => pm_gR 9 l0 29 m9 fun r11 => pm_ld 100 r11 ((0 : Int32) + l2) m9 fun x12 => pm_st 100 r10 s14.1 ((x12 >>> (s14.2.1 &&& 31)) &&& 1) m9 fun m13 => pm_gR 9 l0 42 m13 fun r14 => if s14.2.1 = 0 then (X9_laysPage_j70 again4 again14 l0 s14.1 l2 s14.2.1 1 s14.1 r14 m13) else (X9_laysPage_j70 again4 again14 l0 s14.1 l2 s14.2.1 0 s14.1 r14 m13))
def X9_laysPage_L4 (l0 : Nat) (again4 : (Int32 × Int32 × pmM) → pmR) (s4 : Int32 × Int32 × pmM) : pmR := pm_gI 9 l0 13 s4.2.2 fun x1 => if x1 ≤ s4.2.1 then (pm_oI s4.1 s4.2.2) else (pm_lp pm_N (X9_laysPage_L14 again4 l0 s4.2.1) (s4.1, 0, s4.2.2))
def X9_laysPage (a0 : Nat) (m : pmM) : pmR := pm_lp pm_N (X9_laysPage_L4 a0) (0, 0, m)
set_option maxRecDepth 100000 in
set_option maxHeartbeats 4000000 in
theorem gX9_laysPage_j70 (hfl : l.flags = flags0) (again4 : (Int32 × Int32 × pmM) → pmR) (again14 : (Int32 × Int32 × pmM) → pmR) (l0 : Nat) (l1 : Int32) (l2 : Int32) (l3 : Int32) (t0 : Int32) (t1 : Int32) (t2 : Nat) (m : pmM) (hag4 : ∀ s : Int32 × Int32 × pmM, pm_G l Γ zX9_laysPage (d + 0) 4 [.ref l0, .int s.1, .int s.2.1, pmU] [] s.2.2 (again4 s)) (hag14 : ∀ s : Int32 × Int32 × pmM, pm_G l Γ zX9_laysPage (d + 0) 14 [.ref l0, .int s.1, .int l2, .int s.2.1] [] s.2.2 (again14 s)) : pm_G l Γ zX9_laysPage (d + 0) 70 [.ref l0, .int l1, .int l2, .int l3] [.int t0, .int t1, .ref t2] m (X9_laysPage_j70 again4 again14 l0 l1 l2 l3 t0 t1 t2 m) := by
  unfold X9_laysPage_j70
  refine pm_iast (y := zX9_laysPage) dX9_laysPage_70 (fun m15 => ?_)
  refine pm_iincn (y := zX9_laysPage) dX9_laysPage_71 rfl ki_1 rfl (Nat.le_of_ble_eq_true rfl) (fun x16 => ?_)
  refine pm_eqls (ls2 := [.ref l0, .int x16, .int l2, .int l3]) rfl ?_
  refine pm_iincn (y := zX9_laysPage) dX9_laysPage_74 rfl ki_1 rfl (Nat.le_of_ble_eq_true rfl) (fun x17 => ?_)
  refine pm_eqls (ls2 := [.ref l0, .int x16, .int l2, .int x17]) rfl ?_
  refine pm_goto (tgt := 14) dX9_laysPage_77 rfl ?_
  exact hag14 (x16, x17, m15)
set_option maxRecDepth 100000 in
set_option maxHeartbeats 4000000 in
theorem gX9_laysPage_L14 (hfl : l.flags = flags0) (again4 : (Int32 × Int32 × pmM) → pmR) (l0 : Nat) (l2 : Int32) (hag4 : ∀ s : Int32 × Int32 × pmM, pm_G l Γ zX9_laysPage (d + 0) 4 [.ref l0, .int s.1, .int s.2.1, pmU] [] s.2.2 (again4 s)) : ∀ (n : Nat) (s : Int32 × Int32 × pmM), pm_G l Γ zX9_laysPage (d + 0) 14 [.ref l0, .int s.1, .int l2, .int s.2.1] [] s.2.2 (pm_lp n (X9_laysPage_L14 again4 l0 l2) s) :=
  pm_loop (lsf := fun s : Int32 × Int32 × pmM => [.ref l0, .int s.1, .int l2, .int s.2.1]) (mf := fun s : Int32 × Int32 × pmM => s.2.2) (fun again14 hag14 s14 => by
    unfold X9_laysPage_L14
    refine pm_iload_n dX9_laysPage_14 rfl rfl ?_
    refine pm_aload_n dX9_laysPage_15 rfl rfl ?_
    refine fg_9_16 (y := zX9_laysPage) (Or.inl tw_1382) dX9_laysPage_16 (fun r2 => ?_)
    refine pm_iload_n dX9_laysPage_19 rfl rfl ?_
    refine pm_iald (y := zX9_laysPage) dX9_laysPage_20 (fun x3 => ?_)
    refine pm_icmp_ge (tgt := 80) dX9_laysPage_21 rfl ?_ ?_
    · refine pm_iincn (y := zX9_laysPage) dX9_laysPage_80 rfl ki_1 rfl (Nat.le_of_ble_eq_true rfl) (fun x4 => ?_)
      refine pm_eqls (ls2 := [.ref l0, .int s14.1, .int x4, .int s14.2.1]) rfl ?_
      refine pm_goto (tgt := 4) dX9_laysPage_83 rfl ?_
      refine pm_drop (ls2 := [.ref l0, .int s14.1, .int x4, pmU]) (Nat.le_refl _) (pm_le_spec (pm_le_v (pm_le_v (pm_le_v (pm_le_u (pm_le_n)))))) ?_
      exact hag4 (s14.1, x4, s14.2.2)
    · refine pm_aload_n dX9_laysPage_24 rfl rfl ?_
      refine fg_9_40 (y := zX9_laysPage) (Or.inl tw_1406) dX9_laysPage_25 (fun r5 => ?_)
      refine pm_iload_n dX9_laysPage_28 rfl rfl ?_
      refine pm_aload_n dX9_laysPage_29 rfl rfl ?_
      refine fg_9_18 (y := zX9_laysPage) (Or.inl tw_1384) dX9_laysPage_30 (fun r6 => ?_)
      refine pm_iload_n dX9_laysPage_33 rfl rfl ?_
      refine pm_aaldI (y := zX9_laysPage) dX9_laysPage_34 (fun r7 => ?_)
      refine pm_iload_n dX9_laysPage_35 rfl rfl ?_
      refine pm_iald (y := zX9_laysPage) dX9_laysPage_36 (fun x8 => ?_)
      refine pm_iast (y := zX9_laysPage) dX9_laysPage_37 (fun m9 => ?_)
      refine pm_aload_n dX9_laysPage_38 rfl rfl ?_
      refine fg_9_41 (y := zX9_laysPage) (Or.inl tw_1407) dX9_laysPage_39 (fun r10 => ?_)
      refine pm_iload_n dX9_laysPage_42 rfl rfl ?_
      refine pm_aload_n dX9_laysPage_43 rfl rfl ?_
      refine fg_9_29 (y := zX9_laysPage) (Or.inl tw_1395) dX9_laysPage_44 (fun r11 => ?_)
      refine pm_iconst (v := 0) dX9_laysPage_47 ki_0 ?_
      refine pm_iload_n dX9_laysPage_48 rfl rfl ?_
      refine pm_iadd dX9_laysPage_49 ?_
      refine pm_iald (y := zX9_laysPage) dX9_laysPage_50 (fun x12 => ?_)
      refine pm_iload_n dX9_laysPage_51 rfl rfl ?_
      refine pm_ishr dX9_laysPage_52 ?_
      refine pm_iconst (v := 1) dX9_laysPage_53 ki_1 ?_
      refine pm_iand dX9_laysPage_54 ?_
      refine pm_iast (y := zX9_laysPage) dX9_laysPage_55 (fun m13 => ?_)
      refine pm_aload_n dX9_laysPage_56 rfl rfl ?_
      refine fg_9_42 (y := zX9_laysPage) (Or.inl tw_1408) dX9_laysPage_57 (fun r14 => ?_)
      refine pm_iload_n dX9_laysPage_60 rfl rfl ?_
      refine pm_iload_n dX9_laysPage_61 rfl rfl ?_
      refine pm_if_ne (tgt := 69) dX9_laysPage_62 rfl ?_ ?_
      · refine pm_iconst (v := 0) dX9_laysPage_69 ki_0 ?_
        exact gX9_laysPage_j70 hfl again4 again14 l0 s14.1 l2 s14.2.1 0 s14.1 r14 m13 hag4 hag14
      · refine pm_iconst (v := 1) dX9_laysPage_65 ki_1 ?_
        refine pm_goto (tgt := 70) dX9_laysPage_66 rfl ?_
        exact gX9_laysPage_j70 hfl again4 again14 l0 s14.1 l2 s14.2.1 1 s14.1 r14 m13 hag4 hag14)
set_option maxRecDepth 100000 in
set_option maxHeartbeats 4000000 in
theorem gX9_laysPage_L4 (hfl : l.flags = flags0) (l0 : Nat) : ∀ (n : Nat) (s : Int32 × Int32 × pmM), pm_G l Γ zX9_laysPage (d + 0) 4 [.ref l0, .int s.1, .int s.2.1, pmU] [] s.2.2 (pm_lp n (X9_laysPage_L4 l0) s) :=
  pm_loop (lsf := fun s : Int32 × Int32 × pmM => [.ref l0, .int s.1, .int s.2.1, pmU]) (mf := fun s : Int32 × Int32 × pmM => s.2.2) (fun again4 hag4 s4 => by
    unfold X9_laysPage_L4
    refine pm_iload_n dX9_laysPage_4 rfl rfl ?_
    refine pm_aload_n dX9_laysPage_5 rfl rfl ?_
    refine fg_9_13 (y := zX9_laysPage) (Or.inl tw_1379) dX9_laysPage_6 (fun x1 => ?_)
    refine pm_icmp_ge (tgt := 86) dX9_laysPage_9 rfl ?_ ?_
    · refine pm_iload_n dX9_laysPage_86 rfl rfl ?_
      exact pm_iret rfl dX9_laysPage_87
    · refine pm_iconst (v := 0) dX9_laysPage_12 ki_0 ?_
      refine pm_istore_n (ls2 := [.ref l0, .int s4.1, .int s4.2.1, .int 0]) dX9_laysPage_13 rfl rfl (Nat.le_of_ble_eq_true rfl) rfl ?_
      exact gX9_laysPage_L14 hfl again4 l0 s4.2.1 hag4 pm_N (s4.1, 0, s4.2.2))
set_option maxRecDepth 100000 in
set_option maxHeartbeats 4000000 in
theorem kcX9_laysPage (hfl : l.flags = flags0) (a0 : Nat) (m : pmM) : pm_C l Γ zX9_laysPage (d + 0) [.ref a0] m (X9_laysPage a0 m) := by
  refine pm_enter (ls := [.ref a0, pmU, pmU, pmU]) hfl (by decide +kernel) rfl (Nat.le_of_ble_eq_true rfl) rfl (Nat.le_of_ble_eq_true rfl) ?_
  unfold X9_laysPage
  refine pm_iconst (v := 0) dX9_laysPage_0 ki_0 ?_
  refine pm_istore_n (ls2 := [.ref a0, .int 0, pmU, pmU]) dX9_laysPage_1 rfl rfl (Nat.le_of_ble_eq_true rfl) rfl ?_
  refine pm_iconst (v := 0) dX9_laysPage_2 ki_0 ?_
  refine pm_istore_n (ls2 := [.ref a0, .int 0, .int 0, pmU]) dX9_laysPage_3 rfl rfl (Nat.le_of_ble_eq_true rfl) rfl ?_
  exact gX9_laysPage_L4 hfl a0 pm_N (0, 0, m)
-- StruckPageModel.says()Z
def X9_says_j79 (t0 : Int32) (m : pmM) : pmR := pm_oI (vp_nar .boolean t0) m
def X9_says_j55 (m : pmM) : pmR := pm_oI 0 m
def X9_says_j60 (again14 : (Int32 × Int32 × pmM) → pmR) (l0 : Nat) (l1 : Int32) (l2 : Int32) (l3 : Int32) (m : pmM) : pmR := pm_bI (l3 + 1) fun x13 => again14 (l2, x13, m)
def X9_says_L14 (l0 : Nat) (l1 : Int32) (again14 : (Int32 × Int32 × pmM) → pmR) (s14 : Int32 × Int32 × pmM) : pmR := if l1 ≤ s14.2.1 then (pm_gI 9 l0 33 s14.2.2 fun x4 => if s14.1 = x4 then (X9_says_j79 1 s14.2.2) else (X9_says_j79 0 s14.2.2)) else (pm_gR 9 l0 41 s14.2.2 fun r5 => pm_ld 100 r5 s14.2.1 s14.2.2 fun x6 => if x6 = 1 then (X9_says_j60 again14 l0 l1 s14.1 s14.2.1 s14.2.2) else (pm_gI 9 l0 33 s14.2.2 fun x7 => if s14.1 = x7 then (X9_says_j55 s14.2.2) else (pm_gR 9 l0 25 s14.2.2 fun r8 => pm_ld 100 r8 s14.1 s14.2.2 fun x9 => pm_gR 9 l0 40 s14.2.2 fun r10 => pm_ld 100 r10 s14.2.1 s14.2.2 fun x11 => if x9 = x11 then (pm_bI (s14.1 + 1) fun x12 => X9_says_j60 again14 l0 l1 x12 s14.2.1 s14.2.2) else (X9_says_j55 s14.2.2))))
def X9_says (a0 : Nat) (m : pmM) : pmR := pm_pI 9 a0 0 0 m fun m1 => pm_rc 9 a0 m1 <| pm_cI (X9_laysPage a0 m1) fun x3 m2 => pm_lp pm_N (X9_says_L14 a0 x3) (0, 0, m2)
set_option maxRecDepth 100000 in
set_option maxHeartbeats 4000000 in
theorem gX9_says_j79 (hfl : l.flags = flags0) (t0 : Int32) (m : pmM) : pm_G l Γ zX9_says (d + 1) 79 [pmU, pmU, pmU, pmU] [.int t0] m (X9_says_j79 t0 m) := by
  unfold X9_says_j79
  exact pm_nret (ty := .boolean) (w := vp_nar .boolean t0) rfl (by decide) rfl dX9_says_79
set_option maxRecDepth 100000 in
set_option maxHeartbeats 4000000 in
theorem gX9_says_j55 (hfl : l.flags = flags0) (m : pmM) : pm_G l Γ zX9_says (d + 1) 55 [pmU, pmU, pmU, pmU] [] m (X9_says_j55 m) := by
  unfold X9_says_j55
  refine pm_iconst (v := 0) dX9_says_55 ki_0 ?_
  exact pm_nret (ty := .boolean) (w := 0) rfl (by decide) (by decide) dX9_says_56
set_option maxRecDepth 100000 in
set_option maxHeartbeats 4000000 in
theorem gX9_says_j60 (hfl : l.flags = flags0) (again14 : (Int32 × Int32 × pmM) → pmR) (l0 : Nat) (l1 : Int32) (l2 : Int32) (l3 : Int32) (m : pmM) (hag14 : ∀ s : Int32 × Int32 × pmM, pm_G l Γ zX9_says (d + 1) 14 [.ref l0, .int l1, .int s.1, .int s.2.1] [] s.2.2 (again14 s)) : pm_G l Γ zX9_says (d + 1) 60 [.ref l0, .int l1, .int l2, .int l3] [] m (X9_says_j60 again14 l0 l1 l2 l3 m) := by
  unfold X9_says_j60
  refine pm_iincn (y := zX9_says) dX9_says_60 rfl ki_1 rfl (Nat.le_of_ble_eq_true rfl) (fun x13 => ?_)
  refine pm_eqls (ls2 := [.ref l0, .int l1, .int l2, .int x13]) rfl ?_
  refine pm_goto (tgt := 14) dX9_says_63 rfl ?_
  exact hag14 (l2, x13, m)
set_option maxRecDepth 100000 in
set_option maxHeartbeats 4000000 in
theorem gX9_says_L14 (hfl : l.flags = flags0) (l0 : Nat) (l1 : Int32) : ∀ (n : Nat) (s : Int32 × Int32 × pmM), pm_G l Γ zX9_says (d + 1) 14 [.ref l0, .int l1, .int s.1, .int s.2.1] [] s.2.2 (pm_lp n (X9_says_L14 l0 l1) s) :=
  pm_loop (lsf := fun s : Int32 × Int32 × pmM => [.ref l0, .int l1, .int s.1, .int s.2.1]) (mf := fun s : Int32 × Int32 × pmM => s.2.2) (fun again14 hag14 s14 => by
    unfold X9_says_L14
    refine pm_iload_n dX9_says_14 rfl rfl ?_
    refine pm_iload_n dX9_says_15 rfl rfl ?_
    refine pm_icmp_ge (tgt := 66) dX9_says_16 rfl ?_ ?_
    · refine pm_iload_n dX9_says_66 rfl rfl ?_
      refine pm_aload_n dX9_says_67 rfl rfl ?_
      refine fg_9_33 (y := zX9_says) (Or.inl tw_1399) dX9_says_68 (fun x4 => ?_)
      refine pm_icmp_ne (tgt := 78) dX9_says_71 rfl ?_ ?_
      · refine pm_iconst (v := 0) dX9_says_78 ki_0 ?_
        refine pm_drop (ls2 := [pmU, pmU, pmU, pmU]) (Nat.le_refl _) (pm_le_spec (pm_le_u (pm_le_u (pm_le_u (pm_le_u (pm_le_n)))))) ?_
        exact gX9_says_j79 hfl 0 s14.2.2
      · refine pm_iconst (v := 1) dX9_says_74 ki_1 ?_
        refine pm_goto (tgt := 79) dX9_says_75 rfl ?_
        refine pm_drop (ls2 := [pmU, pmU, pmU, pmU]) (Nat.le_refl _) (pm_le_spec (pm_le_u (pm_le_u (pm_le_u (pm_le_u (pm_le_n)))))) ?_
        exact gX9_says_j79 hfl 1 s14.2.2
    · refine pm_aload_n dX9_says_19 rfl rfl ?_
      refine fg_9_41 (y := zX9_says) (Or.inl tw_1407) dX9_says_20 (fun r5 => ?_)
      refine pm_iload_n dX9_says_23 rfl rfl ?_
      refine pm_iald (y := zX9_says) dX9_says_24 (fun x6 => ?_)
      refine pm_iconst (v := 1) dX9_says_25 ki_1 ?_
      refine pm_icmp_ne (tgt := 32) dX9_says_26 rfl ?_ ?_
      · refine pm_iload_n dX9_says_32 rfl rfl ?_
        refine pm_aload_n dX9_says_33 rfl rfl ?_
        refine fg_9_33 (y := zX9_says) (Or.inl tw_1399) dX9_says_34 (fun x7 => ?_)
        refine pm_icmp_eq (tgt := 55) dX9_says_37 rfl ?_ ?_
        · refine pm_drop (ls2 := [pmU, pmU, pmU, pmU]) (Nat.le_refl _) (pm_le_spec (pm_le_u (pm_le_u (pm_le_u (pm_le_u (pm_le_n)))))) ?_
          exact gX9_says_j55 hfl s14.2.2
        · refine pm_aload_n dX9_says_40 rfl rfl ?_
          refine fg_9_25 (y := zX9_says) (Or.inl tw_1391) dX9_says_41 (fun r8 => ?_)
          refine pm_iload_n dX9_says_44 rfl rfl ?_
          refine pm_iald (y := zX9_says) dX9_says_45 (fun x9 => ?_)
          refine pm_aload_n dX9_says_46 rfl rfl ?_
          refine fg_9_40 (y := zX9_says) (Or.inl tw_1406) dX9_says_47 (fun r10 => ?_)
          refine pm_iload_n dX9_says_50 rfl rfl ?_
          refine pm_iald (y := zX9_says) dX9_says_51 (fun x11 => ?_)
          refine pm_icmp_eq (tgt := 57) dX9_says_52 rfl ?_ ?_
          · refine pm_iincn (y := zX9_says) dX9_says_57 rfl ki_1 rfl (Nat.le_of_ble_eq_true rfl) (fun x12 => ?_)
            refine pm_eqls (ls2 := [.ref l0, .int l1, .int x12, .int s14.2.1]) rfl ?_
            exact gX9_says_j60 hfl again14 l0 l1 x12 s14.2.1 s14.2.2 hag14
          · refine pm_drop (ls2 := [pmU, pmU, pmU, pmU]) (Nat.le_refl _) (pm_le_spec (pm_le_u (pm_le_u (pm_le_u (pm_le_u (pm_le_n)))))) ?_
            exact gX9_says_j55 hfl s14.2.2
      · refine pm_goto (tgt := 60) dX9_says_29 rfl ?_
        exact gX9_says_j60 hfl again14 l0 l1 s14.1 s14.2.1 s14.2.2 hag14)
set_option maxRecDepth 100000 in
set_option maxHeartbeats 4000000 in
theorem kcX9_says (hfl : l.flags = flags0) (a0 : Nat) (m : pmM) : pm_C l Γ zX9_says (d + 1) [.ref a0] m (X9_says a0 m) := by
  refine pm_enter (ls := [.ref a0, pmU, pmU, pmU]) hfl (by decide +kernel) rfl (Nat.le_of_ble_eq_true rfl) rfl (Nat.le_of_ble_eq_true rfl) ?_
  unfold X9_says
  refine pm_aload_n dX9_says_0 rfl rfl ?_
  refine pm_iconst (v := 0) dX9_says_1 ki_0 ?_
  refine fp_9_0 (y := zX9_says) (Or.inl tw_1366) dX9_says_2 (fun m1 => ?_)
  refine pm_aload_n dX9_says_5 rfl rfl ?_
  refine pm_rcv (fun hb9 hc9 => ?_)
  refine pm_kI (d := d + 0) rfl (pm_V (y := zX9_says) (z := zX9_laysPage) (As := []) zkX9_laysPage pm_q9 (by decide) tw_1817 tw_1819 tw_142 dX9_says_6 rfl rfl (Nat.le_of_ble_eq_true rfl) hb9 hc9) (kcX9_laysPage (d := d + 0) hfl a0 m1) (fun x3 m2 => ?_)
  refine pm_istore_n (ls2 := [.ref a0, .int x3, pmU, pmU]) dX9_says_9 rfl rfl (Nat.le_of_ble_eq_true rfl) rfl ?_
  refine pm_iconst (v := 0) dX9_says_10 ki_0 ?_
  refine pm_istore_n (ls2 := [.ref a0, .int x3, .int 0, pmU]) dX9_says_11 rfl rfl (Nat.le_of_ble_eq_true rfl) rfl ?_
  refine pm_iconst (v := 0) dX9_says_12 ki_0 ?_
  refine pm_istore_n (ls2 := [.ref a0, .int x3, .int 0, .int 0]) dX9_says_13 rfl rfl (Nat.le_of_ble_eq_true rfl) rfl ?_
  exact gX9_says_L14 hfl a0 x3 pm_N (0, 0, m2)
-- StruckPageModel.comes(IIJ)V
def X9_comes_j38 (l0 : Nat) (l1 : Int32) (l2 : Int32) (t0 : Int64) (t1 : Int32) (t2 : Nat) (m : pmM) : pmR := pm_stL t2 t1 t0 m fun m8 => pm_gR 9 l0 44 m8 fun r9 => pm_st 100 r9 l1 l2 m8 fun m10 => pm_oV m10
def X9_comes (a0 : Nat) (a1 : Int32) (a2 : Int32) (a3 : Int64) (m : pmM) : pmR := pm_gR 9 a0 44 m fun r1 => pm_ld 100 r1 a1 m fun x2 => if a2 ≤ x2 then (pm_gR 9 a0 46 m fun r3 => pm_gR 9 a0 44 m fun r4 => pm_ld 100 r4 a1 m fun x5 => if x5 ≤ a2 then (pm_gR 9 a0 46 m fun r6 => pm_ldL r6 a1 m fun x7 => X9_comes_j38 a0 a1 a2 (x7 + a3) a1 r3 m) else (X9_comes_j38 a0 a1 a2 a3 a1 r3 m)) else (pm_oV m)
set_option maxRecDepth 100000 in
set_option maxHeartbeats 4000000 in
theorem gX9_comes_j38 (hfl : l.flags = flags0) (l0 : Nat) (l1 : Int32) (l2 : Int32) (t0 : Int64) (t1 : Int32) (t2 : Nat) (m : pmM) : pm_G l Γ zX9_comes (d + 0) 38 [.ref l0, .int l1, .int l2, pmU, pmU] [.long t0, .int t1, .ref t2] m (X9_comes_j38 l0 l1 l2 t0 t1 t2 m) := by
  unfold X9_comes_j38
  refine pm_last (y := zX9_comes) dX9_comes_38 (fun m8 => ?_)
  refine pm_aload_n dX9_comes_39 rfl rfl ?_
  refine fg_9_44 (y := zX9_comes) (Or.inl tw_1410) dX9_comes_40 (fun r9 => ?_)
  refine pm_iload_n dX9_comes_43 rfl rfl ?_
  refine pm_iload_n dX9_comes_44 rfl rfl ?_
  refine pm_iast (y := zX9_comes) dX9_comes_45 (fun m10 => ?_)
  exact pm_vret rfl dX9_comes_46
set_option maxRecDepth 100000 in
set_option maxHeartbeats 4000000 in
theorem kcX9_comes (hfl : l.flags = flags0) (a0 : Nat) (a1 : Int32) (a2 : Int32) (a3 : Int64) (m : pmM) : pm_C l Γ zX9_comes (d + 0) [.ref a0, .int a1, .int a2, .long a3] m (X9_comes a0 a1 a2 a3 m) := by
  refine pm_enter (ls := [.ref a0, .int a1, .int a2, .long a3, pmU]) hfl (by decide +kernel) rfl (Nat.le_of_ble_eq_true rfl) rfl (Nat.le_of_ble_eq_true rfl) ?_
  unfold X9_comes
  refine pm_iload_n dX9_comes_0 rfl rfl ?_
  refine pm_aload_n dX9_comes_1 rfl rfl ?_
  refine fg_9_44 (y := zX9_comes) (Or.inl tw_1410) dX9_comes_2 (fun r1 => ?_)
  refine pm_iload_n dX9_comes_5 rfl rfl ?_
  refine pm_iald (y := zX9_comes) dX9_comes_6 (fun x2 => ?_)
  refine pm_icmp_le (tgt := 11) dX9_comes_7 rfl ?_ ?_
  · refine pm_aload_n dX9_comes_11 rfl rfl ?_
    refine fg_9_46 (y := zX9_comes) (Or.inl tw_1412) dX9_comes_12 (fun r3 => ?_)
    refine pm_iload_n dX9_comes_15 rfl rfl ?_
    refine pm_iload_n dX9_comes_16 rfl rfl ?_
    refine pm_aload_n dX9_comes_17 rfl rfl ?_
    refine fg_9_44 (y := zX9_comes) (Or.inl tw_1410) dX9_comes_18 (fun r4 => ?_)
    refine pm_iload_n dX9_comes_21 rfl rfl ?_
    refine pm_iald (y := zX9_comes) dX9_comes_22 (fun x5 => ?_)
    refine pm_icmp_ge (tgt := 30) dX9_comes_23 rfl ?_ ?_
    · refine pm_aload_n dX9_comes_30 rfl rfl ?_
      refine fg_9_46 (y := zX9_comes) (Or.inl tw_1412) dX9_comes_31 (fun r6 => ?_)
      refine pm_iload_n dX9_comes_34 rfl rfl ?_
      refine pm_lald (y := zX9_comes) dX9_comes_35 (fun x7 => ?_)
      refine pm_lload_n dX9_comes_36 rfl rfl ?_
      refine pm_ladd dX9_comes_37 ?_
      refine pm_drop (ls2 := [.ref a0, .int a1, .int a2, pmU, pmU]) (Nat.le_refl _) (pm_le_spec (pm_le_v (pm_le_v (pm_le_v (pm_le_u (pm_le_u (pm_le_n))))))) ?_
      exact gX9_comes_j38 hfl a0 a1 a2 (x7 + a3) a1 r3 m
    · refine pm_lload_n dX9_comes_26 rfl rfl ?_
      refine pm_goto (tgt := 38) dX9_comes_27 rfl ?_
      refine pm_drop (ls2 := [.ref a0, .int a1, .int a2, pmU, pmU]) (Nat.le_refl _) (pm_le_spec (pm_le_v (pm_le_v (pm_le_v (pm_le_u (pm_le_u (pm_le_n))))))) ?_
      exact gX9_comes_j38 hfl a0 a1 a2 a3 a1 r3 m
  · exact pm_vret rfl dX9_comes_10
-- StruckPageModel.goesOver(IIZ)V
def X9_goesOver_j90 (l0 : Nat) (l2 : Int32) (t0 : Int32) (t1 : Int32) (t2 : Int32) (t3 : Nat) (m : pmM) : pmR := pm_gR 9 l0 45 m fun r8 => pm_ldL r8 l2 m fun x9 => pm_rc 9 t3 m <| pm_cV (X9_comes t3 t2 (t1 + t0) x9 m) fun m10 => pm_oV m10
def X9_goesOver_j89 (l0 : Nat) (l2 : Int32) (t0 : Int32) (t1 : Int32) (t2 : Nat) (m : pmM) : pmR := X9_goesOver_j90 l0 l2 0 t0 t1 t2 m
def X9_goesOver_j58 (l0 : Nat) (l2 : Int32) (l4 : Int32) (l5 : Int32) (t0 : Int32) (m : pmM) : pmR := pm_gR 9 l0 43 m fun r6 => pm_ld 100 r6 l2 m fun x7 => if l5 = 1 then (if t0 = 0 then (X9_goesOver_j90 l0 l2 1 x7 (((2 : Int32) * l4) + l5) l0 m) else (X9_goesOver_j89 l0 l2 x7 (((2 : Int32) * l4) + l5) l0 m)) else (X9_goesOver_j89 l0 l2 x7 (((2 : Int32) * l4) + l5) l0 m)
def X9_goesOver_j39 (l0 : Nat) (l1 : Int32) (l2 : Int32) (l4 : Int32) (t0 : Int32) (m : pmM) : pmR := pm_gR 9 l0 42 m fun r4 => pm_ld 100 r4 l1 m fun x5 => if x5 = 1 then (X9_goesOver_j58 l0 l2 l4 t0 0 m) else (if (2 : Int32) = 0 then none else X9_goesOver_j58 l0 l2 l4 t0 (l2 - l2 / 2 * 2) m)
def X9_goesOver_j30 (l0 : Nat) (l1 : Int32) (l2 : Int32) (l3 : Int32) (l4 : Int32) (t0 : Int32) (m : pmM) : pmR := if t0 = l3 then (X9_goesOver_j39 l0 l1 l2 l4 1 m) else (X9_goesOver_j39 l0 l1 l2 l4 0 m)
def X9_goesOver_j12 (l0 : Nat) (l1 : Int32) (l2 : Int32) (l3 : Int32) (t0 : Int32) (t1 : Int32) (m : pmM) : pmR := pm_bI (t1 + t0) fun x1 => pm_gR 9 l0 41 m fun r2 => pm_ld 100 r2 l1 m fun x3 => if x3 = 1 then (X9_goesOver_j30 l0 l1 l2 l3 x1 1 m) else (X9_goesOver_j30 l0 l1 l2 l3 x1 0 m)
def X9_goesOver (a0 : Nat) (a1 : Int32) (a2 : Int32) (a3 : Int32) (m : pmM) : pmR := if (2 : Int32) = 0 then none else if a3 = 0 then (X9_goesOver_j12 a0 a1 a2 a3 0 (a2 / 2) m) else (X9_goesOver_j12 a0 a1 a2 a3 1 (a2 / 2) m)
set_option maxRecDepth 100000 in
set_option maxHeartbeats 4000000 in
theorem gX9_goesOver_j90 (hfl : l.flags = flags0) (l0 : Nat) (l2 : Int32) (t0 : Int32) (t1 : Int32) (t2 : Int32) (t3 : Nat) (m : pmM) : pm_G l Γ zX9_goesOver (d + 1) 90 [.ref l0, pmU, .int l2, pmU, pmU, pmU, pmU] [.int t0, .int t1, .int t2, .ref t3] m (X9_goesOver_j90 l0 l2 t0 t1 t2 t3 m) := by
  unfold X9_goesOver_j90
  refine pm_iadd dX9_goesOver_90 ?_
  refine pm_aload_n dX9_goesOver_91 rfl rfl ?_
  refine fg_9_45 (y := zX9_goesOver) (Or.inl tw_1411) dX9_goesOver_92 (fun r8 => ?_)
  refine pm_iload_n dX9_goesOver_95 rfl rfl ?_
  refine pm_lald (y := zX9_goesOver) dX9_goesOver_96 (fun x9 => ?_)
  refine pm_rcv (fun hb9 hc9 => ?_)
  refine pm_kV (d := d + 0) rfl (pm_V (y := zX9_goesOver) (z := zX9_comes) (As := [.int t2, .int (t1 + t0), .long x9]) zkX9_comes pm_q9 (by decide) tw_1833 tw_1835 tw_145 dX9_goesOver_97 rfl rfl (Nat.le_of_ble_eq_true rfl) hb9 hc9) (kcX9_comes (d := d + 0) hfl t3 t2 (t1 + t0) x9 m) (fun m10 => ?_)
  exact pm_vret rfl dX9_goesOver_100
set_option maxRecDepth 100000 in
set_option maxHeartbeats 4000000 in
theorem gX9_goesOver_j89 (hfl : l.flags = flags0) (l0 : Nat) (l2 : Int32) (t0 : Int32) (t1 : Int32) (t2 : Nat) (m : pmM) : pm_G l Γ zX9_goesOver (d + 1) 89 [.ref l0, pmU, .int l2, pmU, pmU, pmU, pmU] [.int t0, .int t1, .ref t2] m (X9_goesOver_j89 l0 l2 t0 t1 t2 m) := by
  unfold X9_goesOver_j89
  refine pm_iconst (v := 0) dX9_goesOver_89 ki_0 ?_
  exact gX9_goesOver_j90 hfl l0 l2 0 t0 t1 t2 m
set_option maxRecDepth 100000 in
set_option maxHeartbeats 4000000 in
theorem gX9_goesOver_j58 (hfl : l.flags = flags0) (l0 : Nat) (l2 : Int32) (l4 : Int32) (l5 : Int32) (t0 : Int32) (m : pmM) : pm_G l Γ zX9_goesOver (d + 1) 58 [.ref l0, pmU, .int l2, pmU, .int l4, .int l5, pmU] [.int t0] m (X9_goesOver_j58 l0 l2 l4 l5 t0 m) := by
  unfold X9_goesOver_j58
  refine pm_istore (ls2 := [.ref l0, pmU, .int l2, pmU, .int l4, .int l5, .int t0]) dX9_goesOver_58 rfl (Nat.le_of_ble_eq_true rfl) rfl ?_
  refine pm_aload_n dX9_goesOver_60 rfl rfl ?_
  refine pm_iconst (v := 2) dX9_goesOver_61 ki_2 ?_
  refine pm_iload dX9_goesOver_62 rfl ?_
  refine pm_imul dX9_goesOver_64 ?_
  refine pm_iload dX9_goesOver_65 rfl ?_
  refine pm_iadd dX9_goesOver_67 ?_
  refine pm_aload_n dX9_goesOver_68 rfl rfl ?_
  refine fg_9_43 (y := zX9_goesOver) (Or.inl tw_1409) dX9_goesOver_69 (fun r6 => ?_)
  refine pm_iload_n dX9_goesOver_72 rfl rfl ?_
  refine pm_iald (y := zX9_goesOver) dX9_goesOver_73 (fun x7 => ?_)
  refine pm_iload dX9_goesOver_74 rfl ?_
  refine pm_iconst (v := 1) dX9_goesOver_76 ki_1 ?_
  refine pm_icmp_ne (tgt := 89) dX9_goesOver_77 rfl ?_ ?_
  · refine pm_drop (ls2 := [.ref l0, pmU, .int l2, pmU, pmU, pmU, pmU]) (Nat.le_refl _) (pm_le_spec (pm_le_v (pm_le_u (pm_le_v (pm_le_u (pm_le_u (pm_le_u (pm_le_u (pm_le_n))))))))) ?_
    exact gX9_goesOver_j89 hfl l0 l2 x7 (((2 : Int32) * l4) + l5) l0 m
  · refine pm_iload dX9_goesOver_80 rfl ?_
    refine pm_if_ne (tgt := 89) dX9_goesOver_82 rfl ?_ ?_
    · refine pm_drop (ls2 := [.ref l0, pmU, .int l2, pmU, pmU, pmU, pmU]) (Nat.le_refl _) (pm_le_spec (pm_le_v (pm_le_u (pm_le_v (pm_le_u (pm_le_u (pm_le_u (pm_le_u (pm_le_n))))))))) ?_
      exact gX9_goesOver_j89 hfl l0 l2 x7 (((2 : Int32) * l4) + l5) l0 m
    · refine pm_iconst (v := 1) dX9_goesOver_85 ki_1 ?_
      refine pm_goto (tgt := 90) dX9_goesOver_86 rfl ?_
      refine pm_drop (ls2 := [.ref l0, pmU, .int l2, pmU, pmU, pmU, pmU]) (Nat.le_refl _) (pm_le_spec (pm_le_v (pm_le_u (pm_le_v (pm_le_u (pm_le_u (pm_le_u (pm_le_u (pm_le_n))))))))) ?_
      exact gX9_goesOver_j90 hfl l0 l2 1 x7 (((2 : Int32) * l4) + l5) l0 m
set_option maxRecDepth 100000 in
set_option maxHeartbeats 4000000 in
theorem gX9_goesOver_j39 (hfl : l.flags = flags0) (l0 : Nat) (l1 : Int32) (l2 : Int32) (l4 : Int32) (t0 : Int32) (m : pmM) : pm_G l Γ zX9_goesOver (d + 1) 39 [.ref l0, .int l1, .int l2, pmU, .int l4, pmU, pmU] [.int t0] m (X9_goesOver_j39 l0 l1 l2 l4 t0 m) := by
  unfold X9_goesOver_j39
  refine pm_istore (ls2 := [.ref l0, .int l1, .int l2, pmU, .int l4, .int t0, pmU]) dX9_goesOver_39 rfl (Nat.le_of_ble_eq_true rfl) rfl ?_
  refine pm_aload_n dX9_goesOver_41 rfl rfl ?_
  refine fg_9_42 (y := zX9_goesOver) (Or.inl tw_1408) dX9_goesOver_42 (fun r4 => ?_)
  refine pm_iload_n dX9_goesOver_45 rfl rfl ?_
  refine pm_iald (y := zX9_goesOver) dX9_goesOver_46 (fun x5 => ?_)
  refine pm_iconst (v := 1) dX9_goesOver_47 ki_1 ?_
  refine pm_icmp_ne (tgt := 55) dX9_goesOver_48 rfl ?_ ?_
  · refine pm_iload_n dX9_goesOver_55 rfl rfl ?_
    refine pm_iconst (v := 2) dX9_goesOver_56 ki_2 ?_
    refine pm_irem dX9_goesOver_57 ?_
    refine pm_drop (ls2 := [.ref l0, pmU, .int l2, pmU, .int l4, .int t0, pmU]) (Nat.le_refl _) (pm_le_spec (pm_le_v (pm_le_u (pm_le_v (pm_le_u (pm_le_v (pm_le_v (pm_le_u (pm_le_n))))))))) ?_
    exact gX9_goesOver_j58 hfl l0 l2 l4 t0 (l2 - l2 / 2 * 2) m
  · refine pm_iconst (v := 0) dX9_goesOver_51 ki_0 ?_
    refine pm_goto (tgt := 58) dX9_goesOver_52 rfl ?_
    refine pm_drop (ls2 := [.ref l0, pmU, .int l2, pmU, .int l4, .int t0, pmU]) (Nat.le_refl _) (pm_le_spec (pm_le_v (pm_le_u (pm_le_v (pm_le_u (pm_le_v (pm_le_v (pm_le_u (pm_le_n))))))))) ?_
    exact gX9_goesOver_j58 hfl l0 l2 l4 t0 0 m
set_option maxRecDepth 100000 in
set_option maxHeartbeats 4000000 in
theorem gX9_goesOver_j30 (hfl : l.flags = flags0) (l0 : Nat) (l1 : Int32) (l2 : Int32) (l3 : Int32) (l4 : Int32) (t0 : Int32) (m : pmM) : pm_G l Γ zX9_goesOver (d + 1) 30 [.ref l0, .int l1, .int l2, .int l3, .int l4, pmU, pmU] [.int t0] m (X9_goesOver_j30 l0 l1 l2 l3 l4 t0 m) := by
  unfold X9_goesOver_j30
  refine pm_iload_n dX9_goesOver_30 rfl rfl ?_
  refine pm_icmp_ne (tgt := 38) dX9_goesOver_31 rfl ?_ ?_
  · refine pm_iconst (v := 0) dX9_goesOver_38 ki_0 ?_
    refine pm_drop (ls2 := [.ref l0, .int l1, .int l2, pmU, .int l4, pmU, pmU]) (Nat.le_refl _) (pm_le_spec (pm_le_v (pm_le_v (pm_le_v (pm_le_u (pm_le_v (pm_le_u (pm_le_u (pm_le_n))))))))) ?_
    exact gX9_goesOver_j39 hfl l0 l1 l2 l4 0 m
  · refine pm_iconst (v := 1) dX9_goesOver_34 ki_1 ?_
    refine pm_goto (tgt := 39) dX9_goesOver_35 rfl ?_
    refine pm_drop (ls2 := [.ref l0, .int l1, .int l2, pmU, .int l4, pmU, pmU]) (Nat.le_refl _) (pm_le_spec (pm_le_v (pm_le_v (pm_le_v (pm_le_u (pm_le_v (pm_le_u (pm_le_u (pm_le_n))))))))) ?_
    exact gX9_goesOver_j39 hfl l0 l1 l2 l4 1 m
set_option maxRecDepth 100000 in
set_option maxHeartbeats 4000000 in
theorem gX9_goesOver_j12 (hfl : l.flags = flags0) (l0 : Nat) (l1 : Int32) (l2 : Int32) (l3 : Int32) (t0 : Int32) (t1 : Int32) (m : pmM) : pm_G l Γ zX9_goesOver (d + 1) 12 [.ref l0, .int l1, .int l2, .int l3, pmU, pmU, pmU] [.int t0, .int t1] m (X9_goesOver_j12 l0 l1 l2 l3 t0 t1 m) := by
  unfold X9_goesOver_j12
  refine pm_iadd dX9_goesOver_12 ?_
  refine pm_bIn (fun x1 => ?_)
  refine pm_istore (ls2 := [.ref l0, .int l1, .int l2, .int l3, .int x1, pmU, pmU]) dX9_goesOver_13 rfl (Nat.le_of_ble_eq_true rfl) rfl ?_
  refine pm_aload_n dX9_goesOver_15 rfl rfl ?_
  refine fg_9_41 (y := zX9_goesOver) (Or.inl tw_1407) dX9_goesOver_16 (fun r2 => ?_)
  refine pm_iload_n dX9_goesOver_19 rfl rfl ?_
  refine pm_iald (y := zX9_goesOver) dX9_goesOver_20 (fun x3 => ?_)
  refine pm_iconst (v := 1) dX9_goesOver_21 ki_1 ?_
  refine pm_icmp_ne (tgt := 29) dX9_goesOver_22 rfl ?_ ?_
  · refine pm_iconst (v := 0) dX9_goesOver_29 ki_0 ?_
    exact gX9_goesOver_j30 hfl l0 l1 l2 l3 x1 0 m
  · refine pm_iconst (v := 1) dX9_goesOver_25 ki_1 ?_
    refine pm_goto (tgt := 30) dX9_goesOver_26 rfl ?_
    exact gX9_goesOver_j30 hfl l0 l1 l2 l3 x1 1 m
set_option maxRecDepth 100000 in
set_option maxHeartbeats 4000000 in
theorem kcX9_goesOver (hfl : l.flags = flags0) (a0 : Nat) (a1 : Int32) (a2 : Int32) (a3 : Int32) (m : pmM) : pm_C l Γ zX9_goesOver (d + 1) [.ref a0, .int a1, .int a2, .int a3] m (X9_goesOver a0 a1 a2 a3 m) := by
  refine pm_enter (ls := [.ref a0, .int a1, .int a2, .int a3, pmU, pmU, pmU]) hfl (by decide +kernel) rfl (Nat.le_of_ble_eq_true rfl) rfl (Nat.le_of_ble_eq_true rfl) ?_
  unfold X9_goesOver
  refine pm_iload_n dX9_goesOver_0 rfl rfl ?_
  refine pm_iconst (v := 2) dX9_goesOver_1 ki_2 ?_
  refine pm_idiv dX9_goesOver_2 ?_
  refine pm_iload_n dX9_goesOver_3 rfl rfl ?_
  refine pm_if_eq (tgt := 11) dX9_goesOver_4 rfl ?_ ?_
  · refine pm_iconst (v := 0) dX9_goesOver_11 ki_0 ?_
    exact gX9_goesOver_j12 hfl a0 a1 a2 a3 0 (a2 / 2) m
  · refine pm_iconst (v := 1) dX9_goesOver_7 ki_1 ?_
    refine pm_goto (tgt := 12) dX9_goesOver_8 rfl ?_
    exact gX9_goesOver_j12 hfl a0 a1 a2 a3 1 (a2 / 2) m
end GEN22
