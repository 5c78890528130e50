section GEN27
variable {l : Launch} {Γ : pmG} {d : Nat}
-- StruckPageModel.share(III)I
def X9_share_j64 (m : pmM) : pmR := pm_oI 0 m
def X9_share_j121 (t0 : Int32) (m : pmM) : pmR := pm_oI t0 m
def X9_share_j95 (l0 : Nat) (l1 : Int32) (l2 : Int32) (l4 : Int32) (m : pmM) : pmR := pm_cI (X9_has l2 l1 m) fun x13 m12 => if x13 = 0 then (X9_share_j121 0 m12) else (pm_gR 9 l0 29 m12 fun r14 => pm_rc 9 l0 m12 <| pm_cI (X9_leftIn l0 r14 l1 m12) fun x16 m15 => pm_cI (X9_less l4 x16 m15) fun x18 m17 => X9_share_j121 x18 m17)
def X9_share_L69 (l0 : Nat) (l1 : Int32) (l2 : Int32) (l3 : Int32) (again69 : (Int32 × pmM) → pmR) (s69 : Int32 × pmM) : pmR := if (8 : Int32) ≤ s69.1 then (X9_share_j95 l0 l1 l2 s69.1 s69.2) else (pm_rc 9 l0 s69.2 <| pm_cI (X9_givenBy l0 l2 (s69.1 + 1) s69.2) fun x20 m19 => if l3 < x20 then (X9_share_j95 l0 l1 l2 s69.1 m19) else (pm_bI (s69.1 + 1) fun x21 => again69 (x21, m19)))
def X9_share_j56 (l0 : Nat) (l1 : Int32) (l2 : Int32) (l3 : Int32) (t0 : Int32) (t1 : Nat) (m : pmM) : pmR := pm_rc 9 t1 m <| pm_cI (X9_bad t1 t0 2 1 m) fun x11 m10 => if x11 = 0 then (pm_lp pm_N (X9_share_L69 l0 l1 l2 l3) (0, m10)) else (X9_share_j64 m10)
def X9_share_j51 (l0 : Nat) (l1 : Int32) (l2 : Int32) (l3 : Int32) (t0 : Nat) (m : pmM) : pmR := X9_share_j56 l0 l1 l2 l3 1 t0 m
def X9_share_j19 (l0 : Nat) (l1 : Int32) (l2 : Int32) (l3 : Int32) (t0 : Int32) (t1 : Nat) (m : pmM) : pmR := pm_rc 9 t1 m <| pm_cI (X9_bad t1 t0 1 0 m) fun x5 m4 => if x5 = 0 then (pm_rc 9 l0 m4 <| pm_cI (X9_allLines l0 m4) fun x7 m6 => pm_cI (X9_in l2 0 x7 m6) fun x9 m8 => if x9 = 0 then (X9_share_j51 l0 l1 l2 l3 l0 m8) else (pm_cI (X9_in l3 0 200 m8) fun x23 m22 => if x23 = 0 then (X9_share_j51 l0 l1 l2 l3 l0 m22) else (X9_share_j56 l0 l1 l2 l3 0 l0 m22))) else (X9_share_j64 m4)
def X9_share (a0 : Nat) (a1 : Int32) (a2 : Int32) (a3 : Int32) (m : pmM) : pmR := pm_pI 9 a0 0 0 m fun m1 => pm_rc 9 a0 m1 <| pm_cI (X9_isLine a0 a1 m1) fun x3 m2 => if x3 = 0 then (X9_share_j19 a0 a1 a2 a3 1 a0 m2) else (X9_share_j19 a0 a1 a2 a3 0 a0 m2)
set_option maxRecDepth 100000 in
set_option maxHeartbeats 4000000 in
theorem gX9_share_j64 (hfl : l.flags = flags0) (m : pmM) : pm_G l Γ zX9_share (d + 3) 64 [pmU, pmU, pmU, pmU, pmU] [] m (X9_share_j64 m) := by
  unfold X9_share_j64
  refine pm_iconst (v := 0) dX9_share_64 ki_0 ?_
  exact pm_iret rfl dX9_share_65
set_option maxRecDepth 100000 in
set_option maxHeartbeats 4000000 in
theorem gX9_share_j121 (hfl : l.flags = flags0) (t0 : Int32) (m : pmM) : pm_G l Γ zX9_share (d + 3) 121 [pmU, pmU, pmU, pmU, pmU] [.int t0] m (X9_share_j121 t0 m) := by
  unfold X9_share_j121
  exact pm_iret rfl dX9_share_121
set_option maxRecDepth 100000 in
set_option maxHeartbeats 4000000 in
theorem gX9_share_j95 (hfl : l.flags = flags0) (l0 : Nat) (l1 : Int32) (l2 : Int32) (l4 : Int32) (m : pmM) : pm_G l Γ zX9_share (d + 3) 95 [.ref l0, .int l1, .int l2, pmU, .int l4] [] m (X9_share_j95 l0 l1 l2 l4 m) := by
  unfold X9_share_j95
  refine pm_iload_n dX9_share_95 rfl rfl ?_
  refine pm_iload_n dX9_share_96 rfl rfl ?_
  refine pm_kI (d := d + 2) rfl (pm_S (y := zX9_share) (z := zX9_has) (As := [.int l2, .int l1]) zkX9_has tw_1748 tw_1749 dX9_share_97 rfl rfl (Nat.le_of_ble_eq_true rfl)) (kcX9_has (d := d + 2) hfl l2 l1 m) (fun x13 m12 => ?_)
  refine pm_if_eq (tgt := 120) dX9_share_100 rfl ?_ ?_
  · refine pm_iconst (v := 0) dX9_share_120 ki_0 ?_
    refine pm_drop (ls2 := [pmU, pmU, pmU, pmU, pmU]) (Nat.le_refl _) (pm_le_spec (pm_le_u (pm_le_u (pm_le_u (pm_le_u (pm_le_u (pm_le_n))))))) ?_
    exact gX9_share_j121 hfl 0 m12
  · refine pm_iload dX9_share_103 rfl ?_
    refine pm_aload_n dX9_share_105 rfl rfl ?_
    refine pm_aload_n dX9_share_106 rfl rfl ?_
    refine fg_9_29 (y := zX9_share) (Or.inl tw_1395) dX9_share_107 (fun r14 => ?_)
    refine pm_iload_n dX9_share_110 rfl rfl ?_
    refine pm_rcv (fun hb9 hc9 => ?_)
    refine pm_kI (d := d + 2) rfl (pm_V (y := zX9_share) (z := zX9_leftIn) (As := [.ref r14, .int l1]) zkX9_leftIn pm_q9 (by decide) tw_1707 tw_1709 tw_130 dX9_share_111 rfl rfl (Nat.le_of_ble_eq_true rfl) hb9 hc9) (kcX9_leftIn (d := d + 1) hfl l0 r14 l1 m12) (fun x16 m15 => ?_)
    refine pm_kI (d := d + 2) rfl (pm_S (y := zX9_share) (z := zX9_less) (As := [.int l4, .int x16]) zkX9_less tw_1722 tw_1723 dX9_share_114 rfl rfl (Nat.le_of_ble_eq_true rfl)) (kcX9_less (d := d + 2) hfl l4 x16 m15) (fun x18 m17 => ?_)
    refine pm_goto (tgt := 121) dX9_share_117 rfl ?_
    refine pm_drop (ls2 := [pmU, pmU, pmU, pmU, pmU]) (Nat.le_refl _) (pm_le_spec (pm_le_u (pm_le_u (pm_le_u (pm_le_u (pm_le_u (pm_le_n))))))) ?_
    exact gX9_share_j121 hfl x18 m17
set_option maxRecDepth 100000 in
set_option maxHeartbeats 4000000 in
theorem gX9_share_L69 (hfl : l.flags = flags0) (l0 : Nat) (l1 : Int32) (l2 : Int32) (l3 : Int32) : ∀ (n : Nat) (s : Int32 × pmM), pm_G l Γ zX9_share (d + 3) 69 [.ref l0, .int l1, .int l2, .int l3, .int s.1] [] s.2 (pm_lp n (X9_share_L69 l0 l1 l2 l3) s) :=
  pm_loop (lsf := fun s : Int32 × pmM => [.ref l0, .int l1, .int l2, .int l3, .int s.1]) (mf := fun s : Int32 × pmM => s.2) (fun again69 hag69 s69 => by
    unfold X9_share_L69
    refine pm_iload dX9_share_69 rfl ?_
    refine pm_bipush (v := 8) dX9_share_71 kb_8 ?_
    refine pm_icmp_ge (tgt := 95) dX9_share_73 rfl ?_ ?_
    · refine pm_drop (ls2 := [.ref l0, .int l1, .int l2, pmU, .int s69.1]) (Nat.le_refl _) (pm_le_spec (pm_le_v (pm_le_v (pm_le_v (pm_le_u (pm_le_v (pm_le_n))))))) ?_
      exact gX9_share_j95 hfl l0 l1 l2 s69.1 s69.2
    · refine pm_aload_n dX9_share_76 rfl rfl ?_
      refine pm_iload_n dX9_share_77 rfl rfl ?_
      refine pm_iload dX9_share_78 rfl ?_
      refine pm_iconst (v := 1) dX9_share_80 ki_1 ?_
      refine pm_iadd dX9_share_81 ?_
      refine pm_rcv (fun hb9 hc9 => ?_)
      refine pm_kI (d := d + 2) rfl (pm_V (y := zX9_share) (z := zX9_givenBy) (As := [.int l2, .int (s69.1 + 1)]) zkX9_givenBy pm_q9 (by decide) tw_1908 tw_1910 tw_150 dX9_share_82 rfl rfl (Nat.le_of_ble_eq_true rfl) hb9 hc9) (kcX9_givenBy (d := d + 0) hfl l0 l2 (s69.1 + 1) s69.2) (fun x20 m19 => ?_)
      refine pm_iload_n dX9_share_85 rfl rfl ?_
      refine pm_icmp_gt (tgt := 95) dX9_share_86 rfl ?_ ?_
      · refine pm_drop (ls2 := [.ref l0, .int l1, .int l2, pmU, .int s69.1]) (Nat.le_refl _) (pm_le_spec (pm_le_v (pm_le_v (pm_le_v (pm_le_u (pm_le_v (pm_le_n))))))) ?_
        exact gX9_share_j95 hfl l0 l1 l2 s69.1 m19
      · refine pm_iincn (y := zX9_share) dX9_share_89 rfl ki_1 rfl (Nat.le_of_ble_eq_true rfl) (fun x21 => ?_)
        refine pm_eqls (ls2 := [.ref l0, .int l1, .int l2, .int l3, .int x21]) rfl ?_
        refine pm_goto (tgt := 69) dX9_share_92 rfl ?_
        exact hag69 (x21, m19))
set_option maxRecDepth 100000 in
set_option maxHeartbeats 4000000 in
theorem gX9_share_j56 (hfl : l.flags = flags0) (l0 : Nat) (l1 : Int32) (l2 : Int32) (l3 : Int32) (t0 : Int32) (t1 : Nat) (m : pmM) : pm_G l Γ zX9_share (d + 3) 56 [.ref l0, .int l1, .int l2, .int l3, pmU] [.int t0, .ref t1] m (X9_share_j56 l0 l1 l2 l3 t0 t1 m) := by
  unfold X9_share_j56
  refine pm_iconst (v := 2) dX9_share_56 ki_2 ?_
  refine pm_iconst (v := 1) dX9_share_57 ki_1 ?_
  refine pm_rcv (fun hb9 hc9 => ?_)
  refine pm_kI (d := d + 2) rfl (pm_V (y := zX9_share) (z := zX9_bad) (As := [.int t0, .int 2, .int 1]) zkX9_bad pm_q9 (by decide) tw_1548 tw_1550 tw_99 dX9_share_58 rfl rfl (Nat.le_of_ble_eq_true rfl) hb9 hc9) (kcX9_bad (d := d + 2) hfl t1 t0 2 1 m) (fun x11 m10 => ?_)
  refine pm_if_eq (tgt := 66) dX9_share_61 rfl ?_ ?_
  · refine pm_iconst (v := 0) dX9_share_66 ki_0 ?_
    refine pm_istore (ls2 := [.ref l0, .int l1, .int l2, .int l3, .int 0]) dX9_share_67 rfl (Nat.le_of_ble_eq_true rfl) rfl ?_
    exact gX9_share_L69 hfl l0 l1 l2 l3 pm_N (0, m10)
  · refine pm_drop (ls2 := [pmU, pmU, pmU, pmU, pmU]) (Nat.le_refl _) (pm_le_spec (pm_le_u (pm_le_u (pm_le_u (pm_le_u (pm_le_u (pm_le_n))))))) ?_
    exact gX9_share_j64 hfl m10
set_option maxRecDepth 100000 in
set_option maxHeartbeats 4000000 in
theorem gX9_share_j51 (hfl : l.flags = flags0) (l0 : Nat) (l1 : Int32) (l2 : Int32) (l3 : Int32) (t0 : Nat) (m : pmM) : pm_G l Γ zX9_share (d + 3) 51 [.ref l0, .int l1, .int l2, .int l3, pmU] [.ref t0] m (X9_share_j51 l0 l1 l2 l3 t0 m) := by
  unfold X9_share_j51
  refine pm_iconst (v := 1) dX9_share_51 ki_1 ?_
  refine pm_goto (tgt := 56) dX9_share_52 rfl ?_
  exact gX9_share_j56 hfl l0 l1 l2 l3 1 t0 m
set_option maxRecDepth 100000 in
set_option maxHeartbeats 4000000 in
theorem gX9_share_j19 (hfl : l.flags = flags0) (l0 : Nat) (l1 : Int32) (l2 : Int32) (l3 : Int32) (t0 : Int32) (t1 : Nat) (m : pmM) : pm_G l Γ zX9_share (d + 3) 19 [.ref l0, .int l1, .int l2, .int l3, pmU] [.int t0, .ref t1] m (X9_share_j19 l0 l1 l2 l3 t0 t1 m) := by
  unfold X9_share_j19
  refine pm_iconst (v := 1) dX9_share_19 ki_1 ?_
  refine pm_iconst (v := 0) dX9_share_20 ki_0 ?_
  refine pm_rcv (fun hb9 hc9 => ?_)
  refine pm_kI (d := d + 2) rfl (pm_V (y := zX9_share) (z := zX9_bad) (As := [.int t0, .int 1, .int 0]) zkX9_bad pm_q9 (by decide) tw_1548 tw_1550 tw_99 dX9_share_21 rfl rfl (Nat.le_of_ble_eq_true rfl) hb9 hc9) (kcX9_bad (d := d + 2) hfl t1 t0 1 0 m) (fun x5 m4 => ?_)
  refine pm_if_ne (tgt := 64) dX9_share_24 rfl ?_ ?_
  · refine pm_drop (ls2 := [pmU, pmU, pmU, pmU, pmU]) (Nat.le_refl _) (pm_le_spec (pm_le_u (pm_le_u (pm_le_u (pm_le_u (pm_le_u (pm_le_n))))))) ?_
    exact gX9_share_j64 hfl m4
  · refine pm_aload_n dX9_share_27 rfl rfl ?_
    refine pm_iload_n dX9_share_28 rfl rfl ?_
    refine pm_iconst (v := 0) dX9_share_29 ki_0 ?_
    refine pm_aload_n dX9_share_30 rfl rfl ?_
    refine pm_rcv (fun hb9 hc9 => ?_)
    refine pm_kI (d := d + 2) rfl (pm_V (y := zX9_share) (z := zX9_allLines) (As := []) zkX9_allLines pm_q9 (by decide) tw_1870 tw_1872 tw_148 dX9_share_31 rfl rfl (Nat.le_of_ble_eq_true rfl) hb9 hc9) (kcX9_allLines (d := d + 2) hfl l0 m4) (fun x7 m6 => ?_)
    refine pm_kI (d := d + 2) rfl (pm_S (y := zX9_share) (z := zX9_in) (As := [.int l2, .int 0, .int x7]) zkX9_in tw_1545 tw_1546 dX9_share_34 rfl rfl (Nat.le_of_ble_eq_true rfl)) (kcX9_in (d := d + 2) hfl l2 0 x7 m6) (fun x9 m8 => ?_)
    refine pm_if_eq (tgt := 51) dX9_share_37 rfl ?_ ?_
    · exact gX9_share_j51 hfl l0 l1 l2 l3 l0 m8
    · refine pm_iload_n dX9_share_40 rfl rfl ?_
      refine pm_iconst (v := 0) dX9_share_41 ki_0 ?_
      refine pm_sipush (v := 200) dX9_share_42 ks_200 ?_
      refine pm_kI (d := d + 2) rfl (pm_S (y := zX9_share) (z := zX9_in) (As := [.int l3, .int 0, .int 200]) zkX9_in tw_1545 tw_1546 dX9_share_45 rfl rfl (Nat.le_of_ble_eq_true rfl)) (kcX9_in (d := d + 2) hfl l3 0 200 m8) (fun x23 m22 => ?_)
      refine pm_if_ne (tgt := 55) dX9_share_48 rfl ?_ ?_
      · refine pm_iconst (v := 0) dX9_share_55 ki_0 ?_
        exact gX9_share_j56 hfl l0 l1 l2 l3 0 l0 m22
      · exact gX9_share_j51 hfl l0 l1 l2 l3 l0 m22
set_option maxRecDepth 100000 in
set_option maxHeartbeats 4000000 in
theorem kcX9_share (hfl : l.flags = flags0) (a0 : Nat) (a1 : Int32) (a2 : Int32) (a3 : Int32) (m : pmM) : pm_C l Γ zX9_share (d + 3) [.ref a0, .int a1, .int a2, .int a3] m (X9_share a0 a1 a2 a3 m) := by
  refine pm_enter (ls := [.ref a0, .int a1, .int a2, .int a3, pmU]) hfl (by decide +kernel) rfl (Nat.le_of_ble_eq_true rfl) rfl (Nat.le_of_ble_eq_true rfl) ?_
  unfold X9_share
  refine pm_aload_n dX9_share_0 rfl rfl ?_
  refine pm_iconst (v := 0) dX9_share_1 ki_0 ?_
  refine fp_9_0 (y := zX9_share) (Or.inl tw_1366) dX9_share_2 (fun m1 => ?_)
  refine pm_aload_n dX9_share_5 rfl rfl ?_
  refine pm_aload_n dX9_share_6 rfl rfl ?_
  refine pm_iload_n dX9_share_7 rfl rfl ?_
  refine pm_rcv (fun hb9 hc9 => ?_)
  refine pm_kI (d := d + 2) rfl (pm_V (y := zX9_share) (z := zX9_isLine) (As := [.int a1]) zkX9_isLine pm_q9 (by decide) tw_1781 tw_1783 tw_141 dX9_share_8 rfl rfl (Nat.le_of_ble_eq_true rfl) hb9 hc9) (kcX9_isLine (d := d + 1) hfl a0 a1 m1) (fun x3 m2 => ?_)
  refine pm_if_ne (tgt := 18) dX9_share_11 rfl ?_ ?_
  · refine pm_iconst (v := 0) dX9_share_18 ki_0 ?_
    exact gX9_share_j19 hfl a0 a1 a2 a3 0 a0 m2
  · refine pm_iconst (v := 1) dX9_share_14 ki_1 ?_
    refine pm_goto (tgt := 19) dX9_share_15 rfl ?_
    exact gX9_share_j19 hfl a0 a1 a2 a3 1 a0 m2
-- StruckPageModel.often(I)I
def X9_often_j170 (t0 : Int32) (m : pmM) : pmR := pm_oI t0 m
def X9_often_j160 (l3 : Int32) (m : pmM) : pmR := X9_often_j170 l3 m
def X9_often_j144 (again100 : (Int32 × Int32 × pmM) → pmR) (l0 : Nat) (l1 : Int32) (l4 : Int32) (t0 : Int32) (m : pmM) : pmR := pm_bI (l4 + 1) fun x12 => again100 (t0, x12, m)
def X9_often_j143 (again100 : (Int32 × Int32 × pmM) → pmR) (l0 : Nat) (l1 : Int32) (l3 : Int32) (l4 : Int32) (m : pmM) : pmR := X9_often_j144 again100 l0 l1 l4 l3 m
def X9_often_j138 (again100 : (Int32 × Int32 × pmM) → pmR) (l0 : Nat) (l1 : Int32) (l4 : Int32) (m : pmM) : pmR := X9_often_j144 again100 l0 l1 l4 l4 m
def X9_often_L100 (l0 : Nat) (l1 : Int32) (again100 : (Int32 × Int32 × pmM) → pmR) (s100 : Int32 × Int32 × pmM) : pmR := if (16 : Int32) ≤ s100.2.1 then (if l1 = 0 then (X9_often_j160 s100.1 s100.2.2) else (if s100.1 = (-1) then (X9_often_j160 s100.1 s100.2.2) else (pm_gR 9 l0 53 s100.2.2 fun r8 => pm_ld 100 r8 s100.1 s100.2.2 fun x9 => X9_often_j170 x9 s100.2.2))) else (pm_gR 9 l0 53 s100.2.2 fun r10 => pm_ld 100 r10 s100.2.1 s100.2.2 fun x11 => if x11 ≤ 0 then (X9_often_j143 again100 l0 l1 s100.1 s100.2.1 s100.2.2) else (if s100.1 = (-1) then (X9_often_j138 again100 l0 l1 s100.2.1 s100.2.2) else (pm_gR 9 l0 53 s100.2.2 fun r13 => pm_ld 100 r13 s100.2.1 s100.2.2 fun x14 => pm_gR 9 l0 53 s100.2.2 fun r15 => pm_ld 100 r15 s100.1 s100.2.2 fun x16 => if x14 ≤ x16 then (X9_often_j143 again100 l0 l1 s100.1 s100.2.1 s100.2.2) else (X9_often_j138 again100 l0 l1 s100.2.1 s100.2.2))))
def X9_often_L61 (l0 : Nat) (l1 : Int32) (l2 : Int32) (l3 : Int32) (again61 : (Int32 × pmM) → pmR) (s61 : Int32 × pmM) : pmR := if l2 ≤ s61.1 then (pm_lp pm_N (X9_often_L100 l0 l1) (l3, 0, s61.2)) else (pm_gR 9 l0 53 s61.2 fun r17 => pm_gR 9 l0 40 s61.2 fun r18 => pm_ld 100 r18 s61.1 s61.2 fun x19 => pm_ld 100 r17 x19 s61.2 fun x20 => pm_gR 9 l0 41 s61.2 fun r21 => pm_ld 100 r21 s61.1 s61.2 fun x22 => pm_st 100 r17 x19 (x20 + ((1 : Int32) - x22)) s61.2 fun m23 => pm_bI (s61.1 + 1) fun x24 => again61 (x24, m23))
def X9_often_L32 (l0 : Nat) (l1 : Int32) (again32 : (Int32 × pmM) → pmR) (s32 : Int32 × pmM) : pmR := if (16 : Int32) ≤ s32.1 then (pm_rc 9 l0 s32.2 <| pm_cI (X9_laysPage l0 s32.2) fun x7 m6 => pm_lp pm_N (X9_often_L61 l0 l1 x7 (-1)) (0, m6)) else (pm_gR 9 l0 53 s32.2 fun r25 => pm_st 100 r25 s32.1 0 s32.2 fun m26 => pm_bI (s32.1 + 1) fun x27 => again32 (x27, m26))
def X9_often_j20 (l0 : Nat) (l1 : Int32) (t0 : Int32) (t1 : Nat) (m : pmM) : pmR := pm_rc 9 t1 m <| pm_cI (X9_bad t1 t0 1 1 m) fun x5 m4 => if x5 = 0 then (pm_lp pm_N (X9_often_L32 l0 l1) (0, m4)) else (pm_oI 0 m4)
def X9_often (a0 : Nat) (a1 : Int32) (m : pmM) : pmR := pm_pI 9 a0 0 0 m fun m1 => pm_cI (X9_in a1 0 1 m1) fun x3 m2 => if x3 = 0 then (X9_often_j20 a0 a1 1 a0 m2) else (X9_often_j20 a0 a1 0 a0 m2)
set_option maxRecDepth 100000 in
set_option maxHeartbeats 4000000 in
theorem gX9_often_j170 (hfl : l.flags = flags0) (t0 : Int32) (m : pmM) : pm_G l Γ zX9_often (d + 1) 170 [pmU, pmU, pmU, pmU, pmU] [.int t0] m (X9_often_j170 t0 m) := by
  unfold X9_often_j170
  exact pm_iret rfl dX9_often_170
set_option maxRecDepth 100000 in
set_option maxHeartbeats 4000000 in
theorem gX9_often_j160 (hfl : l.flags = flags0) (l3 : Int32) (m : pmM) : pm_G l Γ zX9_often (d + 1) 160 [pmU, pmU, pmU, .int l3, pmU] [] m (X9_often_j160 l3 m) := by
  unfold X9_often_j160
  refine pm_iload_n dX9_often_160 rfl rfl ?_
  refine pm_goto (tgt := 170) dX9_often_161 rfl ?_
  refine pm_drop (ls2 := [pmU, pmU, pmU, pmU, pmU]) (Nat.le_refl _) (pm_le_spec (pm_le_u (pm_le_u (pm_le_u (pm_le_u (pm_le_u (pm_le_n))))))) ?_
  exact gX9_often_j170 hfl l3 m
set_option maxRecDepth 100000 in
set_option maxHeartbeats 4000000 in
theorem gX9_often_j144 (hfl : l.flags = flags0) (again100 : (Int32 × Int32 × pmM) → pmR) (l0 : Nat) (l1 : Int32) (l4 : Int32) (t0 : Int32) (m : pmM) (hag100 : ∀ s : Int32 × Int32 × pmM, pm_G l Γ zX9_often (d + 1) 100 [.ref l0, .int l1, pmU, .int s.1, .int s.2.1] [] s.2.2 (again100 s)) : pm_G l Γ zX9_often (d + 1) 144 [.ref l0, .int l1, pmU, pmU, .int l4] [.int t0] m (X9_often_j144 again100 l0 l1 l4 t0 m) := by
  unfold X9_often_j144
  refine pm_istore_n (ls2 := [.ref l0, .int l1, pmU, .int t0, .int l4]) dX9_often_144 rfl rfl (Nat.le_of_ble_eq_true rfl) rfl ?_
  refine pm_iincn (y := zX9_often) dX9_often_145 rfl ki_1 rfl (Nat.le_of_ble_eq_true rfl) (fun x12 => ?_)
  refine pm_eqls (ls2 := [.ref l0, .int l1, pmU, .int t0, .int x12]) rfl ?_
  refine pm_goto (tgt := 100) dX9_often_148 rfl ?_
  exact hag100 (t0, x12, m)
set_option maxRecDepth 100000 in
set_option maxHeartbeats 4000000 in
theorem gX9_often_j143 (hfl : l.flags = flags0) (again100 : (Int32 × Int32 × pmM) → pmR) (l0 : Nat) (l1 : Int32) (l3 : Int32) (l4 : Int32) (m : pmM) (hag100 : ∀ s : Int32 × Int32 × pmM, pm_G l Γ zX9_often (d + 1) 100 [.ref l0, .int l1, pmU, .int s.1, .int s.2.1] [] s.2.2 (again100 s)) : pm_G l Γ zX9_often (d + 1) 143 [.ref l0, .int l1, pmU, .int l3, .int l4] [] m (X9_often_j143 again100 l0 l1 l3 l4 m) := by
  unfold X9_often_j143
  refine pm_iload_n dX9_often_143 rfl rfl ?_
  refine pm_drop (ls2 := [.ref l0, .int l1, pmU, pmU, .int l4]) (Nat.le_refl _) (pm_le_spec (pm_le_v (pm_le_v (pm_le_u (pm_le_u (pm_le_v (pm_le_n))))))) ?_
  exact gX9_often_j144 hfl again100 l0 l1 l4 l3 m hag100
set_option maxRecDepth 100000 in
set_option maxHeartbeats 4000000 in
theorem gX9_often_j138 (hfl : l.flags = flags0) (again100 : (Int32 × Int32 × pmM) → pmR) (l0 : Nat) (l1 : Int32) (l4 : Int32) (m : pmM) (hag100 : ∀ s : Int32 × Int32 × pmM, pm_G l Γ zX9_often (d + 1) 100 [.ref l0, .int l1, pmU, .int s.1, .int s.2.1] [] s.2.2 (again100 s)) : pm_G l Γ zX9_often (d + 1) 138 [.ref l0, .int l1, pmU, pmU, .int l4] [] m (X9_often_j138 again100 l0 l1 l4 m) := by
  unfold X9_often_j138
  refine pm_iload dX9_often_138 rfl ?_
  refine pm_goto (tgt := 144) dX9_often_140 rfl ?_
  exact gX9_often_j144 hfl again100 l0 l1 l4 l4 m hag100
set_option maxRecDepth 100000 in
set_option maxHeartbeats 4000000 in
theorem gX9_often_L100 (hfl : l.flags = flags0) (l0 : Nat) (l1 : Int32) : ∀ (n : Nat) (s : Int32 × Int32 × pmM), pm_G l Γ zX9_often (d + 1) 100 [.ref l0, .int l1, pmU, .int s.1, .int s.2.1] [] s.2.2 (pm_lp n (X9_often_L100 l0 l1) s) :=
  pm_loop (lsf := fun s : Int32 × Int32 × pmM => [.ref l0, .int l1, pmU, .int s.1, .int s.2.1]) (mf := fun s : Int32 × Int32 × pmM => s.2.2) (fun again100 hag100 s100 => by
    unfold X9_often_L100
    refine pm_iload dX9_often_100 rfl ?_
    refine pm_bipush (v := 16) dX9_often_102 kb_16 ?_
    refine pm_icmp_ge (tgt := 151) dX9_often_104 rfl ?_ ?_
    · refine pm_iload_n dX9_often_151 rfl rfl ?_
      refine pm_if_eq (tgt := 160) dX9_often_152 rfl ?_ ?_
      · refine pm_drop (ls2 := [pmU, pmU, pmU, .int s100.1, pmU]) (Nat.le_refl _) (pm_le_spec (pm_le_u (pm_le_u (pm_le_u (pm_le_v (pm_le_u (pm_le_n))))))) ?_
        exact gX9_often_j160 hfl s100.1 s100.2.2
      · refine pm_iload_n dX9_often_155 rfl rfl ?_
        refine pm_iconst (v := (-1)) dX9_often_156 ki_n1 ?_
        refine pm_icmp_ne (tgt := 164) dX9_often_157 rfl ?_ ?_
        · refine pm_aload_n dX9_often_164 rfl rfl ?_
          refine fg_9_53 (y := zX9_often) (Or.inl tw_1419) dX9_often_165 (fun r8 => ?_)
          refine pm_iload_n dX9_often_168 rfl rfl ?_
          refine pm_iald (y := zX9_often) dX9_often_169 (fun x9 => ?_)
          refine pm_drop (ls2 := [pmU, pmU, pmU, pmU, pmU]) (Nat.le_refl _) (pm_le_spec (pm_le_u (pm_le_u (pm_le_u (pm_le_u (pm_le_u (pm_le_n))))))) ?_
          exact gX9_often_j170 hfl x9 s100.2.2
        · refine pm_drop (ls2 := [pmU, pmU, pmU, .int s100.1, pmU]) (Nat.le_refl _) (pm_le_spec (pm_le_u (pm_le_u (pm_le_u (pm_le_v (pm_le_u (pm_le_n))))))) ?_
          exact gX9_often_j160 hfl s100.1 s100.2.2
    · refine pm_aload_n dX9_often_107 rfl rfl ?_
      refine fg_9_53 (y := zX9_often) (Or.inl tw_1419) dX9_often_108 (fun r10 => ?_)
      refine pm_iload dX9_often_111 rfl ?_
      refine pm_iald (y := zX9_often) dX9_often_113 (fun x11 => ?_)
      refine pm_if_le (tgt := 143) dX9_often_114 rfl ?_ ?_
      · exact gX9_often_j143 hfl again100 l0 l1 s100.1 s100.2.1 s100.2.2 hag100
      · refine pm_iload_n dX9_often_117 rfl rfl ?_
        refine pm_iconst (v := (-1)) dX9_often_118 ki_n1 ?_
        refine pm_icmp_eq (tgt := 138) dX9_often_119 rfl ?_ ?_
        · refine pm_drop (ls2 := [.ref l0, .int l1, pmU, pmU, .int s100.2.1]) (Nat.le_refl _) (pm_le_spec (pm_le_v (pm_le_v (pm_le_u (pm_le_u (pm_le_v (pm_le_n))))))) ?_
          exact gX9_often_j138 hfl again100 l0 l1 s100.2.1 s100.2.2 hag100
        · refine pm_aload_n dX9_often_122 rfl rfl ?_
          refine fg_9_53 (y := zX9_often) (Or.inl tw_1419) dX9_often_123 (fun r13 => ?_)
          refine pm_iload dX9_often_126 rfl ?_
          refine pm_iald (y := zX9_often) dX9_often_128 (fun x14 => ?_)
          refine pm_aload_n dX9_often_129 rfl rfl ?_
          refine fg_9_53 (y := zX9_often) (Or.inl tw_1419) dX9_often_130 (fun r15 => ?_)
          refine pm_iload_n dX9_often_133 rfl rfl ?_
          refine pm_iald (y := zX9_often) dX9_often_134 (fun x16 => ?_)
          refine pm_icmp_le (tgt := 143) dX9_often_135 rfl ?_ ?_
          · exact gX9_often_j143 hfl again100 l0 l1 s100.1 s100.2.1 s100.2.2 hag100
          · refine pm_drop (ls2 := [.ref l0, .int l1, pmU, pmU, .int s100.2.1]) (Nat.le_refl _) (pm_le_spec (pm_le_v (pm_le_v (pm_le_u (pm_le_u (pm_le_v (pm_le_n))))))) ?_
            exact gX9_often_j138 hfl again100 l0 l1 s100.2.1 s100.2.2 hag100)
set_option maxRecDepth 100000 in
set_option maxHeartbeats 4000000 in
theorem gX9_often_L61 (hfl : l.flags = flags0) (l0 : Nat) (l1 : Int32) (l2 : Int32) (l3 : Int32) : ∀ (n : Nat) (s : Int32 × pmM), pm_G l Γ zX9_often (d + 1) 61 [.ref l0, .int l1, .int l2, .int l3, .int s.1] [] s.2 (pm_lp n (X9_often_L61 l0 l1 l2 l3) s) :=
  pm_loop (lsf := fun s : Int32 × pmM => [.ref l0, .int l1, .int l2, .int l3, .int s.1]) (mf := fun s : Int32 × pmM => s.2) (fun again61 hag61 s61 => by
    unfold X9_often_L61
    refine pm_iload dX9_often_61 rfl ?_
    refine pm_iload_n dX9_often_63 rfl rfl ?_
    refine pm_icmp_ge (tgt := 97) dX9_often_64 rfl ?_ ?_
    · refine pm_iconst (v := 0) dX9_often_97 ki_0 ?_
      refine pm_istore (ls2 := [.ref l0, .int l1, .int l2, .int l3, .int 0]) dX9_often_98 rfl (Nat.le_of_ble_eq_true rfl) rfl ?_
      refine pm_drop (ls2 := [.ref l0, .int l1, pmU, .int l3, .int 0]) (Nat.le_refl _) (pm_le_spec (pm_le_v (pm_le_v (pm_le_u (pm_le_v (pm_le_v (pm_le_n))))))) ?_
      exact gX9_often_L100 hfl l0 l1 pm_N (l3, 0, s61.2)
    · refine pm_aload_n dX9_often_67 rfl rfl ?_
      refine fg_9_53 (y := zX9_often) (Or.inl tw_1419) dX9_often_68 (fun r17 => ?_)
      refine pm_aload_n dX9_often_71 rfl rfl ?_
      refine fg_9_40 (y := zX9_often) (Or.inl tw_1406) dX9_often_72 (fun r18 => ?_)
      refine pm_iload dX9_often_75 rfl ?_
      refine pm_iald (y := zX9_often) dX9_often_77 (fun x19 => ?_)
      refine pm_dup2 dX9_often_78 rfl rfl ?_
      refine pm_iald (y := zX9_often) dX9_often_79 (fun x20 => ?_)
      refine pm_iconst (v := 1) dX9_often_80 ki_1 ?_
      refine pm_aload_n dX9_often_81 rfl rfl ?_
      refine fg_9_41 (y := zX9_often) (Or.inl tw_1407) dX9_often_82 (fun r21 => ?_)
      refine pm_iload dX9_often_85 rfl ?_
      refine pm_iald (y := zX9_often) dX9_often_87 (fun x22 => ?_)
      refine pm_isub dX9_often_88 ?_
      refine pm_iadd dX9_often_89 ?_
      refine pm_iast (y := zX9_often) dX9_often_90 (fun m23 => ?_)
      refine pm_iincn (y := zX9_often) dX9_often_91 rfl ki_1 rfl (Nat.le_of_ble_eq_true rfl) (fun x24 => ?_)
      refine pm_eqls (ls2 := [.ref l0, .int l1, .int l2, .int l3, .int x24]) rfl ?_
      refine pm_goto (tgt := 61) dX9_often_94 rfl ?_
      exact hag61 (x24, m23))
set_option maxRecDepth 100000 in
set_option maxHeartbeats 4000000 in
theorem gX9_often_L32 (hfl : l.flags = flags0) (l0 : Nat) (l1 : Int32) : ∀ (n : Nat) (s : Int32 × pmM), pm_G l Γ zX9_often (d + 1) 32 [.ref l0, .int l1, .int s.1, pmU, pmU] [] s.2 (pm_lp n (X9_often_L32 l0 l1) s) :=
  pm_loop (lsf := fun s : Int32 × pmM => [.ref l0, .int l1, .int s.1, pmU, pmU]) (mf := fun s : Int32 × pmM => s.2) (fun again32 hag32 s32 => by
    unfold X9_often_L32
    refine pm_iload_n dX9_often_32 rfl rfl ?_
    refine pm_bipush (v := 16) dX9_often_33 kb_16 ?_
    refine pm_icmp_ge (tgt := 51) dX9_often_35 rfl ?_ ?_
    · refine pm_aload_n dX9_often_51 rfl rfl ?_
      refine pm_rcv (fun hb9 hc9 => ?_)
      refine pm_kI (d := d + 0) rfl (pm_V (y := zX9_often) (z := zX9_laysPage) (As := []) zkX9_laysPage pm_q9 (by decide) tw_1817 tw_1819 tw_142 dX9_often_52 rfl rfl (Nat.le_of_ble_eq_true rfl) hb9 hc9) (kcX9_laysPage (d := d + 0) hfl l0 s32.2) (fun x7 m6 => ?_)
      refine pm_istore_n (ls2 := [.ref l0, .int l1, .int x7, pmU, pmU]) dX9_often_55 rfl rfl (Nat.le_of_ble_eq_true rfl) rfl ?_
      refine pm_iconst (v := (-1)) dX9_often_56 ki_n1 ?_
      refine pm_istore_n (ls2 := [.ref l0, .int l1, .int x7, .int (-1), pmU]) dX9_often_57 rfl rfl (Nat.le_of_ble_eq_true rfl) rfl ?_
      refine pm_iconst (v := 0) dX9_often_58 ki_0 ?_
      refine pm_istore (ls2 := [.ref l0, .int l1, .int x7, .int (-1), .int 0]) dX9_often_59 rfl (Nat.le_of_ble_eq_true rfl) rfl ?_
      exact gX9_often_L61 hfl l0 l1 x7 (-1) pm_N (0, m6)
    · refine pm_aload_n dX9_often_38 rfl rfl ?_
      refine fg_9_53 (y := zX9_often) (Or.inl tw_1419) dX9_often_39 (fun r25 => ?_)
      refine pm_iload_n dX9_often_42 rfl rfl ?_
      refine pm_iconst (v := 0) dX9_often_43 ki_0 ?_
      refine pm_iast (y := zX9_often) dX9_often_44 (fun m26 => ?_)
      refine pm_iincn (y := zX9_often) dX9_often_45 rfl ki_1 rfl (Nat.le_of_ble_eq_true rfl) (fun x27 => ?_)
      refine pm_eqls (ls2 := [.ref l0, .int l1, .int x27, pmU, pmU]) rfl ?_
      refine pm_goto (tgt := 32) dX9_often_48 rfl ?_
      exact hag32 (x27, m26))
set_option maxRecDepth 100000 in
set_option maxHeartbeats 4000000 in
theorem gX9_often_j20 (hfl : l.flags = flags0) (l0 : Nat) (l1 : Int32) (t0 : Int32) (t1 : Nat) (m : pmM) : pm_G l Γ zX9_often (d + 1) 20 [.ref l0, .int l1, pmU, pmU, pmU] [.int t0, .ref t1] m (X9_often_j20 l0 l1 t0 t1 m) := by
  unfold X9_often_j20
  refine pm_iconst (v := 1) dX9_often_20 ki_1 ?_
  refine pm_iconst (v := 1) dX9_often_21 ki_1 ?_
  refine pm_rcv (fun hb9 hc9 => ?_)
  refine pm_kI (d := d + 0) rfl (pm_V (y := zX9_often) (z := zX9_bad) (As := [.int t0, .int 1, .int 1]) zkX9_bad pm_q9 (by decide) tw_1548 tw_1550 tw_99 dX9_often_22 rfl rfl (Nat.le_of_ble_eq_true rfl) hb9 hc9) (kcX9_bad (d := d + 0) hfl t1 t0 1 1 m) (fun x5 m4 => ?_)
  refine pm_if_eq (tgt := 30) dX9_often_25 rfl ?_ ?_
  · refine pm_iconst (v := 0) dX9_often_30 ki_0 ?_
    refine pm_istore_n (ls2 := [.ref l0, .int l1, .int 0, pmU, pmU]) dX9_often_31 rfl rfl (Nat.le_of_ble_eq_true rfl) rfl ?_
    exact gX9_often_L32 hfl l0 l1 pm_N (0, m4)
  · refine pm_iconst (v := 0) dX9_often_28 ki_0 ?_
    exact pm_iret rfl dX9_often_29
set_option maxRecDepth 100000 in
set_option maxHeartbeats 4000000 in
theorem kcX9_often (hfl : l.flags = flags0) (a0 : Nat) (a1 : Int32) (m : pmM) : pm_C l Γ zX9_often (d + 1) [.ref a0, .int a1] m (X9_often a0 a1 m) := by
  refine pm_enter (ls := [.ref a0, .int a1, pmU, pmU, pmU]) hfl (by decide +kernel) rfl (Nat.le_of_ble_eq_true rfl) rfl (Nat.le_of_ble_eq_true rfl) ?_
  unfold X9_often
  refine pm_aload_n dX9_often_0 rfl rfl ?_
  refine pm_iconst (v := 0) dX9_often_1 ki_0 ?_
  refine fp_9_0 (y := zX9_often) (Or.inl tw_1366) dX9_often_2 (fun m1 => ?_)
  refine pm_aload_n dX9_often_5 rfl rfl ?_
  refine pm_iload_n dX9_often_6 rfl rfl ?_
  refine pm_iconst (v := 0) dX9_often_7 ki_0 ?_
  refine pm_iconst (v := 1) dX9_often_8 ki_1 ?_
  refine pm_kI (d := d + 0) rfl (pm_S (y := zX9_often) (z := zX9_in) (As := [.int a1, .int 0, .int 1]) zkX9_in tw_1545 tw_1546 dX9_often_9 rfl rfl (Nat.le_of_ble_eq_true rfl)) (kcX9_in (d := d + 0) hfl a1 0 1 m1) (fun x3 m2 => ?_)
  refine pm_if_ne (tgt := 19) dX9_often_12 rfl ?_ ?_
  · refine pm_iconst (v := 0) dX9_often_19 ki_0 ?_
    exact gX9_often_j20 hfl a0 a1 0 a0 m2
  · refine pm_iconst (v := 1) dX9_often_15 ki_1 ?_
    refine pm_goto (tgt := 20) dX9_often_16 rfl ?_
    exact gX9_often_j20 hfl a0 a1 1 a0 m2
-- StruckPageModel.deeds(I)I
def X9_deeds_j65 (again35 : (Int32 × Int32 × pmM) → pmR) (l0 : Nat) (l1 : Int32) (l3 : Int32) (t0 : Int32) (t1 : Int32) (m : pmM) : pmR := pm_bI (t1 ||| t0) fun x10 => pm_bI (l3 + 1) fun x11 => again35 (x10, x11, m)
def X9_deeds_L35 (l0 : Nat) (l1 : Int32) (again35 : (Int32 × Int32 × pmM) → pmR) (s35 : Int32 × Int32 × pmM) : pmR := pm_gI 9 l0 13 s35.2.2 fun x6 => if x6 ≤ s35.2.1 then (pm_oI s35.1 s35.2.2) else (pm_gR 9 l0 29 s35.2.2 fun r7 => pm_rc 9 l0 s35.2.2 <| pm_cI (X9_leftWord l0 r7 s35.2.1 0 s35.2.2) fun x9 m8 => if x9 = l1 then (X9_deeds_j65 again35 l0 l1 s35.2.1 ((1 : Int32) <<< (s35.2.1 &&& 31)) s35.1 m8) else (X9_deeds_j65 again35 l0 l1 s35.2.1 0 s35.1 m8))
def X9_deeds_j21 (l0 : Nat) (l1 : Int32) (t0 : Int32) (t1 : Nat) (m : pmM) : pmR := pm_rc 9 t1 m <| pm_cI (X9_bad t1 t0 1 1 m) fun x5 m4 => if x5 = 0 then (pm_lp pm_N (X9_deeds_L35 l0 l1) (0, 0, m4)) else (pm_oI 0 m4)
def X9_deeds (a0 : Nat) (a1 : Int32) (m : pmM) : pmR := pm_pI 9 a0 0 0 m fun m1 => pm_cI (X9_in a1 0 15 m1) fun x3 m2 => if x3 = 0 then (X9_deeds_j21 a0 a1 1 a0 m2) else (X9_deeds_j21 a0 a1 0 a0 m2)
set_option maxRecDepth 100000 in
set_option maxHeartbeats 4000000 in
theorem gX9_deeds_j65 (hfl : l.flags = flags0) (again35 : (Int32 × Int32 × pmM) → pmR) (l0 : Nat) (l1 : Int32) (l3 : Int32) (t0 : Int32) (t1 : Int32) (m : pmM) (hag35 : ∀ s : Int32 × Int32 × pmM, pm_G l Γ zX9_deeds (d + 2) 35 [.ref l0, .int l1, .int s.1, .int s.2.1] [] s.2.2 (again35 s)) : pm_G l Γ zX9_deeds (d + 2) 65 [.ref l0, .int l1, pmU, .int l3] [.int t0, .int t1] m (X9_deeds_j65 again35 l0 l1 l3 t0 t1 m) := by
  unfold X9_deeds_j65
  refine pm_ior dX9_deeds_65 ?_
  refine pm_bIn (fun x10 => ?_)
  refine pm_istore_n (ls2 := [.ref l0, .int l1, .int x10, .int l3]) dX9_deeds_66 rfl rfl (Nat.le_of_ble_eq_true rfl) rfl ?_
  refine pm_iincn (y := zX9_deeds) dX9_deeds_67 rfl ki_1 rfl (Nat.le_of_ble_eq_true rfl) (fun x11 => ?_)
  refine pm_eqls (ls2 := [.ref l0, .int l1, .int x10, .int x11]) rfl ?_
  refine pm_goto (tgt := 35) dX9_deeds_70 rfl ?_
  exact hag35 (x10, x11, m)
set_option maxRecDepth 100000 in
set_option maxHeartbeats 4000000 in
theorem gX9_deeds_L35 (hfl : l.flags = flags0) (l0 : Nat) (l1 : Int32) : ∀ (n : Nat) (s : Int32 × Int32 × pmM), pm_G l Γ zX9_deeds (d + 2) 35 [.ref l0, .int l1, .int s.1, .int s.2.1] [] s.2.2 (pm_lp n (X9_deeds_L35 l0 l1) s) :=
  pm_loop (lsf := fun s : Int32 × Int32 × pmM => [.ref l0, .int l1, .int s.1, .int s.2.1]) (mf := fun s : Int32 × Int32 × pmM => s.2.2) (fun again35 hag35 s35 => by
    unfold X9_deeds_L35
    refine pm_iload_n dX9_deeds_35 rfl rfl ?_
    refine pm_aload_n dX9_deeds_36 rfl rfl ?_
    refine fg_9_13 (y := zX9_deeds) (Or.inl tw_1379) dX9_deeds_37 (fun x6 => ?_)
    refine pm_icmp_ge (tgt := 73) dX9_deeds_40 rfl ?_ ?_
    · refine pm_iload_n dX9_deeds_73 rfl rfl ?_
      exact pm_iret rfl dX9_deeds_74
    · refine pm_iload_n dX9_deeds_43 rfl rfl ?_
      refine pm_aload_n dX9_deeds_44 rfl rfl ?_
      refine pm_aload_n dX9_deeds_45 rfl rfl ?_
      refine fg_9_29 (y := zX9_deeds) (Or.inl tw_1395) dX9_deeds_46 (fun r7 => ?_)
      refine pm_iload_n dX9_deeds_49 rfl rfl ?_
      refine pm_iconst (v := 0) dX9_deeds_50 ki_0 ?_
      refine pm_rcv (fun hb9 hc9 => ?_)
      refine pm_kI (d := d + 1) rfl (pm_V (y := zX9_deeds) (z := zX9_leftWord) (As := [.ref r7, .int s35.2.1, .int 0]) zkX9_leftWord pm_q9 (by decide) tw_1744 tw_1746 tw_137 dX9_deeds_51 rfl rfl (Nat.le_of_ble_eq_true rfl) hb9 hc9) (kcX9_leftWord (d := d + 0) hfl l0 r7 s35.2.1 0 s35.2.2) (fun x9 m8 => ?_)
      refine pm_iload_n dX9_deeds_54 rfl rfl ?_
      refine pm_icmp_ne (tgt := 64) dX9_deeds_55 rfl ?_ ?_
      · refine pm_iconst (v := 0) dX9_deeds_64 ki_0 ?_
        refine pm_drop (ls2 := [.ref l0, .int l1, pmU, .int s35.2.1]) (Nat.le_refl _) (pm_le_spec (pm_le_v (pm_le_v (pm_le_u (pm_le_v (pm_le_n)))))) ?_
        exact gX9_deeds_j65 hfl again35 l0 l1 s35.2.1 0 s35.1 m8 hag35
      · refine pm_iconst (v := 1) dX9_deeds_58 ki_1 ?_
        refine pm_iload_n dX9_deeds_59 rfl rfl ?_
        refine pm_ishl dX9_deeds_60 ?_
        refine pm_goto (tgt := 65) dX9_deeds_61 rfl ?_
        refine pm_drop (ls2 := [.ref l0, .int l1, pmU, .int s35.2.1]) (Nat.le_refl _) (pm_le_spec (pm_le_v (pm_le_v (pm_le_u (pm_le_v (pm_le_n)))))) ?_
        exact gX9_deeds_j65 hfl again35 l0 l1 s35.2.1 ((1 : Int32) <<< (s35.2.1 &&& 31)) s35.1 m8 hag35)
set_option maxRecDepth 100000 in
set_option maxHeartbeats 4000000 in
theorem gX9_deeds_j21 (hfl : l.flags = flags0) (l0 : Nat) (l1 : Int32) (t0 : Int32) (t1 : Nat) (m : pmM) : pm_G l Γ zX9_deeds (d + 2) 21 [.ref l0, .int l1, pmU, pmU] [.int t0, .ref t1] m (X9_deeds_j21 l0 l1 t0 t1 m) := by
  unfold X9_deeds_j21
  refine pm_iconst (v := 1) dX9_deeds_21 ki_1 ?_
  refine pm_iconst (v := 1) dX9_deeds_22 ki_1 ?_
  refine pm_rcv (fun hb9 hc9 => ?_)
  refine pm_kI (d := d + 1) rfl (pm_V (y := zX9_deeds) (z := zX9_bad) (As := [.int t0, .int 1, .int 1]) zkX9_bad pm_q9 (by decide) tw_1548 tw_1550 tw_99 dX9_deeds_23 rfl rfl (Nat.le_of_ble_eq_true rfl) hb9 hc9) (kcX9_bad (d := d + 1) hfl t1 t0 1 1 m) (fun x5 m4 => ?_)
  refine pm_if_eq (tgt := 31) dX9_deeds_26 rfl ?_ ?_
  · refine pm_iconst (v := 0) dX9_deeds_31 ki_0 ?_
    refine pm_istore_n (ls2 := [.ref l0, .int l1, .int 0, pmU]) dX9_deeds_32 rfl rfl (Nat.le_of_ble_eq_true rfl) rfl ?_
    refine pm_iconst (v := 0) dX9_deeds_33 ki_0 ?_
    refine pm_istore_n (ls2 := [.ref l0, .int l1, .int 0, .int 0]) dX9_deeds_34 rfl rfl (Nat.le_of_ble_eq_true rfl) rfl ?_
    exact gX9_deeds_L35 hfl l0 l1 pm_N (0, 0, m4)
  · refine pm_iconst (v := 0) dX9_deeds_29 ki_0 ?_
    exact pm_iret rfl dX9_deeds_30
set_option maxRecDepth 100000 in
set_option maxHeartbeats 4000000 in
theorem kcX9_deeds (hfl : l.flags = flags0) (a0 : Nat) (a1 : Int32) (m : pmM) : pm_C l Γ zX9_deeds (d + 2) [.ref a0, .int a1] m (X9_deeds a0 a1 m) := by
  refine pm_enter (ls := [.ref a0, .int a1, pmU, pmU]) hfl (by decide +kernel) rfl (Nat.le_of_ble_eq_true rfl) rfl (Nat.le_of_ble_eq_true rfl) ?_
  unfold X9_deeds
  refine pm_aload_n dX9_deeds_0 rfl rfl ?_
  refine pm_iconst (v := 0) dX9_deeds_1 ki_0 ?_
  refine fp_9_0 (y := zX9_deeds) (Or.inl tw_1366) dX9_deeds_2 (fun m1 => ?_)
  refine pm_aload_n dX9_deeds_5 rfl rfl ?_
  refine pm_iload_n dX9_deeds_6 rfl rfl ?_
  refine pm_iconst (v := 0) dX9_deeds_7 ki_0 ?_
  refine pm_bipush (v := 15) dX9_deeds_8 kb_15 ?_
  refine pm_kI (d := d + 1) rfl (pm_S (y := zX9_deeds) (z := zX9_in) (As := [.int a1, .int 0, .int 15]) zkX9_in tw_1545 tw_1546 dX9_deeds_10 rfl rfl (Nat.le_of_ble_eq_true rfl)) (kcX9_in (d := d + 1) hfl a1 0 15 m1) (fun x3 m2 => ?_)
  refine pm_if_ne (tgt := 20) dX9_deeds_13 rfl ?_ ?_
  · refine pm_iconst (v := 0) dX9_deeds_20 ki_0 ?_
    exact gX9_deeds_j21 hfl a0 a1 0 a0 m2
  · refine pm_iconst (v := 1) dX9_deeds_16 ki_1 ?_
    refine pm_goto (tgt := 21) dX9_deeds_17 rfl ?_
    exact gX9_deeds_j21 hfl a0 a1 1 a0 m2
-- StruckPageModel.longest(I)I
def X9_longest_j102 (t0 : Int32) (m : pmM) : pmR := pm_oI t0 m
def X9_longest_j89 (l2 : Int32) (m : pmM) : pmR := X9_longest_j102 l2 m
def X9_longest_j73 (again34 : (Int32 × Int32 × pmM) → pmR) (l0 : Nat) (l1 : Int32) (l3 : Int32) (t0 : Int32) (m : pmM) : pmR := pm_bI (l3 + 1) fun x10 => again34 (t0, x10, m)
def X9_longest_j68 (again34 : (Int32 × Int32 × pmM) → pmR) (l0 : Nat) (l1 : Int32) (l3 : Int32) (m : pmM) : pmR := X9_longest_j73 again34 l0 l1 l3 l3 m
def X9_longest_L34 (l0 : Nat) (l1 : Int32) (again34 : (Int32 × Int32 × pmM) → pmR) (s34 : Int32 × Int32 × pmM) : pmR := pm_gI 9 l0 13 s34.2.2 fun x6 => if x6 ≤ s34.2.1 then (if l1 = 0 then (X9_longest_j89 s34.1 s34.2.2) else (if s34.1 = (-1) then (X9_longest_j89 s34.1 s34.2.2) else (pm_gR 9 l0 29 s34.2.2 fun r7 => pm_rc 9 l0 s34.2.2 <| pm_cI (X9_leftIn l0 r7 s34.1 s34.2.2) fun x9 m8 => X9_longest_j102 x9 m8))) else (if s34.1 = (-1) then (X9_longest_j68 again34 l0 l1 s34.2.1 s34.2.2) else (pm_gR 9 l0 29 s34.2.2 fun r11 => pm_rc 9 l0 s34.2.2 <| pm_cI (X9_leftIn l0 r11 s34.2.1 s34.2.2) fun x13 m12 => pm_gR 9 l0 29 m12 fun r14 => pm_rc 9 l0 m12 <| pm_cI (X9_leftIn l0 r14 s34.1 m12) fun x16 m15 => if x13 ≤ x16 then (X9_longest_j73 again34 l0 l1 s34.2.1 s34.1 m15) else (X9_longest_j68 again34 l0 l1 s34.2.1 m15)))
def X9_longest_j20 (l0 : Nat) (l1 : Int32) (t0 : Int32) (t1 : Nat) (m : pmM) : pmR := pm_rc 9 t1 m <| pm_cI (X9_bad t1 t0 1 1 m) fun x5 m4 => if x5 = 0 then (pm_lp pm_N (X9_longest_L34 l0 l1) ((-1), 0, m4)) else (pm_oI 0 m4)
def X9_longest (a0 : Nat) (a1 : Int32) (m : pmM) : pmR := pm_pI 9 a0 0 0 m fun m1 => pm_cI (X9_in a1 0 1 m1) fun x3 m2 => if x3 = 0 then (X9_longest_j20 a0 a1 1 a0 m2) else (X9_longest_j20 a0 a1 0 a0 m2)
set_option maxRecDepth 100000 in
set_option maxHeartbeats 4000000 in
theorem gX9_longest_j102 (hfl : l.flags = flags0) (t0 : Int32) (m : pmM) : pm_G l Γ zX9_longest (d + 2) 102 [pmU, pmU, pmU, pmU] [.int t0] m (X9_longest_j102 t0 m) := by
  unfold X9_longest_j102
  exact pm_iret rfl dX9_longest_102
set_option maxRecDepth 100000 in
set_option maxHeartbeats 4000000 in
theorem gX9_longest_j89 (hfl : l.flags = flags0) (l2 : Int32) (m : pmM) : pm_G l Γ zX9_longest (d + 2) 89 [pmU, pmU, .int l2, pmU] [] m (X9_longest_j89 l2 m) := by
  unfold X9_longest_j89
  refine pm_iload_n dX9_longest_89 rfl rfl ?_
  refine pm_goto (tgt := 102) dX9_longest_90 rfl ?_
  refine pm_drop (ls2 := [pmU, pmU, pmU, pmU]) (Nat.le_refl _) (pm_le_spec (pm_le_u (pm_le_u (pm_le_u (pm_le_u (pm_le_n)))))) ?_
  exact gX9_longest_j102 hfl l2 m
set_option maxRecDepth 100000 in
set_option maxHeartbeats 4000000 in
theorem gX9_longest_j73 (hfl : l.flags = flags0) (again34 : (Int32 × Int32 × pmM) → pmR) (l0 : Nat) (l1 : Int32) (l3 : Int32) (t0 : Int32) (m : pmM) (hag34 : ∀ s : Int32 × Int32 × pmM, pm_G l Γ zX9_longest (d + 2) 34 [.ref l0, .int l1, .int s.1, .int s.2.1] [] s.2.2 (again34 s)) : pm_G l Γ zX9_longest (d + 2) 73 [.ref l0, .int l1, pmU, .int l3] [.int t0] m (X9_longest_j73 again34 l0 l1 l3 t0 m) := by
  unfold X9_longest_j73
  refine pm_istore_n (ls2 := [.ref l0, .int l1, .int t0, .int l3]) dX9_longest_73 rfl rfl (Nat.le_of_ble_eq_true rfl) rfl ?_
  refine pm_iincn (y := zX9_longest) dX9_longest_74 rfl ki_1 rfl (Nat.le_of_ble_eq_true rfl) (fun x10 => ?_)
  refine pm_eqls (ls2 := [.ref l0, .int l1, .int t0, .int x10]) rfl ?_
  refine pm_goto (tgt := 34) dX9_longest_77 rfl ?_
  exact hag34 (t0, x10, m)
set_option maxRecDepth 100000 in
set_option maxHeartbeats 4000000 in
theorem gX9_longest_j68 (hfl : l.flags = flags0) (again34 : (Int32 × Int32 × pmM) → pmR) (l0 : Nat) (l1 : Int32) (l3 : Int32) (m : pmM) (hag34 : ∀ s : Int32 × Int32 × pmM, pm_G l Γ zX9_longest (d + 2) 34 [.ref l0, .int l1, .int s.1, .int s.2.1] [] s.2.2 (again34 s)) : pm_G l Γ zX9_longest (d + 2) 68 [.ref l0, .int l1, pmU, .int l3] [] m (X9_longest_j68 again34 l0 l1 l3 m) := by
  unfold X9_longest_j68
  refine pm_iload_n dX9_longest_68 rfl rfl ?_
  refine pm_goto (tgt := 73) dX9_longest_69 rfl ?_
  exact gX9_longest_j73 hfl again34 l0 l1 l3 l3 m hag34
set_option maxRecDepth 100000 in
set_option maxHeartbeats 4000000 in
theorem gX9_longest_L34 (hfl : l.flags = flags0) (l0 : Nat) (l1 : Int32) : ∀ (n : Nat) (s : Int32 × Int32 × pmM), pm_G l Γ zX9_longest (d + 2) 34 [.ref l0, .int l1, .int s.1, .int s.2.1] [] s.2.2 (pm_lp n (X9_longest_L34 l0 l1) s) :=
  pm_loop (lsf := fun s : Int32 × Int32 × pmM => [.ref l0, .int l1, .int s.1, .int s.2.1]) (mf := fun s : Int32 × Int32 × pmM => s.2.2) (fun again34 hag34 s34 => by
    unfold X9_longest_L34
    refine pm_iload_n dX9_longest_34 rfl rfl ?_
    refine pm_aload_n dX9_longest_35 rfl rfl ?_
    refine fg_9_13 (y := zX9_longest) (Or.inl tw_1379) dX9_longest_36 (fun x6 => ?_)
    refine pm_icmp_ge (tgt := 80) dX9_longest_39 rfl ?_ ?_
    · refine pm_iload_n dX9_longest_80 rfl rfl ?_
      refine pm_if_eq (tgt := 89) dX9_longest_81 rfl ?_ ?_
      · refine pm_drop (ls2 := [pmU, pmU, .int s34.1, pmU]) (Nat.le_refl _) (pm_le_spec (pm_le_u (pm_le_u (pm_le_v (pm_le_u (pm_le_n)))))) ?_
        exact gX9_longest_j89 hfl s34.1 s34.2.2
      · refine pm_iload_n dX9_longest_84 rfl rfl ?_
        refine pm_iconst (v := (-1)) dX9_longest_85 ki_n1 ?_
        refine pm_icmp_ne (tgt := 93) dX9_longest_86 rfl ?_ ?_
        · refine pm_aload_n dX9_longest_93 rfl rfl ?_
          refine pm_aload_n dX9_longest_94 rfl rfl ?_
          refine fg_9_29 (y := zX9_longest) (Or.inl tw_1395) dX9_longest_95 (fun r7 => ?_)
          refine pm_iload_n dX9_longest_98 rfl rfl ?_
          refine pm_rcv (fun hb9 hc9 => ?_)
          refine pm_kI (d := d + 1) rfl (pm_V (y := zX9_longest) (z := zX9_leftIn) (As := [.ref r7, .int s34.1]) zkX9_leftIn pm_q9 (by decide) tw_1707 tw_1709 tw_130 dX9_longest_99 rfl rfl (Nat.le_of_ble_eq_true rfl) hb9 hc9) (kcX9_leftIn (d := d + 0) hfl l0 r7 s34.1 s34.2.2) (fun x9 m8 => ?_)
          refine pm_drop (ls2 := [pmU, pmU, pmU, pmU]) (Nat.le_refl _) (pm_le_spec (pm_le_u (pm_le_u (pm_le_u (pm_le_u (pm_le_n)))))) ?_
          exact gX9_longest_j102 hfl x9 m8
        · refine pm_drop (ls2 := [pmU, pmU, .int s34.1, pmU]) (Nat.le_refl _) (pm_le_spec (pm_le_u (pm_le_u (pm_le_v (pm_le_u (pm_le_n)))))) ?_
          exact gX9_longest_j89 hfl s34.1 s34.2.2
    · refine pm_iload_n dX9_longest_42 rfl rfl ?_
      refine pm_iconst (v := (-1)) dX9_longest_43 ki_n1 ?_
      refine pm_icmp_eq (tgt := 68) dX9_longest_44 rfl ?_ ?_
      · refine pm_drop (ls2 := [.ref l0, .int l1, pmU, .int s34.2.1]) (Nat.le_refl _) (pm_le_spec (pm_le_v (pm_le_v (pm_le_u (pm_le_v (pm_le_n)))))) ?_
        exact gX9_longest_j68 hfl again34 l0 l1 s34.2.1 s34.2.2 hag34
      · refine pm_aload_n dX9_longest_47 rfl rfl ?_
        refine pm_aload_n dX9_longest_48 rfl rfl ?_
        refine fg_9_29 (y := zX9_longest) (Or.inl tw_1395) dX9_longest_49 (fun r11 => ?_)
        refine pm_iload_n dX9_longest_52 rfl rfl ?_
        refine pm_rcv (fun hb9 hc9 => ?_)
        refine pm_kI (d := d + 1) rfl (pm_V (y := zX9_longest) (z := zX9_leftIn) (As := [.ref r11, .int s34.2.1]) zkX9_leftIn pm_q9 (by decide) tw_1707 tw_1709 tw_130 dX9_longest_53 rfl rfl (Nat.le_of_ble_eq_true rfl) hb9 hc9) (kcX9_leftIn (d := d + 0) hfl l0 r11 s34.2.1 s34.2.2) (fun x13 m12 => ?_)
        refine pm_aload_n dX9_longest_56 rfl rfl ?_
        refine pm_aload_n dX9_longest_57 rfl rfl ?_
        refine fg_9_29 (y := zX9_longest) (Or.inl tw_1395) dX9_longest_58 (fun r14 => ?_)
        refine pm_iload_n dX9_longest_61 rfl rfl ?_
        refine pm_rcv (fun hb9 hc9 => ?_)
        refine pm_kI (d := d + 1) rfl (pm_V (y := zX9_longest) (z := zX9_leftIn) (As := [.ref r14, .int s34.1]) zkX9_leftIn pm_q9 (by decide) tw_1707 tw_1709 tw_130 dX9_longest_62 rfl rfl (Nat.le_of_ble_eq_true rfl) hb9 hc9) (kcX9_leftIn (d := d + 0) hfl l0 r14 s34.1 m12) (fun x16 m15 => ?_)
        refine pm_icmp_le (tgt := 72) dX9_longest_65 rfl ?_ ?_
        · refine pm_iload_n dX9_longest_72 rfl rfl ?_
          refine pm_drop (ls2 := [.ref l0, .int l1, pmU, .int s34.2.1]) (Nat.le_refl _) (pm_le_spec (pm_le_v (pm_le_v (pm_le_u (pm_le_v (pm_le_n)))))) ?_
          exact gX9_longest_j73 hfl again34 l0 l1 s34.2.1 s34.1 m15 hag34
        · refine pm_drop (ls2 := [.ref l0, .int l1, pmU, .int s34.2.1]) (Nat.le_refl _) (pm_le_spec (pm_le_v (pm_le_v (pm_le_u (pm_le_v (pm_le_n)))))) ?_
          exact gX9_longest_j68 hfl again34 l0 l1 s34.2.1 m15 hag34)
set_option maxRecDepth 100000 in
set_option maxHeartbeats 4000000 in
theorem gX9_longest_j20 (hfl : l.flags = flags0) (l0 : Nat) (l1 : Int32) (t0 : Int32) (t1 : Nat) (m : pmM) : pm_G l Γ zX9_longest (d + 2) 20 [.ref l0, .int l1, pmU, pmU] [.int t0, .ref t1] m (X9_longest_j20 l0 l1 t0 t1 m) := by
  unfold X9_longest_j20
  refine pm_iconst (v := 1) dX9_longest_20 ki_1 ?_
  refine pm_iconst (v := 1) dX9_longest_21 ki_1 ?_
  refine pm_rcv (fun hb9 hc9 => ?_)
  refine pm_kI (d := d + 1) rfl (pm_V (y := zX9_longest) (z := zX9_bad) (As := [.int t0, .int 1, .int 1]) zkX9_bad pm_q9 (by decide) tw_1548 tw_1550 tw_99 dX9_longest_22 rfl rfl (Nat.le_of_ble_eq_true rfl) hb9 hc9) (kcX9_bad (d := d + 1) hfl t1 t0 1 1 m) (fun x5 m4 => ?_)
  refine pm_if_eq (tgt := 30) dX9_longest_25 rfl ?_ ?_
  · refine pm_iconst (v := (-1)) dX9_longest_30 ki_n1 ?_
    refine pm_istore_n (ls2 := [.ref l0, .int l1, .int (-1), pmU]) dX9_longest_31 rfl rfl (Nat.le_of_ble_eq_true rfl) rfl ?_
    refine pm_iconst (v := 0) dX9_longest_32 ki_0 ?_
    refine pm_istore_n (ls2 := [.ref l0, .int l1, .int (-1), .int 0]) dX9_longest_33 rfl rfl (Nat.le_of_ble_eq_true rfl) rfl ?_
    exact gX9_longest_L34 hfl l0 l1 pm_N ((-1), 0, m4)
  · refine pm_iconst (v := 0) dX9_longest_28 ki_0 ?_
    exact pm_iret rfl dX9_longest_29
set_option maxRecDepth 100000 in
set_option maxHeartbeats 4000000 in
theorem kcX9_longest (hfl : l.flags = flags0) (a0 : Nat) (a1 : Int32) (m : pmM) : pm_C l Γ zX9_longest (d + 2) [.ref a0, .int a1] m (X9_longest a0 a1 m) := by
  refine pm_enter (ls := [.ref a0, .int a1, pmU, pmU]) hfl (by decide +kernel) rfl (Nat.le_of_ble_eq_true rfl) rfl (Nat.le_of_ble_eq_true rfl) ?_
  unfold X9_longest
  refine pm_aload_n dX9_longest_0 rfl rfl ?_
  refine pm_iconst (v := 0) dX9_longest_1 ki_0 ?_
  refine fp_9_0 (y := zX9_longest) (Or.inl tw_1366) dX9_longest_2 (fun m1 => ?_)
  refine pm_aload_n dX9_longest_5 rfl rfl ?_
  refine pm_iload_n dX9_longest_6 rfl rfl ?_
  refine pm_iconst (v := 0) dX9_longest_7 ki_0 ?_
  refine pm_iconst (v := 1) dX9_longest_8 ki_1 ?_
  refine pm_kI (d := d + 1) rfl (pm_S (y := zX9_longest) (z := zX9_in) (As := [.int a1, .int 0, .int 1]) zkX9_in tw_1545 tw_1546 dX9_longest_9 rfl rfl (Nat.le_of_ble_eq_true rfl)) (kcX9_in (d := d + 1) hfl a1 0 1 m1) (fun x3 m2 => ?_)
  refine pm_if_ne (tgt := 19) dX9_longest_12 rfl ?_ ?_
  · refine pm_iconst (v := 0) dX9_longest_19 ki_0 ?_
    exact gX9_longest_j20 hfl a0 a1 0 a0 m2
  · refine pm_iconst (v := 1) dX9_longest_15 ki_1 ?_
    refine pm_goto (tgt := 20) dX9_longest_16 rfl ?_
    exact gX9_longest_j20 hfl a0 a1 1 a0 m2
-- StruckPageModel.draw(I)I
def X9_draw (a0 : Nat) (a1 : Int32) (m : pmM) : pmR := pm_gI 9 a0 54 m fun x1 => pm_pI 9 a0 54 ((x1 * 1103515245) + 12345) m fun m2 => pm_gI 9 a0 54 m2 fun x3 => if a1 = 0 then none else pm_oI (((x3 >>> ((16 : Int32) &&& 31)) &&& 32767) - ((x3 >>> ((16 : Int32) &&& 31)) &&& 32767) / a1 * a1) m2
set_option maxRecDepth 100000 in
set_option maxHeartbeats 4000000 in
theorem kcX9_draw (hfl : l.flags = flags0) (a0 : Nat) (a1 : Int32) (m : pmM) : pm_C l Γ zX9_draw (d + 0) [.ref a0, .int a1] m (X9_draw a0 a1 m) := by
  refine pm_enter (ls := [.ref a0, .int a1]) hfl (by decide +kernel) rfl (Nat.le_of_ble_eq_true rfl) rfl (Nat.le_of_ble_eq_true rfl) ?_
  unfold X9_draw
  refine pm_aload_n dX9_draw_0 rfl rfl ?_
  refine pm_aload_n dX9_draw_1 rfl rfl ?_
  refine fg_9_54 (y := zX9_draw) (Or.inl tw_1420) dX9_draw_2 (fun x1 => ?_)
  refine pm_ldcw (y := zX9_draw) dX9_draw_5 tw_1939 ?_
  refine pm_imul dX9_draw_8 ?_
  refine pm_sipush (v := 12345) dX9_draw_9 ks_12345 ?_
  refine pm_iadd dX9_draw_12 ?_
  refine fp_9_54 (y := zX9_draw) (Or.inl tw_1420) dX9_draw_13 (fun m2 => ?_)
  refine pm_aload_n dX9_draw_16 rfl rfl ?_
  refine fg_9_54 (y := zX9_draw) (Or.inl tw_1420) dX9_draw_17 (fun x3 => ?_)
  refine pm_bipush (v := 16) dX9_draw_20 kb_16 ?_
  refine pm_ishr dX9_draw_22 ?_
  refine pm_sipush (v := 32767) dX9_draw_23 ks_32767 ?_
  refine pm_iand dX9_draw_26 ?_
  refine pm_iload_n dX9_draw_27 rfl rfl ?_
  refine pm_irem dX9_draw_28 ?_
  exact pm_iret rfl dX9_draw_29
-- StruckPageModel.handBy(III)V
def X9_handBy_j130 (m : pmM) : pmR := pm_oV m
def X9_handBy_j124 (again19 : (Int32 × pmM) → pmR) (l0 : Nat) (l2 : Int32) (l3 : Int32) (l4 : Int32) (m : pmM) : pmR := pm_bI (l4 + 1) fun x26 => again19 (x26, m)
def X9_handBy_L19 (l0 : Nat) (l2 : Int32) (l3 : Int32) (again19 : (Int32 × pmM) → pmR) (s19 : Int32 × pmM) : pmR := if l2 ≤ s19.1 then (X9_handBy_j130 s19.2) else (pm_gI 9 l0 13 s19.2 fun x5 => if x5 ≤ 0 then (X9_handBy_j130 s19.2) else (pm_gI 9 l0 13 s19.2 fun x6 => pm_rc 9 l0 s19.2 <| pm_cI (X9_draw l0 x6 s19.2) fun x8 m7 => pm_gR 9 l0 16 m7 fun r9 => pm_ld 100 r9 x8 m7 fun x10 => pm_rc 9 l0 m7 <| pm_cI (X9_draw l0 x10 m7) fun x12 m11 => pm_gR 9 l0 16 m11 fun r13 => pm_ld 100 r13 x8 m11 fun x14 => pm_rc 9 l0 m11 <| pm_cI (X9_draw l0 x14 m11) fun x16 m15 => pm_gR 9 l0 30 m15 fun r17 => pm_cI (X9_less x12 x16 m15) fun x19 m18 => pm_cI (X9_more x12 x16 m18) fun x21 m20 => pm_rc 9 l0 m20 <| pm_cI (X9_strikes l0 r17 x8 x19 x21 m20) fun x23 m22 => pm_rc 9 l0 m22 <| pm_cI (X9_draw l0 16 m22) fun x25 m24 => if l3 ≤ x25 then (X9_handBy_j124 again19 l0 l2 l3 s19.1 m24) else (pm_gR 9 l0 30 m24 fun r27 => pm_rc 9 l0 m24 <| pm_cI (X9_runs l0 r27 3 m24) fun x29 m28 => if x29 = 0 then (pm_gR 9 l0 30 m28 fun r30 => pm_rc 9 l0 m28 <| pm_cI (X9_begins l0 r30 m28) fun x32 m31 => X9_handBy_j124 again19 l0 l2 l3 s19.1 m31) else (X9_handBy_j124 again19 l0 l2 l3 s19.1 m28))))
def X9_handBy (a0 : Nat) (a1 : Int32) (a2 : Int32) (a3 : Int32) (m : pmM) : pmR := pm_gR 9 a0 29 m fun r1 => pm_gR 9 a0 30 m fun r2 => pm_cV (X9_copies r1 r2 m) fun m3 => pm_pI 9 a0 54 a1 m3 fun m4 => pm_lp pm_N (X9_handBy_L19 a0 a2 a3) (0, m4)
set_option maxRecDepth 100000 in
set_option maxHeartbeats 4000000 in
theorem gX9_handBy_j130 (hfl : l.flags = flags0) (m : pmM) : pm_G l Γ zX9_handBy (d + 6) 130 [pmU, pmU, pmU, pmU, pmU, pmU, pmU, pmU] [] m (X9_handBy_j130 m) := by
  unfold X9_handBy_j130
  exact pm_vret rfl dX9_handBy_130
set_option maxRecDepth 100000 in
set_option maxHeartbeats 4000000 in
theorem gX9_handBy_j124 (hfl : l.flags = flags0) (again19 : (Int32 × pmM) → pmR) (l0 : Nat) (l2 : Int32) (l3 : Int32) (l4 : Int32) (m : pmM) (hag19 : ∀ s : Int32 × pmM, pm_G l Γ zX9_handBy (d + 6) 19 [.ref l0, pmU, .int l2, .int l3, .int s.1, pmU, pmU, pmU] [] s.2 (again19 s)) : pm_G l Γ zX9_handBy (d + 6) 124 [.ref l0, pmU, .int l2, .int l3, .int l4, pmU, pmU, pmU] [] m (X9_handBy_j124 again19 l0 l2 l3 l4 m) := by
  unfold X9_handBy_j124
  refine pm_iincn (y := zX9_handBy) dX9_handBy_124 rfl ki_1 rfl (Nat.le_of_ble_eq_true rfl) (fun x26 => ?_)
  refine pm_eqls (ls2 := [.ref l0, pmU, .int l2, .int l3, .int x26, pmU, pmU, pmU]) rfl ?_
  refine pm_goto (tgt := 19) dX9_handBy_127 rfl ?_
  exact hag19 (x26, m)
set_option maxRecDepth 100000 in
set_option maxHeartbeats 4000000 in
theorem gX9_handBy_L19 (hfl : l.flags = flags0) (l0 : Nat) (l2 : Int32) (l3 : Int32) : ∀ (n : Nat) (s : Int32 × pmM), pm_G l Γ zX9_handBy (d + 6) 19 [.ref l0, pmU, .int l2, .int l3, .int s.1, pmU, pmU, pmU] [] s.2 (pm_lp n (X9_handBy_L19 l0 l2 l3) s) :=
  pm_loop (lsf := fun s : Int32 × pmM => [.ref l0, pmU, .int l2, .int l3, .int s.1, pmU, pmU, pmU]) (mf := fun s : Int32 × pmM => s.2) (fun again19 hag19 s19 => by
    unfold X9_handBy_L19
    refine pm_iload dX9_handBy_19 rfl ?_
    refine pm_iload_n dX9_handBy_21 rfl rfl ?_
    refine pm_icmp_ge (tgt := 130) dX9_handBy_22 rfl ?_ ?_
    · refine pm_drop (ls2 := [pmU, pmU, pmU, pmU, pmU, pmU, pmU, pmU]) (Nat.le_refl _) (pm_le_spec (pm_le_u (pm_le_u (pm_le_u (pm_le_u (pm_le_u (pm_le_u (pm_le_u (pm_le_u (pm_le_n)))))))))) ?_
      exact gX9_handBy_j130 hfl s19.2
    · refine pm_aload_n dX9_handBy_25 rfl rfl ?_
      refine fg_9_13 (y := zX9_handBy) (Or.inl tw_1379) dX9_handBy_26 (fun x5 => ?_)
      refine pm_if_le (tgt := 130) dX9_handBy_29 rfl ?_ ?_
      · refine pm_drop (ls2 := [pmU, pmU, pmU, pmU, pmU, pmU, pmU, pmU]) (Nat.le_refl _) (pm_le_spec (pm_le_u (pm_le_u (pm_le_u (pm_le_u (pm_le_u (pm_le_u (pm_le_u (pm_le_u (pm_le_n)))))))))) ?_
        exact gX9_handBy_j130 hfl s19.2
      · refine pm_aload_n dX9_handBy_32 rfl rfl ?_
        refine pm_aload_n dX9_handBy_33 rfl rfl ?_
        refine fg_9_13 (y := zX9_handBy) (Or.inl tw_1379) dX9_handBy_34 (fun x6 => ?_)
        refine pm_rcv (fun hb9 hc9 => ?_)
        refine pm_kI (d := d + 5) rfl (pm_V (y := zX9_handBy) (z := zX9_draw) (As := [.int x6]) zkX9_draw pm_q9 (by decide) tw_1935 tw_1937 tw_152 dX9_handBy_37 rfl rfl (Nat.le_of_ble_eq_true rfl) hb9 hc9) (kcX9_draw (d := d + 5) hfl l0 x6 s19.2) (fun x8 m7 => ?_)
        refine pm_istore (ls2 := [.ref l0, pmU, .int l2, .int l3, .int s19.1, .int x8, pmU, pmU]) dX9_handBy_40 rfl (Nat.le_of_ble_eq_true rfl) rfl ?_
        refine pm_aload_n dX9_handBy_42 rfl rfl ?_
        refine pm_aload_n dX9_handBy_43 rfl rfl ?_
        refine fg_9_16 (y := zX9_handBy) (Or.inl tw_1382) dX9_handBy_44 (fun r9 => ?_)
        refine pm_iload dX9_handBy_47 rfl ?_
        refine pm_iald (y := zX9_handBy) dX9_handBy_49 (fun x10 => ?_)
        refine pm_rcv (fun hb9 hc9 => ?_)
        refine pm_kI (d := d + 5) rfl (pm_V (y := zX9_handBy) (z := zX9_draw) (As := [.int x10]) zkX9_draw pm_q9 (by decide) tw_1935 tw_1937 tw_152 dX9_handBy_50 rfl rfl (Nat.le_of_ble_eq_true rfl) hb9 hc9) (kcX9_draw (d := d + 5) hfl l0 x10 m7) (fun x12 m11 => ?_)
        refine pm_istore (ls2 := [.ref l0, pmU, .int l2, .int l3, .int s19.1, .int x8, .int x12, pmU]) dX9_handBy_53 rfl (Nat.le_of_ble_eq_true rfl) rfl ?_
        refine pm_aload_n dX9_handBy_55 rfl rfl ?_
        refine pm_aload_n dX9_handBy_56 rfl rfl ?_
        refine fg_9_16 (y := zX9_handBy) (Or.inl tw_1382) dX9_handBy_57 (fun r13 => ?_)
        refine pm_iload dX9_handBy_60 rfl ?_
        refine pm_iald (y := zX9_handBy) dX9_handBy_62 (fun x14 => ?_)
        refine pm_rcv (fun hb9 hc9 => ?_)
        refine pm_kI (d := d + 5) rfl (pm_V (y := zX9_handBy) (z := zX9_draw) (As := [.int x14]) zkX9_draw pm_q9 (by decide) tw_1935 tw_1937 tw_152 dX9_handBy_63 rfl rfl (Nat.le_of_ble_eq_true rfl) hb9 hc9) (kcX9_draw (d := d + 5) hfl l0 x14 m11) (fun x16 m15 => ?_)
        refine pm_istore (ls2 := [.ref l0, pmU, .int l2, .int l3, .int s19.1, .int x8, .int x12, .int x16]) dX9_handBy_66 rfl (Nat.le_of_ble_eq_true rfl) rfl ?_
        refine pm_aload_n dX9_handBy_68 rfl rfl ?_
        refine pm_aload_n dX9_handBy_69 rfl rfl ?_
        refine fg_9_30 (y := zX9_handBy) (Or.inl tw_1396) dX9_handBy_70 (fun r17 => ?_)
        refine pm_iload dX9_handBy_73 rfl ?_
        refine pm_iload dX9_handBy_75 rfl ?_
        refine pm_iload dX9_handBy_77 rfl ?_
        refine pm_kI (d := d + 5) rfl (pm_S (y := zX9_handBy) (z := zX9_less) (As := [.int x12, .int x16]) zkX9_less tw_1722 tw_1723 dX9_handBy_79 rfl rfl (Nat.le_of_ble_eq_true rfl)) (kcX9_less (d := d + 5) hfl x12 x16 m15) (fun x19 m18 => ?_)
        refine pm_iload dX9_handBy_82 rfl ?_
        refine pm_iload dX9_handBy_84 rfl ?_
        refine pm_kI (d := d + 5) rfl (pm_S (y := zX9_handBy) (z := zX9_more) (As := [.int x12, .int x16]) zkX9_more tw_1725 tw_1726 dX9_handBy_86 rfl rfl (Nat.le_of_ble_eq_true rfl)) (kcX9_more (d := d + 5) hfl x12 x16 m18) (fun x21 m20 => ?_)
        refine pm_rcv (fun hb9 hc9 => ?_)
        refine pm_kI (d := d + 5) rfl (pm_V (y := zX9_handBy) (z := zX9_strikes) (As := [.ref r17, .int x8, .int x19, .int x21]) zkX9_strikes pm_q9 (by decide) tw_1689 tw_1691 tw_127 dX9_handBy_89 rfl rfl (Nat.le_of_ble_eq_true rfl) hb9 hc9) (kcX9_strikes (d := d + 0) hfl l0 r17 x8 x19 x21 m20) (fun x23 m22 => ?_)
        refine pm_pop dX9_handBy_92 rfl ?_
        refine pm_aload_n dX9_handBy_93 rfl rfl ?_
        refine pm_bipush (v := 16) dX9_handBy_94 kb_16 ?_
        refine pm_rcv (fun hb9 hc9 => ?_)
        refine pm_kI (d := d + 5) rfl (pm_V (y := zX9_handBy) (z := zX9_draw) (As := [.int 16]) zkX9_draw pm_q9 (by decide) tw_1935 tw_1937 tw_152 dX9_handBy_96 rfl rfl (Nat.le_of_ble_eq_true rfl) hb9 hc9) (kcX9_draw (d := d + 5) hfl l0 16 m22) (fun x25 m24 => ?_)
        refine pm_iload_n dX9_handBy_99 rfl rfl ?_
        refine pm_icmp_ge (tgt := 124) dX9_handBy_100 rfl ?_ ?_
        · refine pm_drop (ls2 := [.ref l0, pmU, .int l2, .int l3, .int s19.1, pmU, pmU, pmU]) (Nat.le_refl _) (pm_le_spec (pm_le_v (pm_le_u (pm_le_v (pm_le_v (pm_le_v (pm_le_u (pm_le_u (pm_le_u (pm_le_n)))))))))) ?_
          exact gX9_handBy_j124 hfl again19 l0 l2 l3 s19.1 m24 hag19
        · refine pm_aload_n dX9_handBy_103 rfl rfl ?_
          refine pm_aload_n dX9_handBy_104 rfl rfl ?_
          refine fg_9_30 (y := zX9_handBy) (Or.inl tw_1396) dX9_handBy_105 (fun r27 => ?_)
          refine pm_iconst (v := 3) dX9_handBy_108 ki_3 ?_
          refine pm_rcv (fun hb9 hc9 => ?_)
          refine pm_kI (d := d + 5) rfl (pm_V (y := zX9_handBy) (z := zX9_runs) (As := [.ref r27, .int 3]) zkX9_runs pm_q9 (by decide) tw_1728 tw_1730 tw_133 dX9_handBy_109 rfl rfl (Nat.le_of_ble_eq_true rfl) hb9 hc9) (kcX9_runs (d := d + 1) hfl l0 r27 3 m24) (fun x29 m28 => ?_)
          refine pm_if_ne (tgt := 124) dX9_handBy_112 rfl ?_ ?_
          · refine pm_drop (ls2 := [.ref l0, pmU, .int l2, .int l3, .int s19.1, pmU, pmU, pmU]) (Nat.le_refl _) (pm_le_spec (pm_le_v (pm_le_u (pm_le_v (pm_le_v (pm_le_v (pm_le_u (pm_le_u (pm_le_u (pm_le_n)))))))))) ?_
            exact gX9_handBy_j124 hfl again19 l0 l2 l3 s19.1 m28 hag19
          · refine pm_aload_n dX9_handBy_115 rfl rfl ?_
            refine pm_aload_n dX9_handBy_116 rfl rfl ?_
            refine fg_9_30 (y := zX9_handBy) (Or.inl tw_1396) dX9_handBy_117 (fun r30 => ?_)
            refine pm_rcv (fun hb9 hc9 => ?_)
            refine pm_kI (d := d + 5) rfl (pm_V (y := zX9_handBy) (z := zX9_begins) (As := [.ref r30]) zkX9_begins pm_q9 (by decide) tw_1755 tw_1757 tw_139 dX9_handBy_120 rfl rfl (Nat.le_of_ble_eq_true rfl) hb9 hc9) (kcX9_begins (d := d + 5) hfl l0 r30 m28) (fun x32 m31 => ?_)
            refine pm_pop dX9_handBy_123 rfl ?_
            refine pm_drop (ls2 := [.ref l0, pmU, .int l2, .int l3, .int s19.1, pmU, pmU, pmU]) (Nat.le_refl _) (pm_le_spec (pm_le_v (pm_le_u (pm_le_v (pm_le_v (pm_le_v (pm_le_u (pm_le_u (pm_le_u (pm_le_n)))))))))) ?_
            exact gX9_handBy_j124 hfl again19 l0 l2 l3 s19.1 m31 hag19)
set_option maxRecDepth 100000 in
set_option maxHeartbeats 4000000 in
theorem kcX9_handBy (hfl : l.flags = flags0) (a0 : Nat) (a1 : Int32) (a2 : Int32) (a3 : Int32) (m : pmM) : pm_C l Γ zX9_handBy (d + 6) [.ref a0, .int a1, .int a2, .int a3] m (X9_handBy a0 a1 a2 a3 m) := by
  refine pm_enter (ls := [.ref a0, .int a1, .int a2, .int a3, pmU, pmU, pmU, pmU]) hfl (by decide +kernel) rfl (Nat.le_of_ble_eq_true rfl) rfl (Nat.le_of_ble_eq_true rfl) ?_
  unfold X9_handBy
  refine pm_aload_n dX9_handBy_0 rfl rfl ?_
  refine fg_9_29 (y := zX9_handBy) (Or.inl tw_1395) dX9_handBy_1 (fun r1 => ?_)
  refine pm_aload_n dX9_handBy_4 rfl rfl ?_
  refine fg_9_30 (y := zX9_handBy) (Or.inl tw_1396) dX9_handBy_5 (fun r2 => ?_)
  refine pm_kV (d := d + 5) rfl (pm_S (y := zX9_handBy) (z := zX9_copies) (As := [.ref r1, .ref r2]) zkX9_copies tw_1678 tw_1679 dX9_handBy_8 rfl rfl (Nat.le_of_ble_eq_true rfl)) (kcX9_copies (d := d + 5) hfl r1 r2 m) (fun m3 => ?_)
  refine pm_aload_n dX9_handBy_11 rfl rfl ?_
  refine pm_iload_n dX9_handBy_12 rfl rfl ?_
  refine fp_9_54 (y := zX9_handBy) (Or.inl tw_1420) dX9_handBy_13 (fun m4 => ?_)
  refine pm_iconst (v := 0) dX9_handBy_16 ki_0 ?_
  refine pm_istore (ls2 := [.ref a0, .int a1, .int a2, .int a3, .int 0, pmU, pmU, pmU]) dX9_handBy_17 rfl (Nat.le_of_ble_eq_true rfl) rfl ?_
  refine pm_drop (ls2 := [.ref a0, pmU, .int a2, .int a3, .int 0, pmU, pmU, pmU]) (Nat.le_refl _) (pm_le_spec (pm_le_v (pm_le_u (pm_le_v (pm_le_v (pm_le_v (pm_le_u (pm_le_u (pm_le_u (pm_le_n)))))))))) ?_
  exact gX9_handBy_L19 hfl a0 a2 a3 pm_N (0, m4)
end GEN27
