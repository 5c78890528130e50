section GEN21
variable {l : Launch} {Γ : pmG} {d : Nat}
-- StruckPageModel.line(II)I
def X9_line_j50 (m : pmM) : pmR := pm_oI 0 m
def X9_line_j171 (t0 : Int32) (m : pmM) : pmR := pm_oI t0 m
def X9_line_j98 (again57 : (Int32 × Int32 × pmM) → pmR) (l0 : Nat) (l1 : Int32) (l2 : Int32) (l4 : Int32) (t0 : Int32) (t1 : Int32) (m : pmM) : pmR := pm_bI (t1 + t0) fun x29 => pm_bI (l4 + 1) fun x30 => again57 (x29, x30, m)
def X9_line_L57 (l0 : Nat) (l1 : Int32) (l2 : Int32) (again57 : (Int32 × Int32 × pmM) → pmR) (s57 : Int32 × Int32 × pmM) : pmR := pm_gR 9 l0 16 s57.2.2 fun r10 => pm_ld 100 r10 l1 s57.2.2 fun x11 => if x11 ≤ s57.2.1 then (if l2 = 0 then (pm_gR 9 l0 16 s57.2.2 fun r20 => pm_ld 100 r20 l1 s57.2.2 fun x21 => X9_line_j171 x21 s57.2.2) else (if l2 = 1 then (pm_gR 9 l0 29 s57.2.2 fun r17 => pm_rc 9 l0 s57.2.2 <| pm_cI (X9_leftIn l0 r17 l1 s57.2.2) fun x19 m18 => X9_line_j171 x19 m18) else (if l2 = 2 then (pm_gR 9 l0 29 s57.2.2 fun r15 => pm_ld 100 r15 ((0 : Int32) + l1) s57.2.2 fun x16 => X9_line_j171 x16 s57.2.2) else (if l2 = 3 then (pm_gR 9 l0 29 s57.2.2 fun r12 => pm_rc 9 l0 s57.2.2 <| pm_cI (X9_leftWord l0 r12 l1 0 s57.2.2) fun x14 m13 => X9_line_j171 x14 m13) else (X9_line_j171 s57.1 s57.2.2))))) else (pm_gR 9 l0 29 s57.2.2 fun r22 => pm_ld 100 r22 ((0 : Int32) + l1) s57.2.2 fun x23 => pm_cI (X9_has x23 s57.2.1 s57.2.2) fun x25 m24 => if x25 = 0 then (pm_gR 9 l0 18 m24 fun r26 => pm_ldR 103 r26 l1 m24 fun r27 => pm_ld 100 r27 s57.2.1 m24 fun x28 => X9_line_j98 again57 l0 l1 l2 s57.2.1 x28 s57.1 m24) else (X9_line_j98 again57 l0 l1 l2 s57.2.1 0 s57.1 m24))
def X9_line_j42 (l0 : Nat) (l1 : Int32) (l2 : Int32) (t0 : Int32) (t1 : Nat) (m : pmM) : pmR := pm_rc 9 t1 m <| pm_cI (X9_bad t1 t0 2 1 m) fun x9 m8 => if x9 = 0 then (pm_lp pm_N (X9_line_L57 l0 l1 l2) (0, 0, m8)) else (X9_line_j50 m8)
def X9_line_j19 (l0 : Nat) (l1 : Int32) (l2 : Int32) (t0 : Int32) (t1 : Nat) (m : pmM) : pmR := pm_rc 9 t1 m <| pm_cI (X9_bad t1 t0 1 0 m) fun x5 m4 => if x5 = 0 then (pm_cI (X9_in l2 0 4 m4) fun x7 m6 => if x7 = 0 then (X9_line_j42 l0 l1 l2 1 l0 m6) else (X9_line_j42 l0 l1 l2 0 l0 m6)) else (X9_line_j50 m4)
def X9_line (a0 : Nat) (a1 : Int32) (a2 : Int32) (m : pmM) : pmR := pm_pI 9 a0 0 0 m fun m1 => pm_rc 9 a0 m1 <| pm_cI (X9_isLine a0 a1 m1) fun x3 m2 => if x3 = 0 then (X9_line_j19 a0 a1 a2 1 a0 m2) else (X9_line_j19 a0 a1 a2 0 a0 m2)
set_option maxRecDepth 100000 in
set_option maxHeartbeats 4000000 in
theorem gX9_line_j50 (hfl : l.flags = flags0) (m : pmM) : pm_G l Γ zX9_line (d + 2) 50 [pmU, pmU, pmU, pmU, pmU] [] m (X9_line_j50 m) := by
  unfold X9_line_j50
  refine pm_iconst (v := 0) dX9_line_50 ki_0 ?_
  exact pm_iret rfl dX9_line_51
set_option maxRecDepth 100000 in
set_option maxHeartbeats 4000000 in
theorem gX9_line_j171 (hfl : l.flags = flags0) (t0 : Int32) (m : pmM) : pm_G l Γ zX9_line (d + 2) 171 [pmU, pmU, pmU, pmU, pmU] [.int t0] m (X9_line_j171 t0 m) := by
  unfold X9_line_j171
  exact pm_iret rfl dX9_line_171
set_option maxRecDepth 100000 in
set_option maxHeartbeats 4000000 in
theorem gX9_line_j98 (hfl : l.flags = flags0) (again57 : (Int32 × Int32 × pmM) → pmR) (l0 : Nat) (l1 : Int32) (l2 : Int32) (l4 : Int32) (t0 : Int32) (t1 : Int32) (m : pmM) (hag57 : ∀ s : Int32 × Int32 × pmM, pm_G l Γ zX9_line (d + 2) 57 [.ref l0, .int l1, .int l2, .int s.1, .int s.2.1] [] s.2.2 (again57 s)) : pm_G l Γ zX9_line (d + 2) 98 [.ref l0, .int l1, .int l2, pmU, .int l4] [.int t0, .int t1] m (X9_line_j98 again57 l0 l1 l2 l4 t0 t1 m) := by
  unfold X9_line_j98
  refine pm_iadd dX9_line_98 ?_
  refine pm_bIn (fun x29 => ?_)
  refine pm_istore_n (ls2 := [.ref l0, .int l1, .int l2, .int x29, .int l4]) dX9_line_99 rfl rfl (Nat.le_of_ble_eq_true rfl) rfl ?_
  refine pm_iincn (y := zX9_line) dX9_line_100 rfl ki_1 rfl (Nat.le_of_ble_eq_true rfl) (fun x30 => ?_)
  refine pm_eqls (ls2 := [.ref l0, .int l1, .int l2, .int x29, .int x30]) rfl ?_
  refine pm_goto (tgt := 57) dX9_line_103 rfl ?_
  exact hag57 (x29, x30, m)
set_option maxRecDepth 100000 in
set_option maxHeartbeats 4000000 in
theorem gX9_line_L57 (hfl : l.flags = flags0) (l0 : Nat) (l1 : Int32) (l2 : Int32) : ∀ (n : Nat) (s : Int32 × Int32 × pmM), pm_G l Γ zX9_line (d + 2) 57 [.ref l0, .int l1, .int l2, .int s.1, .int s.2.1] [] s.2.2 (pm_lp n (X9_line_L57 l0 l1 l2) s) :=
  pm_loop (lsf := fun s : Int32 × Int32 × pmM => [.ref l0, .int l1, .int l2, .int s.1, .int s.2.1]) (mf := fun s : Int32 × Int32 × pmM => s.2.2) (fun again57 hag57 s57 => by
    unfold X9_line_L57
    refine pm_iload dX9_line_57 rfl ?_
    refine pm_aload_n dX9_line_59 rfl rfl ?_
    refine fg_9_16 (y := zX9_line) (Or.inl tw_1382) dX9_line_60 (fun r10 => ?_)
    refine pm_iload_n dX9_line_63 rfl rfl ?_
    refine pm_iald (y := zX9_line) dX9_line_64 (fun x11 => ?_)
    refine pm_icmp_ge (tgt := 106) dX9_line_65 rfl ?_ ?_
    · refine pm_iload_n dX9_line_106 rfl rfl ?_
      refine pm_if_ne (tgt := 119) dX9_line_107 rfl ?_ ?_
      · refine pm_iload_n dX9_line_119 rfl rfl ?_
        refine pm_iconst (v := 1) dX9_line_120 ki_1 ?_
        refine pm_icmp_ne (tgt := 136) dX9_line_121 rfl ?_ ?_
        · refine pm_iload_n dX9_line_136 rfl rfl ?_
          refine pm_iconst (v := 2) dX9_line_137 ki_2 ?_
          refine pm_icmp_ne (tgt := 152) dX9_line_138 rfl ?_ ?_
          · refine pm_iload_n dX9_line_152 rfl rfl ?_
            refine pm_iconst (v := 3) dX9_line_153 ki_3 ?_
            refine pm_icmp_ne (tgt := 170) dX9_line_154 rfl ?_ ?_
            · refine pm_iload_n dX9_line_170 rfl rfl ?_
              refine pm_drop (ls2 := [pmU, pmU, pmU, pmU, pmU]) (Nat.le_refl _) (pm_le_spec (pm_le_u (pm_le_u (pm_le_u (pm_le_u (pm_le_u (pm_le_n))))))) ?_
              exact gX9_line_j171 hfl s57.1 s57.2.2
            · refine pm_aload_n dX9_line_157 rfl rfl ?_
              refine pm_aload_n dX9_line_158 rfl rfl ?_
              refine fg_9_29 (y := zX9_line) (Or.inl tw_1395) dX9_line_159 (fun r12 => ?_)
              refine pm_iload_n dX9_line_162 rfl rfl ?_
              refine pm_iconst (v := 0) dX9_line_163 ki_0 ?_
              refine pm_rcv (fun hb9 hc9 => ?_)
              refine pm_kI (d := d + 1) rfl (pm_V (y := zX9_line) (z := zX9_leftWord) (As := [.ref r12, .int l1, .int 0]) zkX9_leftWord pm_q9 (by decide) tw_1744 tw_1746 tw_137 dX9_line_164 rfl rfl (Nat.le_of_ble_eq_true rfl) hb9 hc9) (kcX9_leftWord (d := d + 0) hfl l0 r12 l1 0 s57.2.2) (fun x14 m13 => ?_)
              refine pm_goto (tgt := 171) dX9_line_167 rfl ?_
              refine pm_drop (ls2 := [pmU, pmU, pmU, pmU, pmU]) (Nat.le_refl _) (pm_le_spec (pm_le_u (pm_le_u (pm_le_u (pm_le_u (pm_le_u (pm_le_n))))))) ?_
              exact gX9_line_j171 hfl x14 m13
          · refine pm_aload_n dX9_line_141 rfl rfl ?_
            refine fg_9_29 (y := zX9_line) (Or.inl tw_1395) dX9_line_142 (fun r15 => ?_)
            refine pm_iconst (v := 0) dX9_line_145 ki_0 ?_
            refine pm_iload_n dX9_line_146 rfl rfl ?_
            refine pm_iadd dX9_line_147 ?_
            refine pm_iald (y := zX9_line) dX9_line_148 (fun x16 => ?_)
            refine pm_goto (tgt := 171) dX9_line_149 rfl ?_
            refine pm_drop (ls2 := [pmU, pmU, pmU, pmU, pmU]) (Nat.le_refl _) (pm_le_spec (pm_le_u (pm_le_u (pm_le_u (pm_le_u (pm_le_u (pm_le_n))))))) ?_
            exact gX9_line_j171 hfl x16 s57.2.2
        · refine pm_aload_n dX9_line_124 rfl rfl ?_
          refine pm_aload_n dX9_line_125 rfl rfl ?_
          refine fg_9_29 (y := zX9_line) (Or.inl tw_1395) dX9_line_126 (fun r17 => ?_)
          refine pm_iload_n dX9_line_129 rfl rfl ?_
          refine pm_rcv (fun hb9 hc9 => ?_)
          refine pm_kI (d := d + 1) rfl (pm_V (y := zX9_line) (z := zX9_leftIn) (As := [.ref r17, .int l1]) zkX9_leftIn pm_q9 (by decide) tw_1707 tw_1709 tw_130 dX9_line_130 rfl rfl (Nat.le_of_ble_eq_true rfl) hb9 hc9) (kcX9_leftIn (d := d + 0) hfl l0 r17 l1 s57.2.2) (fun x19 m18 => ?_)
          refine pm_goto (tgt := 171) dX9_line_133 rfl ?_
          refine pm_drop (ls2 := [pmU, pmU, pmU, pmU, pmU]) (Nat.le_refl _) (pm_le_spec (pm_le_u (pm_le_u (pm_le_u (pm_le_u (pm_le_u (pm_le_n))))))) ?_
          exact gX9_line_j171 hfl x19 m18
      · refine pm_aload_n dX9_line_110 rfl rfl ?_
        refine fg_9_16 (y := zX9_line) (Or.inl tw_1382) dX9_line_111 (fun r20 => ?_)
        refine pm_iload_n dX9_line_114 rfl rfl ?_
        refine pm_iald (y := zX9_line) dX9_line_115 (fun x21 => ?_)
        refine pm_goto (tgt := 171) dX9_line_116 rfl ?_
        refine pm_drop (ls2 := [pmU, pmU, pmU, pmU, pmU]) (Nat.le_refl _) (pm_le_spec (pm_le_u (pm_le_u (pm_le_u (pm_le_u (pm_le_u (pm_le_n))))))) ?_
        exact gX9_line_j171 hfl x21 s57.2.2
    · refine pm_iload_n dX9_line_68 rfl rfl ?_
      refine pm_aload_n dX9_line_69 rfl rfl ?_
      refine fg_9_29 (y := zX9_line) (Or.inl tw_1395) dX9_line_70 (fun r22 => ?_)
      refine pm_iconst (v := 0) dX9_line_73 ki_0 ?_
      refine pm_iload_n dX9_line_74 rfl rfl ?_
      refine pm_iadd dX9_line_75 ?_
      refine pm_iald (y := zX9_line) dX9_line_76 (fun x23 => ?_)
      refine pm_iload dX9_line_77 rfl ?_
      refine pm_kI (d := d + 1) rfl (pm_S (y := zX9_line) (z := zX9_has) (As := [.int x23, .int s57.2.1]) zkX9_has tw_1748 tw_1749 dX9_line_79 rfl rfl (Nat.le_of_ble_eq_true rfl)) (kcX9_has (d := d + 1) hfl x23 s57.2.1 s57.2.2) (fun x25 m24 => ?_)
      refine pm_if_eq (tgt := 89) dX9_line_82 rfl ?_ ?_
      · refine pm_aload_n dX9_line_89 rfl rfl ?_
        refine fg_9_18 (y := zX9_line) (Or.inl tw_1384) dX9_line_90 (fun r26 => ?_)
        refine pm_iload_n dX9_line_93 rfl rfl ?_
        refine pm_aaldI (y := zX9_line) dX9_line_94 (fun r27 => ?_)
        refine pm_iload dX9_line_95 rfl ?_
        refine pm_iald (y := zX9_line) dX9_line_97 (fun x28 => ?_)
        refine pm_drop (ls2 := [.ref l0, .int l1, .int l2, pmU, .int s57.2.1]) (Nat.le_refl _) (pm_le_spec (pm_le_v (pm_le_v (pm_le_v (pm_le_u (pm_le_v (pm_le_n))))))) ?_
        exact gX9_line_j98 hfl again57 l0 l1 l2 s57.2.1 x28 s57.1 m24 hag57
      · refine pm_iconst (v := 0) dX9_line_85 ki_0 ?_
        refine pm_goto (tgt := 98) dX9_line_86 rfl ?_
        refine pm_drop (ls2 := [.ref l0, .int l1, .int l2, pmU, .int s57.2.1]) (Nat.le_refl _) (pm_le_spec (pm_le_v (pm_le_v (pm_le_v (pm_le_u (pm_le_v (pm_le_n))))))) ?_
        exact gX9_line_j98 hfl again57 l0 l1 l2 s57.2.1 0 s57.1 m24 hag57)
set_option maxRecDepth 100000 in
set_option maxHeartbeats 4000000 in
theorem gX9_line_j42 (hfl : l.flags = flags0) (l0 : Nat) (l1 : Int32) (l2 : Int32) (t0 : Int32) (t1 : Nat) (m : pmM) : pm_G l Γ zX9_line (d + 2) 42 [.ref l0, .int l1, .int l2, pmU, pmU] [.int t0, .ref t1] m (X9_line_j42 l0 l1 l2 t0 t1 m) := by
  unfold X9_line_j42
  refine pm_iconst (v := 2) dX9_line_42 ki_2 ?_
  refine pm_iconst (v := 1) dX9_line_43 ki_1 ?_
  refine pm_rcv (fun hb9 hc9 => ?_)
  refine pm_kI (d := d + 1) rfl (pm_V (y := zX9_line) (z := zX9_bad) (As := [.int t0, .int 2, .int 1]) zkX9_bad pm_q9 (by decide) tw_1548 tw_1550 tw_99 dX9_line_44 rfl rfl (Nat.le_of_ble_eq_true rfl) hb9 hc9) (kcX9_bad (d := d + 1) hfl t1 t0 2 1 m) (fun x9 m8 => ?_)
  refine pm_if_eq (tgt := 52) dX9_line_47 rfl ?_ ?_
  · refine pm_iconst (v := 0) dX9_line_52 ki_0 ?_
    refine pm_istore_n (ls2 := [.ref l0, .int l1, .int l2, .int 0, pmU]) dX9_line_53 rfl rfl (Nat.le_of_ble_eq_true rfl) rfl ?_
    refine pm_iconst (v := 0) dX9_line_54 ki_0 ?_
    refine pm_istore (ls2 := [.ref l0, .int l1, .int l2, .int 0, .int 0]) dX9_line_55 rfl (Nat.le_of_ble_eq_true rfl) rfl ?_
    exact gX9_line_L57 hfl l0 l1 l2 pm_N (0, 0, m8)
  · refine pm_drop (ls2 := [pmU, pmU, pmU, pmU, pmU]) (Nat.le_refl _) (pm_le_spec (pm_le_u (pm_le_u (pm_le_u (pm_le_u (pm_le_u (pm_le_n))))))) ?_
    exact gX9_line_j50 hfl m8
set_option maxRecDepth 100000 in
set_option maxHeartbeats 4000000 in
theorem gX9_line_j19 (hfl : l.flags = flags0) (l0 : Nat) (l1 : Int32) (l2 : Int32) (t0 : Int32) (t1 : Nat) (m : pmM) : pm_G l Γ zX9_line (d + 2) 19 [.ref l0, .int l1, .int l2, pmU, pmU] [.int t0, .ref t1] m (X9_line_j19 l0 l1 l2 t0 t1 m) := by
  unfold X9_line_j19
  refine pm_iconst (v := 1) dX9_line_19 ki_1 ?_
  refine pm_iconst (v := 0) dX9_line_20 ki_0 ?_
  refine pm_rcv (fun hb9 hc9 => ?_)
  refine pm_kI (d := d + 1) rfl (pm_V (y := zX9_line) (z := zX9_bad) (As := [.int t0, .int 1, .int 0]) zkX9_bad pm_q9 (by decide) tw_1548 tw_1550 tw_99 dX9_line_21 rfl rfl (Nat.le_of_ble_eq_true rfl) hb9 hc9) (kcX9_bad (d := d + 1) hfl t1 t0 1 0 m) (fun x5 m4 => ?_)
  refine pm_if_ne (tgt := 50) dX9_line_24 rfl ?_ ?_
  · refine pm_drop (ls2 := [pmU, pmU, pmU, pmU, pmU]) (Nat.le_refl _) (pm_le_spec (pm_le_u (pm_le_u (pm_le_u (pm_le_u (pm_le_u (pm_le_n))))))) ?_
    exact gX9_line_j50 hfl m4
  · refine pm_aload_n dX9_line_27 rfl rfl ?_
    refine pm_iload_n dX9_line_28 rfl rfl ?_
    refine pm_iconst (v := 0) dX9_line_29 ki_0 ?_
    refine pm_iconst (v := 4) dX9_line_30 ki_4 ?_
    refine pm_kI (d := d + 1) rfl (pm_S (y := zX9_line) (z := zX9_in) (As := [.int l2, .int 0, .int 4]) zkX9_in tw_1545 tw_1546 dX9_line_31 rfl rfl (Nat.le_of_ble_eq_true rfl)) (kcX9_in (d := d + 1) hfl l2 0 4 m4) (fun x7 m6 => ?_)
    refine pm_if_ne (tgt := 41) dX9_line_34 rfl ?_ ?_
    · refine pm_iconst (v := 0) dX9_line_41 ki_0 ?_
      exact gX9_line_j42 hfl l0 l1 l2 0 l0 m6
    · refine pm_iconst (v := 1) dX9_line_37 ki_1 ?_
      refine pm_goto (tgt := 42) dX9_line_38 rfl ?_
      exact gX9_line_j42 hfl l0 l1 l2 1 l0 m6
set_option maxRecDepth 100000 in
set_option maxHeartbeats 4000000 in
theorem kcX9_line (hfl : l.flags = flags0) (a0 : Nat) (a1 : Int32) (a2 : Int32) (m : pmM) : pm_C l Γ zX9_line (d + 2) [.ref a0, .int a1, .int a2] m (X9_line a0 a1 a2 m) := by
  refine pm_enter (ls := [.ref a0, .int a1, .int a2, pmU, pmU]) hfl (by decide +kernel) rfl (Nat.le_of_ble_eq_true rfl) rfl (Nat.le_of_ble_eq_true rfl) ?_
  unfold X9_line
  refine pm_aload_n dX9_line_0 rfl rfl ?_
  refine pm_iconst (v := 0) dX9_line_1 ki_0 ?_
  refine fp_9_0 (y := zX9_line) (Or.inl tw_1366) dX9_line_2 (fun m1 => ?_)
  refine pm_aload_n dX9_line_5 rfl rfl ?_
  refine pm_aload_n dX9_line_6 rfl rfl ?_
  refine pm_iload_n dX9_line_7 rfl rfl ?_
  refine pm_rcv (fun hb9 hc9 => ?_)
  refine pm_kI (d := d + 1) rfl (pm_V (y := zX9_line) (z := zX9_isLine) (As := [.int a1]) zkX9_isLine pm_q9 (by decide) tw_1781 tw_1783 tw_141 dX9_line_8 rfl rfl (Nat.le_of_ble_eq_true rfl) hb9 hc9) (kcX9_isLine (d := d + 0) hfl a0 a1 m1) (fun x3 m2 => ?_)
  refine pm_if_ne (tgt := 18) dX9_line_11 rfl ?_ ?_
  · refine pm_iconst (v := 0) dX9_line_18 ki_0 ?_
    exact gX9_line_j19 hfl a0 a1 a2 0 a0 m2
  · refine pm_iconst (v := 1) dX9_line_14 ki_1 ?_
    refine pm_goto (tgt := 19) dX9_line_15 rfl ?_
    exact gX9_line_j19 hfl a0 a1 a2 1 a0 m2
-- StruckPageModel.word(III)I
def X9_word_j70 (m : pmM) : pmR := pm_oI 0 m
def X9_word_j99 (t0 : Int32) (m : pmM) : pmR := pm_oI t0 m
def X9_word_j62 (l0 : Nat) (l1 : Int32) (l2 : Int32) (l3 : Int32) (t0 : Int32) (t1 : Nat) (m : pmM) : pmR := pm_rc 9 t1 m <| pm_cI (X9_bad t1 t0 2 1 m) fun x9 m8 => if x9 = 0 then (if l3 = 0 then (pm_gR 9 l0 18 m8 fun r12 => pm_ldR 103 r12 l1 m8 fun r13 => pm_ld 100 r13 l2 m8 fun x14 => X9_word_j99 x14 m8) else (pm_gR 9 l0 29 m8 fun r10 => pm_ld 100 r10 ((0 : Int32) + l1) m8 fun x11 => X9_word_j99 ((x11 >>> (l2 &&& 31)) &&& 1) m8)) else (X9_word_j70 m8)
def X9_word_j39 (l0 : Nat) (l1 : Int32) (l2 : Int32) (l3 : Int32) (t0 : Int32) (t1 : Nat) (m : pmM) : pmR := pm_rc 9 t1 m <| pm_cI (X9_bad t1 t0 1 0 m) fun x5 m4 => if x5 = 0 then (pm_cI (X9_in l3 0 1 m4) fun x7 m6 => if x7 = 0 then (X9_word_j62 l0 l1 l2 l3 1 l0 m6) else (X9_word_j62 l0 l1 l2 l3 0 l0 m6)) else (X9_word_j70 m4)
def X9_word_j34 (l0 : Nat) (l1 : Int32) (l2 : Int32) (l3 : Int32) (t0 : Nat) (m : pmM) : pmR := X9_word_j39 l0 l1 l2 l3 1 t0 m
def X9_word (a0 : Nat) (a1 : Int32) (a2 : Int32) (a3 : Int32) (m : pmM) : pmR := pm_pI 9 a0 0 0 m fun m1 => pm_rc 9 a0 m1 <| pm_cI (X9_isLine a0 a1 m1) fun x3 m2 => if x3 = 0 then (X9_word_j34 a0 a1 a2 a3 a0 m2) else (pm_gR 9 a0 16 m2 fun r15 => pm_cI (X9_less a1 5 m2) fun x17 m16 => pm_ld 100 r15 x17 m16 fun x18 => pm_cI (X9_in a2 0 (x18 - 1) m16) fun x20 m19 => if x20 = 0 then (X9_word_j34 a0 a1 a2 a3 a0 m19) else (X9_word_j39 a0 a1 a2 a3 0 a0 m19))
set_option maxRecDepth 100000 in
set_option maxHeartbeats 4000000 in
theorem gX9_word_j70 (hfl : l.flags = flags0) (m : pmM) : pm_G l Γ zX9_word (d + 2) 70 [pmU, pmU, pmU, pmU] [] m (X9_word_j70 m) := by
  unfold X9_word_j70
  refine pm_iconst (v := 0) dX9_word_70 ki_0 ?_
  exact pm_iret rfl dX9_word_71
set_option maxRecDepth 100000 in
set_option maxHeartbeats 4000000 in
theorem gX9_word_j99 (hfl : l.flags = flags0) (t0 : Int32) (m : pmM) : pm_G l Γ zX9_word (d + 2) 99 [pmU, pmU, pmU, pmU] [.int t0] m (X9_word_j99 t0 m) := by
  unfold X9_word_j99
  exact pm_iret rfl dX9_word_99
set_option maxRecDepth 100000 in
set_option maxHeartbeats 4000000 in
theorem gX9_word_j62 (hfl : l.flags = flags0) (l0 : Nat) (l1 : Int32) (l2 : Int32) (l3 : Int32) (t0 : Int32) (t1 : Nat) (m : pmM) : pm_G l Γ zX9_word (d + 2) 62 [.ref l0, .int l1, .int l2, .int l3] [.int t0, .ref t1] m (X9_word_j62 l0 l1 l2 l3 t0 t1 m) := by
  unfold X9_word_j62
  refine pm_iconst (v := 2) dX9_word_62 ki_2 ?_
  refine pm_iconst (v := 1) dX9_word_63 ki_1 ?_
  refine pm_rcv (fun hb9 hc9 => ?_)
  refine pm_kI (d := d + 1) rfl (pm_V (y := zX9_word) (z := zX9_bad) (As := [.int t0, .int 2, .int 1]) zkX9_bad pm_q9 (by decide) tw_1548 tw_1550 tw_99 dX9_word_64 rfl rfl (Nat.le_of_ble_eq_true rfl) hb9 hc9) (kcX9_bad (d := d + 1) hfl t1 t0 2 1 m) (fun x9 m8 => ?_)
  refine pm_if_eq (tgt := 72) dX9_word_67 rfl ?_ ?_
  · refine pm_iload_n dX9_word_72 rfl rfl ?_
    refine pm_if_ne (tgt := 87) dX9_word_73 rfl ?_ ?_
    · refine pm_aload_n dX9_word_87 rfl rfl ?_
      refine fg_9_29 (y := zX9_word) (Or.inl tw_1395) dX9_word_88 (fun r10 => ?_)
      refine pm_iconst (v := 0) dX9_word_91 ki_0 ?_
      refine pm_iload_n dX9_word_92 rfl rfl ?_
      refine pm_iadd dX9_word_93 ?_
      refine pm_iald (y := zX9_word) dX9_word_94 (fun x11 => ?_)
      refine pm_iload_n dX9_word_95 rfl rfl ?_
      refine pm_ishr dX9_word_96 ?_
      refine pm_iconst (v := 1) dX9_word_97 ki_1 ?_
      refine pm_iand dX9_word_98 ?_
      refine pm_drop (ls2 := [pmU, pmU, pmU, pmU]) (Nat.le_refl _) (pm_le_spec (pm_le_u (pm_le_u (pm_le_u (pm_le_u (pm_le_n)))))) ?_
      exact gX9_word_j99 hfl ((x11 >>> (l2 &&& 31)) &&& 1) m8
    · refine pm_aload_n dX9_word_76 rfl rfl ?_
      refine fg_9_18 (y := zX9_word) (Or.inl tw_1384) dX9_word_77 (fun r12 => ?_)
      refine pm_iload_n dX9_word_80 rfl rfl ?_
      refine pm_aaldI (y := zX9_word) dX9_word_81 (fun r13 => ?_)
      refine pm_iload_n dX9_word_82 rfl rfl ?_
      refine pm_iald (y := zX9_word) dX9_word_83 (fun x14 => ?_)
      refine pm_goto (tgt := 99) dX9_word_84 rfl ?_
      refine pm_drop (ls2 := [pmU, pmU, pmU, pmU]) (Nat.le_refl _) (pm_le_spec (pm_le_u (pm_le_u (pm_le_u (pm_le_u (pm_le_n)))))) ?_
      exact gX9_word_j99 hfl x14 m8
  · refine pm_drop (ls2 := [pmU, pmU, pmU, pmU]) (Nat.le_refl _) (pm_le_spec (pm_le_u (pm_le_u (pm_le_u (pm_le_u (pm_le_n)))))) ?_
    exact gX9_word_j70 hfl m8
set_option maxRecDepth 100000 in
set_option maxHeartbeats 4000000 in
theorem gX9_word_j39 (hfl : l.flags = flags0) (l0 : Nat) (l1 : Int32) (l2 : Int32) (l3 : Int32) (t0 : Int32) (t1 : Nat) (m : pmM) : pm_G l Γ zX9_word (d + 2) 39 [.ref l0, .int l1, .int l2, .int l3] [.int t0, .ref t1] m (X9_word_j39 l0 l1 l2 l3 t0 t1 m) := by
  unfold X9_word_j39
  refine pm_iconst (v := 1) dX9_word_39 ki_1 ?_
  refine pm_iconst (v := 0) dX9_word_40 ki_0 ?_
  refine pm_rcv (fun hb9 hc9 => ?_)
  refine pm_kI (d := d + 1) rfl (pm_V (y := zX9_word) (z := zX9_bad) (As := [.int t0, .int 1, .int 0]) zkX9_bad pm_q9 (by decide) tw_1548 tw_1550 tw_99 dX9_word_41 rfl rfl (Nat.le_of_ble_eq_true rfl) hb9 hc9) (kcX9_bad (d := d + 1) hfl t1 t0 1 0 m) (fun x5 m4 => ?_)
  refine pm_if_ne (tgt := 70) dX9_word_44 rfl ?_ ?_
  · refine pm_drop (ls2 := [pmU, pmU, pmU, pmU]) (Nat.le_refl _) (pm_le_spec (pm_le_u (pm_le_u (pm_le_u (pm_le_u (pm_le_n)))))) ?_
    exact gX9_word_j70 hfl m4
  · refine pm_aload_n dX9_word_47 rfl rfl ?_
    refine pm_iload_n dX9_word_48 rfl rfl ?_
    refine pm_iconst (v := 0) dX9_word_49 ki_0 ?_
    refine pm_iconst (v := 1) dX9_word_50 ki_1 ?_
    refine pm_kI (d := d + 1) rfl (pm_S (y := zX9_word) (z := zX9_in) (As := [.int l3, .int 0, .int 1]) zkX9_in tw_1545 tw_1546 dX9_word_51 rfl rfl (Nat.le_of_ble_eq_true rfl)) (kcX9_in (d := d + 1) hfl l3 0 1 m4) (fun x7 m6 => ?_)
    refine pm_if_ne (tgt := 61) dX9_word_54 rfl ?_ ?_
    · refine pm_iconst (v := 0) dX9_word_61 ki_0 ?_
      exact gX9_word_j62 hfl l0 l1 l2 l3 0 l0 m6
    · refine pm_iconst (v := 1) dX9_word_57 ki_1 ?_
      refine pm_goto (tgt := 62) dX9_word_58 rfl ?_
      exact gX9_word_j62 hfl l0 l1 l2 l3 1 l0 m6
set_option maxRecDepth 100000 in
set_option maxHeartbeats 4000000 in
theorem gX9_word_j34 (hfl : l.flags = flags0) (l0 : Nat) (l1 : Int32) (l2 : Int32) (l3 : Int32) (t0 : Nat) (m : pmM) : pm_G l Γ zX9_word (d + 2) 34 [.ref l0, .int l1, .int l2, .int l3] [.ref t0] m (X9_word_j34 l0 l1 l2 l3 t0 m) := by
  unfold X9_word_j34
  refine pm_iconst (v := 1) dX9_word_34 ki_1 ?_
  refine pm_goto (tgt := 39) dX9_word_35 rfl ?_
  exact gX9_word_j39 hfl l0 l1 l2 l3 1 t0 m
set_option maxRecDepth 100000 in
set_option maxHeartbeats 4000000 in
theorem kcX9_word (hfl : l.flags = flags0) (a0 : Nat) (a1 : Int32) (a2 : Int32) (a3 : Int32) (m : pmM) : pm_C l Γ zX9_word (d + 2) [.ref a0, .int a1, .int a2, .int a3] m (X9_word a0 a1 a2 a3 m) := by
  refine pm_enter (ls := [.ref a0, .int a1, .int a2, .int a3]) hfl (by decide +kernel) rfl (Nat.le_of_ble_eq_true rfl) rfl (Nat.le_of_ble_eq_true rfl) ?_
  unfold X9_word
  refine pm_aload_n dX9_word_0 rfl rfl ?_
  refine pm_iconst (v := 0) dX9_word_1 ki_0 ?_
  refine fp_9_0 (y := zX9_word) (Or.inl tw_1366) dX9_word_2 (fun m1 => ?_)
  refine pm_aload_n dX9_word_5 rfl rfl ?_
  refine pm_aload_n dX9_word_6 rfl rfl ?_
  refine pm_iload_n dX9_word_7 rfl rfl ?_
  refine pm_rcv (fun hb9 hc9 => ?_)
  refine pm_kI (d := d + 1) rfl (pm_V (y := zX9_word) (z := zX9_isLine) (As := [.int a1]) zkX9_isLine pm_q9 (by decide) tw_1781 tw_1783 tw_141 dX9_word_8 rfl rfl (Nat.le_of_ble_eq_true rfl) hb9 hc9) (kcX9_isLine (d := d + 0) hfl a0 a1 m1) (fun x3 m2 => ?_)
  refine pm_if_eq (tgt := 34) dX9_word_11 rfl ?_ ?_
  · exact gX9_word_j34 hfl a0 a1 a2 a3 a0 m2
  · refine pm_iload_n dX9_word_14 rfl rfl ?_
    refine pm_iconst (v := 0) dX9_word_15 ki_0 ?_
    refine pm_aload_n dX9_word_16 rfl rfl ?_
    refine fg_9_16 (y := zX9_word) (Or.inl tw_1382) dX9_word_17 (fun r15 => ?_)
    refine pm_iload_n dX9_word_20 rfl rfl ?_
    refine pm_iconst (v := 5) dX9_word_21 ki_5 ?_
    refine pm_kI (d := d + 1) rfl (pm_S (y := zX9_word) (z := zX9_less) (As := [.int a1, .int 5]) zkX9_less tw_1722 tw_1723 dX9_word_22 rfl rfl (Nat.le_of_ble_eq_true rfl)) (kcX9_less (d := d + 1) hfl a1 5 m2) (fun x17 m16 => ?_)
    refine pm_iald (y := zX9_word) dX9_word_25 (fun x18 => ?_)
    refine pm_iconst (v := 1) dX9_word_26 ki_1 ?_
    refine pm_isub dX9_word_27 ?_
    refine pm_kI (d := d + 1) rfl (pm_S (y := zX9_word) (z := zX9_in) (As := [.int a2, .int 0, .int (x18 - 1)]) zkX9_in tw_1545 tw_1546 dX9_word_28 rfl rfl (Nat.le_of_ble_eq_true rfl)) (kcX9_in (d := d + 1) hfl a2 0 (x18 - 1) m16) (fun x20 m19 => ?_)
    refine pm_if_ne (tgt := 38) dX9_word_31 rfl ?_ ?_
    · refine pm_iconst (v := 0) dX9_word_38 ki_0 ?_
      exact gX9_word_j39 hfl a0 a1 a2 a3 0 a0 m19
    · exact gX9_word_j34 hfl a0 a1 a2 a3 a0 m19
-- StruckPageModel.reads(I)I
def X9_reads_L29 (l0 : Nat) (again29 : (Int32 × Int32 × pmM) → pmR) (s29 : Int32 × Int32 × pmM) : pmR := pm_gI 9 l0 13 s29.2.2 fun x4 => if x4 ≤ s29.2.1 then (pm_oI (-1) s29.2.2) else (pm_gR 9 l0 29 s29.2.2 fun r5 => pm_rc 9 l0 s29.2.2 <| pm_cI (X9_leftIn l0 r5 s29.2.1 s29.2.2) fun x7 m6 => if x7 ≤ s29.1 then (pm_gR 9 l0 29 m6 fun r8 => pm_rc 9 l0 m6 <| pm_cI (X9_leftIn l0 r8 s29.2.1 m6) fun x10 m9 => pm_bI (s29.1 - x10) fun x11 => pm_bI (s29.2.1 + 1) fun x12 => again29 (x11, x12, m9)) else (pm_gR 9 l0 29 m6 fun r13 => pm_rc 9 l0 m6 <| pm_cI (X9_leftWord l0 r13 s29.2.1 s29.1 m6) fun x15 m14 => pm_oI x15 m14))
def X9_reads_j15 (l0 : Nat) (l1 : Int32) (t0 : Int32) (t1 : Nat) (m : pmM) : pmR := pm_rc 9 t1 m <| pm_cI (X9_bad t1 t0 1 1 m) fun x3 m2 => if x3 = 0 then (pm_lp pm_N (X9_reads_L29 l0) (l1, 0, m2)) else (pm_oI 0 m2)
def X9_reads (a0 : Nat) (a1 : Int32) (m : pmM) : pmR := pm_pI 9 a0 0 0 m fun m1 => if (0 : Int32) ≤ a1 then (X9_reads_j15 a0 a1 0 a0 m1) else (X9_reads_j15 a0 a1 1 a0 m1)
set_option maxRecDepth 100000 in
set_option maxHeartbeats 4000000 in
theorem gX9_reads_L29 (hfl : l.flags = flags0) (l0 : Nat) : ∀ (n : Nat) (s : Int32 × Int32 × pmM), pm_G l Γ zX9_reads (d + 2) 29 [.ref l0, pmU, .int s.1, .int s.2.1] [] s.2.2 (pm_lp n (X9_reads_L29 l0) s) :=
  pm_loop (lsf := fun s : Int32 × Int32 × pmM => [.ref l0, pmU, .int s.1, .int s.2.1]) (mf := fun s : Int32 × Int32 × pmM => s.2.2) (fun again29 hag29 s29 => by
    unfold X9_reads_L29
    refine pm_iload_n dX9_reads_29 rfl rfl ?_
    refine pm_aload_n dX9_reads_30 rfl rfl ?_
    refine fg_9_13 (y := zX9_reads) (Or.inl tw_1379) dX9_reads_31 (fun x4 => ?_)
    refine pm_icmp_ge (tgt := 79) dX9_reads_34 rfl ?_ ?_
    · refine pm_iconst (v := (-1)) dX9_reads_79 ki_n1 ?_
      exact pm_iret rfl dX9_reads_80
    · refine pm_iload_n dX9_reads_37 rfl rfl ?_
      refine pm_aload_n dX9_reads_38 rfl rfl ?_
      refine pm_aload_n dX9_reads_39 rfl rfl ?_
      refine fg_9_29 (y := zX9_reads) (Or.inl tw_1395) dX9_reads_40 (fun r5 => ?_)
      refine pm_iload_n dX9_reads_43 rfl rfl ?_
      refine pm_rcv (fun hb9 hc9 => ?_)
      refine pm_kI (d := d + 1) rfl (pm_V (y := zX9_reads) (z := zX9_leftIn) (As := [.ref r5, .int s29.2.1]) zkX9_leftIn pm_q9 (by decide) tw_1707 tw_1709 tw_130 dX9_reads_44 rfl rfl (Nat.le_of_ble_eq_true rfl) hb9 hc9) (kcX9_leftIn (d := d + 0) hfl l0 r5 s29.2.1 s29.2.2) (fun x7 m6 => ?_)
      refine pm_icmp_ge (tgt := 61) dX9_reads_47 rfl ?_ ?_
      · refine pm_iload_n dX9_reads_61 rfl rfl ?_
        refine pm_aload_n dX9_reads_62 rfl rfl ?_
        refine pm_aload_n dX9_reads_63 rfl rfl ?_
        refine fg_9_29 (y := zX9_reads) (Or.inl tw_1395) dX9_reads_64 (fun r8 => ?_)
        refine pm_iload_n dX9_reads_67 rfl rfl ?_
        refine pm_rcv (fun hb9 hc9 => ?_)
        refine pm_kI (d := d + 1) rfl (pm_V (y := zX9_reads) (z := zX9_leftIn) (As := [.ref r8, .int s29.2.1]) zkX9_leftIn pm_q9 (by decide) tw_1707 tw_1709 tw_130 dX9_reads_68 rfl rfl (Nat.le_of_ble_eq_true rfl) hb9 hc9) (kcX9_leftIn (d := d + 0) hfl l0 r8 s29.2.1 m6) (fun x10 m9 => ?_)
        refine pm_isub dX9_reads_71 ?_
        refine pm_bIn (fun x11 => ?_)
        refine pm_istore_n (ls2 := [.ref l0, pmU, .int x11, .int s29.2.1]) dX9_reads_72 rfl rfl (Nat.le_of_ble_eq_true rfl) rfl ?_
        refine pm_iincn (y := zX9_reads) dX9_reads_73 rfl ki_1 rfl (Nat.le_of_ble_eq_true rfl) (fun x12 => ?_)
        refine pm_eqls (ls2 := [.ref l0, pmU, .int x11, .int x12]) rfl ?_
        refine pm_goto (tgt := 29) dX9_reads_76 rfl ?_
        exact hag29 (x11, x12, m9)
      · refine pm_aload_n dX9_reads_50 rfl rfl ?_
        refine pm_aload_n dX9_reads_51 rfl rfl ?_
        refine fg_9_29 (y := zX9_reads) (Or.inl tw_1395) dX9_reads_52 (fun r13 => ?_)
        refine pm_iload_n dX9_reads_55 rfl rfl ?_
        refine pm_iload_n dX9_reads_56 rfl rfl ?_
        refine pm_rcv (fun hb9 hc9 => ?_)
        refine pm_kI (d := d + 1) rfl (pm_V (y := zX9_reads) (z := zX9_leftWord) (As := [.ref r13, .int s29.2.1, .int s29.1]) zkX9_leftWord pm_q9 (by decide) tw_1744 tw_1746 tw_137 dX9_reads_57 rfl rfl (Nat.le_of_ble_eq_true rfl) hb9 hc9) (kcX9_leftWord (d := d + 0) hfl l0 r13 s29.2.1 s29.1 m6) (fun x15 m14 => ?_)
        exact pm_iret rfl dX9_reads_60)
set_option maxRecDepth 100000 in
set_option maxHeartbeats 4000000 in
theorem gX9_reads_j15 (hfl : l.flags = flags0) (l0 : Nat) (l1 : Int32) (t0 : Int32) (t1 : Nat) (m : pmM) : pm_G l Γ zX9_reads (d + 2) 15 [.ref l0, .int l1, pmU, pmU] [.int t0, .ref t1] m (X9_reads_j15 l0 l1 t0 t1 m) := by
  unfold X9_reads_j15
  refine pm_iconst (v := 1) dX9_reads_15 ki_1 ?_
  refine pm_iconst (v := 1) dX9_reads_16 ki_1 ?_
  refine pm_rcv (fun hb9 hc9 => ?_)
  refine pm_kI (d := d + 1) rfl (pm_V (y := zX9_reads) (z := zX9_bad) (As := [.int t0, .int 1, .int 1]) zkX9_bad pm_q9 (by decide) tw_1548 tw_1550 tw_99 dX9_reads_17 rfl rfl (Nat.le_of_ble_eq_true rfl) hb9 hc9) (kcX9_bad (d := d + 1) hfl t1 t0 1 1 m) (fun x3 m2 => ?_)
  refine pm_if_eq (tgt := 25) dX9_reads_20 rfl ?_ ?_
  · refine pm_iload_n dX9_reads_25 rfl rfl ?_
    refine pm_istore_n (ls2 := [.ref l0, .int l1, .int l1, pmU]) dX9_reads_26 rfl rfl (Nat.le_of_ble_eq_true rfl) rfl ?_
    refine pm_iconst (v := 0) dX9_reads_27 ki_0 ?_
    refine pm_istore_n (ls2 := [.ref l0, .int l1, .int l1, .int 0]) dX9_reads_28 rfl rfl (Nat.le_of_ble_eq_true rfl) rfl ?_
    refine pm_drop (ls2 := [.ref l0, pmU, .int l1, .int 0]) (Nat.le_refl _) (pm_le_spec (pm_le_v (pm_le_u (pm_le_v (pm_le_v (pm_le_n)))))) ?_
    exact gX9_reads_L29 hfl l0 pm_N (l1, 0, m2)
  · refine pm_iconst (v := 0) dX9_reads_23 ki_0 ?_
    exact pm_iret rfl dX9_reads_24
set_option maxRecDepth 100000 in
set_option maxHeartbeats 4000000 in
theorem kcX9_reads (hfl : l.flags = flags0) (a0 : Nat) (a1 : Int32) (m : pmM) : pm_C l Γ zX9_reads (d + 2) [.ref a0, .int a1] m (X9_reads a0 a1 m) := by
  refine pm_enter (ls := [.ref a0, .int a1, pmU, pmU]) hfl (by decide +kernel) rfl (Nat.le_of_ble_eq_true rfl) rfl (Nat.le_of_ble_eq_true rfl) ?_
  unfold X9_reads
  refine pm_aload_n dX9_reads_0 rfl rfl ?_
  refine pm_iconst (v := 0) dX9_reads_1 ki_0 ?_
  refine fp_9_0 (y := zX9_reads) (Or.inl tw_1366) dX9_reads_2 (fun m1 => ?_)
  refine pm_aload_n dX9_reads_5 rfl rfl ?_
  refine pm_iload_n dX9_reads_6 rfl rfl ?_
  refine pm_if_ge (tgt := 14) dX9_reads_7 rfl ?_ ?_
  · refine pm_iconst (v := 0) dX9_reads_14 ki_0 ?_
    exact gX9_reads_j15 hfl a0 a1 0 a0 m1
  · refine pm_iconst (v := 1) dX9_reads_10 ki_1 ?_
    refine pm_goto (tgt := 15) dX9_reads_11 rfl ?_
    exact gX9_reads_j15 hfl a0 a1 1 a0 m1
-- StruckPageModel.cell(I)I
def X9_cell_j20 (l0 : Nat) (l1 : Int32) (t0 : Int32) (t1 : Nat) (m : pmM) : pmR := pm_rc 9 t1 m <| pm_cI (X9_bad t1 t0 1 1 m) fun x5 m4 => if x5 = 0 then (pm_gR 9 l0 29 m4 fun r6 => pm_ld 100 r6 ((6 : Int32) + l1) m4 fun x7 => pm_oI x7 m4) else (pm_oI 0 m4)
def X9_cell (a0 : Nat) (a1 : Int32) (m : pmM) : pmR := pm_pI 9 a0 0 0 m fun m1 => pm_cI (X9_in a1 0 3 m1) fun x3 m2 => if x3 = 0 then (X9_cell_j20 a0 a1 1 a0 m2) else (X9_cell_j20 a0 a1 0 a0 m2)
set_option maxRecDepth 100000 in
set_option maxHeartbeats 4000000 in
theorem gX9_cell_j20 (hfl : l.flags = flags0) (l0 : Nat) (l1 : Int32) (t0 : Int32) (t1 : Nat) (m : pmM) : pm_G l Γ zX9_cell (d + 1) 20 [.ref l0, .int l1] [.int t0, .ref t1] m (X9_cell_j20 l0 l1 t0 t1 m) := by
  unfold X9_cell_j20
  refine pm_iconst (v := 1) dX9_cell_20 ki_1 ?_
  refine pm_iconst (v := 1) dX9_cell_21 ki_1 ?_
  refine pm_rcv (fun hb9 hc9 => ?_)
  refine pm_kI (d := d + 0) rfl (pm_V (y := zX9_cell) (z := zX9_bad) (As := [.int t0, .int 1, .int 1]) zkX9_bad pm_q9 (by decide) tw_1548 tw_1550 tw_99 dX9_cell_22 rfl rfl (Nat.le_of_ble_eq_true rfl) hb9 hc9) (kcX9_bad (d := d + 0) hfl t1 t0 1 1 m) (fun x5 m4 => ?_)
  refine pm_if_eq (tgt := 30) dX9_cell_25 rfl ?_ ?_
  · refine pm_aload_n dX9_cell_30 rfl rfl ?_
    refine fg_9_29 (y := zX9_cell) (Or.inl tw_1395) dX9_cell_31 (fun r6 => ?_)
    refine pm_bipush (v := 6) dX9_cell_34 kb_6 ?_
    refine pm_iload_n dX9_cell_36 rfl rfl ?_
    refine pm_iadd dX9_cell_37 ?_
    refine pm_iald (y := zX9_cell) dX9_cell_38 (fun x7 => ?_)
    exact pm_iret rfl dX9_cell_39
  · refine pm_iconst (v := 0) dX9_cell_28 ki_0 ?_
    exact pm_iret rfl dX9_cell_29
set_option maxRecDepth 100000 in
set_option maxHeartbeats 4000000 in
theorem kcX9_cell (hfl : l.flags = flags0) (a0 : Nat) (a1 : Int32) (m : pmM) : pm_C l Γ zX9_cell (d + 1) [.ref a0, .int a1] m (X9_cell a0 a1 m) := by
  refine pm_enter (ls := [.ref a0, .int a1]) hfl (by decide +kernel) rfl (Nat.le_of_ble_eq_true rfl) rfl (Nat.le_of_ble_eq_true rfl) ?_
  unfold X9_cell
  refine pm_aload_n dX9_cell_0 rfl rfl ?_
  refine pm_iconst (v := 0) dX9_cell_1 ki_0 ?_
  refine fp_9_0 (y := zX9_cell) (Or.inl tw_1366) dX9_cell_2 (fun m1 => ?_)
  refine pm_aload_n dX9_cell_5 rfl rfl ?_
  refine pm_iload_n dX9_cell_6 rfl rfl ?_
  refine pm_iconst (v := 0) dX9_cell_7 ki_0 ?_
  refine pm_iconst (v := 3) dX9_cell_8 ki_3 ?_
  refine pm_kI (d := d + 0) rfl (pm_S (y := zX9_cell) (z := zX9_in) (As := [.int a1, .int 0, .int 3]) zkX9_in tw_1545 tw_1546 dX9_cell_9 rfl rfl (Nat.le_of_ble_eq_true rfl)) (kcX9_in (d := d + 0) hfl a1 0 3 m1) (fun x3 m2 => ?_)
  refine pm_if_ne (tgt := 19) dX9_cell_12 rfl ?_ ?_
  · refine pm_iconst (v := 0) dX9_cell_19 ki_0 ?_
    exact gX9_cell_j20 hfl a0 a1 0 a0 m2
  · refine pm_iconst (v := 1) dX9_cell_15 ki_1 ?_
    refine pm_goto (tgt := 20) dX9_cell_16 rfl ?_
    exact gX9_cell_j20 hfl a0 a1 1 a0 m2
-- StruckPageModel.cost(III)I
def X9_cost_j90 (m : pmM) : pmR := pm_oI 0 m
def X9_cost_j82 (l0 : Nat) (l1 : Int32) (l2 : Int32) (l3 : Int32) (t0 : Int32) (t1 : Nat) (m : pmM) : pmR := pm_rc 9 t1 m <| pm_cI (X9_bad t1 t0 2 1 m) fun x7 m6 => if x7 = 0 then (pm_gR 9 l0 29 m6 fun r8 => pm_rc 9 l0 m6 <| pm_cI (X9_costOf l0 r8 l1 l2 l3 m6) fun x10 m9 => pm_oI x10 m9) else (X9_cost_j90 m6)
def X9_cost_j63 (l0 : Nat) (l1 : Int32) (l2 : Int32) (l3 : Int32) (t0 : Int32) (t1 : Nat) (m : pmM) : pmR := pm_rc 9 t1 m <| pm_cI (X9_bad t1 t0 1 0 m) fun x5 m4 => if x5 = 0 then (if l2 ≤ l3 then (X9_cost_j82 l0 l1 l2 l3 0 l0 m4) else (X9_cost_j82 l0 l1 l2 l3 1 l0 m4)) else (X9_cost_j90 m4)
def X9_cost_j50 (l0 : Nat) (l1 : Int32) (l2 : Int32) (l3 : Int32) (t0 : Int32) (m : pmM) : pmR := if t0 = 0 then (X9_cost_j63 l0 l1 l2 l3 1 l0 m) else (X9_cost_j63 l0 l1 l2 l3 0 l0 m)
def X9_cost_j49 (l0 : Nat) (l1 : Int32) (l2 : Int32) (l3 : Int32) (m : pmM) : pmR := X9_cost_j50 l0 l1 l2 l3 0 m
def X9_cost (a0 : Nat) (a1 : Int32) (a2 : Int32) (a3 : Int32) (m : pmM) : pmR := pm_pI 9 a0 0 0 m fun m1 => pm_rc 9 a0 m1 <| pm_cI (X9_isLine a0 a1 m1) fun x3 m2 => if x3 = 0 then (X9_cost_j49 a0 a1 a2 a3 m2) else (pm_gR 9 a0 16 m2 fun r11 => pm_ld 100 r11 a1 m2 fun x12 => pm_cI (X9_in a2 0 (x12 - 1) m2) fun x14 m13 => if x14 = 0 then (X9_cost_j49 a0 a1 a2 a3 m13) else (pm_gR 9 a0 16 m13 fun r15 => pm_ld 100 r15 a1 m13 fun x16 => pm_cI (X9_in a3 0 (x16 - 1) m13) fun x18 m17 => if x18 = 0 then (X9_cost_j49 a0 a1 a2 a3 m17) else (X9_cost_j50 a0 a1 a2 a3 1 m17)))
set_option maxRecDepth 100000 in
set_option maxHeartbeats 4000000 in
theorem gX9_cost_j90 (hfl : l.flags = flags0) (m : pmM) : pm_G l Γ zX9_cost (d + 5) 90 [pmU, pmU, pmU, pmU, pmU] [] m (X9_cost_j90 m) := by
  unfold X9_cost_j90
  refine pm_iconst (v := 0) dX9_cost_90 ki_0 ?_
  exact pm_iret rfl dX9_cost_91
set_option maxRecDepth 100000 in
set_option maxHeartbeats 4000000 in
theorem gX9_cost_j82 (hfl : l.flags = flags0) (l0 : Nat) (l1 : Int32) (l2 : Int32) (l3 : Int32) (t0 : Int32) (t1 : Nat) (m : pmM) : pm_G l Γ zX9_cost (d + 5) 82 [.ref l0, .int l1, .int l2, .int l3, pmU] [.int t0, .ref t1] m (X9_cost_j82 l0 l1 l2 l3 t0 t1 m) := by
  unfold X9_cost_j82
  refine pm_iconst (v := 2) dX9_cost_82 ki_2 ?_
  refine pm_iconst (v := 1) dX9_cost_83 ki_1 ?_
  refine pm_rcv (fun hb9 hc9 => ?_)
  refine pm_kI (d := d + 4) rfl (pm_V (y := zX9_cost) (z := zX9_bad) (As := [.int t0, .int 2, .int 1]) zkX9_bad pm_q9 (by decide) tw_1548 tw_1550 tw_99 dX9_cost_84 rfl rfl (Nat.le_of_ble_eq_true rfl) hb9 hc9) (kcX9_bad (d := d + 4) hfl t1 t0 2 1 m) (fun x7 m6 => ?_)
  refine pm_if_eq (tgt := 92) dX9_cost_87 rfl ?_ ?_
  · refine pm_aload_n dX9_cost_92 rfl rfl ?_
    refine pm_aload_n dX9_cost_93 rfl rfl ?_
    refine fg_9_29 (y := zX9_cost) (Or.inl tw_1395) dX9_cost_94 (fun r8 => ?_)
    refine pm_iload_n dX9_cost_97 rfl rfl ?_
    refine pm_iload_n dX9_cost_98 rfl rfl ?_
    refine pm_iload_n dX9_cost_99 rfl rfl ?_
    refine pm_rcv (fun hb9 hc9 => ?_)
    refine pm_kI (d := d + 4) rfl (pm_V (y := zX9_cost) (z := zX9_costOf) (As := [.ref r8, .int l1, .int l2, .int l3]) zkX9_costOf pm_q9 (by decide) tw_1693 tw_1695 tw_128 dX9_cost_100 rfl rfl (Nat.le_of_ble_eq_true rfl) hb9 hc9) (kcX9_costOf (d := d + 0) hfl l0 r8 l1 l2 l3 m6) (fun x10 m9 => ?_)
    exact pm_iret rfl dX9_cost_103
  · refine pm_drop (ls2 := [pmU, pmU, pmU, pmU, pmU]) (Nat.le_refl _) (pm_le_spec (pm_le_u (pm_le_u (pm_le_u (pm_le_u (pm_le_u (pm_le_n))))))) ?_
    exact gX9_cost_j90 hfl m6
set_option maxRecDepth 100000 in
set_option maxHeartbeats 4000000 in
theorem gX9_cost_j63 (hfl : l.flags = flags0) (l0 : Nat) (l1 : Int32) (l2 : Int32) (l3 : Int32) (t0 : Int32) (t1 : Nat) (m : pmM) : pm_G l Γ zX9_cost (d + 5) 63 [.ref l0, .int l1, .int l2, .int l3, pmU] [.int t0, .ref t1] m (X9_cost_j63 l0 l1 l2 l3 t0 t1 m) := by
  unfold X9_cost_j63
  refine pm_iconst (v := 1) dX9_cost_63 ki_1 ?_
  refine pm_iconst (v := 0) dX9_cost_64 ki_0 ?_
  refine pm_rcv (fun hb9 hc9 => ?_)
  refine pm_kI (d := d + 4) rfl (pm_V (y := zX9_cost) (z := zX9_bad) (As := [.int t0, .int 1, .int 0]) zkX9_bad pm_q9 (by decide) tw_1548 tw_1550 tw_99 dX9_cost_65 rfl rfl (Nat.le_of_ble_eq_true rfl) hb9 hc9) (kcX9_bad (d := d + 4) hfl t1 t0 1 0 m) (fun x5 m4 => ?_)
  refine pm_if_ne (tgt := 90) dX9_cost_68 rfl ?_ ?_
  · refine pm_drop (ls2 := [pmU, pmU, pmU, pmU, pmU]) (Nat.le_refl _) (pm_le_spec (pm_le_u (pm_le_u (pm_le_u (pm_le_u (pm_le_u (pm_le_n))))))) ?_
    exact gX9_cost_j90 hfl m4
  · refine pm_aload_n dX9_cost_71 rfl rfl ?_
    refine pm_iload_n dX9_cost_72 rfl rfl ?_
    refine pm_iload_n dX9_cost_73 rfl rfl ?_
    refine pm_icmp_ge (tgt := 81) dX9_cost_74 rfl ?_ ?_
    · refine pm_iconst (v := 0) dX9_cost_81 ki_0 ?_
      exact gX9_cost_j82 hfl l0 l1 l2 l3 0 l0 m4
    · refine pm_iconst (v := 1) dX9_cost_77 ki_1 ?_
      refine pm_goto (tgt := 82) dX9_cost_78 rfl ?_
      exact gX9_cost_j82 hfl l0 l1 l2 l3 1 l0 m4
set_option maxRecDepth 100000 in
set_option maxHeartbeats 4000000 in
theorem gX9_cost_j50 (hfl : l.flags = flags0) (l0 : Nat) (l1 : Int32) (l2 : Int32) (l3 : Int32) (t0 : Int32) (m : pmM) : pm_G l Γ zX9_cost (d + 5) 50 [.ref l0, .int l1, .int l2, .int l3, pmU] [.int t0] m (X9_cost_j50 l0 l1 l2 l3 t0 m) := by
  unfold X9_cost_j50
  refine pm_istore (ls2 := [.ref l0, .int l1, .int l2, .int l3, .int t0]) dX9_cost_50 rfl (Nat.le_of_ble_eq_true rfl) rfl ?_
  refine pm_aload_n dX9_cost_52 rfl rfl ?_
  refine pm_iload dX9_cost_53 rfl ?_
  refine pm_if_ne (tgt := 62) dX9_cost_55 rfl ?_ ?_
  · refine pm_iconst (v := 0) dX9_cost_62 ki_0 ?_
    refine pm_drop (ls2 := [.ref l0, .int l1, .int l2, .int l3, pmU]) (Nat.le_refl _) (pm_le_spec (pm_le_v (pm_le_v (pm_le_v (pm_le_v (pm_le_u (pm_le_n))))))) ?_
    exact gX9_cost_j63 hfl l0 l1 l2 l3 0 l0 m
  · refine pm_iconst (v := 1) dX9_cost_58 ki_1 ?_
    refine pm_goto (tgt := 63) dX9_cost_59 rfl ?_
    refine pm_drop (ls2 := [.ref l0, .int l1, .int l2, .int l3, pmU]) (Nat.le_refl _) (pm_le_spec (pm_le_v (pm_le_v (pm_le_v (pm_le_v (pm_le_u (pm_le_n))))))) ?_
    exact gX9_cost_j63 hfl l0 l1 l2 l3 1 l0 m
set_option maxRecDepth 100000 in
set_option maxHeartbeats 4000000 in
theorem gX9_cost_j49 (hfl : l.flags = flags0) (l0 : Nat) (l1 : Int32) (l2 : Int32) (l3 : Int32) (m : pmM) : pm_G l Γ zX9_cost (d + 5) 49 [.ref l0, .int l1, .int l2, .int l3, pmU] [] m (X9_cost_j49 l0 l1 l2 l3 m) := by
  unfold X9_cost_j49
  refine pm_iconst (v := 0) dX9_cost_49 ki_0 ?_
  exact gX9_cost_j50 hfl l0 l1 l2 l3 0 m
set_option maxRecDepth 100000 in
set_option maxHeartbeats 4000000 in
theorem kcX9_cost (hfl : l.flags = flags0) (a0 : Nat) (a1 : Int32) (a2 : Int32) (a3 : Int32) (m : pmM) : pm_C l Γ zX9_cost (d + 5) [.ref a0, .int a1, .int a2, .int a3] m (X9_cost a0 a1 a2 a3 m) := by
  refine pm_enter (ls := [.ref a0, .int a1, .int a2, .int a3, pmU]) hfl (by decide +kernel) rfl (Nat.le_of_ble_eq_true rfl) rfl (Nat.le_of_ble_eq_true rfl) ?_
  unfold X9_cost
  refine pm_aload_n dX9_cost_0 rfl rfl ?_
  refine pm_iconst (v := 0) dX9_cost_1 ki_0 ?_
  refine fp_9_0 (y := zX9_cost) (Or.inl tw_1366) dX9_cost_2 (fun m1 => ?_)
  refine pm_aload_n dX9_cost_5 rfl rfl ?_
  refine pm_iload_n dX9_cost_6 rfl rfl ?_
  refine pm_rcv (fun hb9 hc9 => ?_)
  refine pm_kI (d := d + 4) rfl (pm_V (y := zX9_cost) (z := zX9_isLine) (As := [.int a1]) zkX9_isLine pm_q9 (by decide) tw_1781 tw_1783 tw_141 dX9_cost_7 rfl rfl (Nat.le_of_ble_eq_true rfl) hb9 hc9) (kcX9_isLine (d := d + 3) hfl a0 a1 m1) (fun x3 m2 => ?_)
  refine pm_if_eq (tgt := 49) dX9_cost_10 rfl ?_ ?_
  · exact gX9_cost_j49 hfl a0 a1 a2 a3 m2
  · refine pm_iload_n dX9_cost_13 rfl rfl ?_
    refine pm_iconst (v := 0) dX9_cost_14 ki_0 ?_
    refine pm_aload_n dX9_cost_15 rfl rfl ?_
    refine fg_9_16 (y := zX9_cost) (Or.inl tw_1382) dX9_cost_16 (fun r11 => ?_)
    refine pm_iload_n dX9_cost_19 rfl rfl ?_
    refine pm_iald (y := zX9_cost) dX9_cost_20 (fun x12 => ?_)
    refine pm_iconst (v := 1) dX9_cost_21 ki_1 ?_
    refine pm_isub dX9_cost_22 ?_
    refine pm_kI (d := d + 4) rfl (pm_S (y := zX9_cost) (z := zX9_in) (As := [.int a2, .int 0, .int (x12 - 1)]) zkX9_in tw_1545 tw_1546 dX9_cost_23 rfl rfl (Nat.le_of_ble_eq_true rfl)) (kcX9_in (d := d + 4) hfl a2 0 (x12 - 1) m2) (fun x14 m13 => ?_)
    refine pm_if_eq (tgt := 49) dX9_cost_26 rfl ?_ ?_
    · exact gX9_cost_j49 hfl a0 a1 a2 a3 m13
    · refine pm_iload_n dX9_cost_29 rfl rfl ?_
      refine pm_iconst (v := 0) dX9_cost_30 ki_0 ?_
      refine pm_aload_n dX9_cost_31 rfl rfl ?_
      refine fg_9_16 (y := zX9_cost) (Or.inl tw_1382) dX9_cost_32 (fun r15 => ?_)
      refine pm_iload_n dX9_cost_35 rfl rfl ?_
      refine pm_iald (y := zX9_cost) dX9_cost_36 (fun x16 => ?_)
      refine pm_iconst (v := 1) dX9_cost_37 ki_1 ?_
      refine pm_isub dX9_cost_38 ?_
      refine pm_kI (d := d + 4) rfl (pm_S (y := zX9_cost) (z := zX9_in) (As := [.int a3, .int 0, .int (x16 - 1)]) zkX9_in tw_1545 tw_1546 dX9_cost_39 rfl rfl (Nat.le_of_ble_eq_true rfl)) (kcX9_in (d := d + 4) hfl a3 0 (x16 - 1) m13) (fun x18 m17 => ?_)
      refine pm_if_eq (tgt := 49) dX9_cost_42 rfl ?_ ?_
      · exact gX9_cost_j49 hfl a0 a1 a2 a3 m17
      · refine pm_iconst (v := 1) dX9_cost_45 ki_1 ?_
        refine pm_goto (tgt := 50) dX9_cost_46 rfl ?_
        exact gX9_cost_j50 hfl a0 a1 a2 a3 1 m17
-- StruckPageModel.would(IIIIIII)I
def X9_would_j86 (l0 : Nat) (l1 : Int32) (l2 : Int32) (l3 : Int32) (l4 : Int32) (l5 : Int32) (l6 : Int32) (l7 : Int32) (t0 : Int32) (t1 : Nat) (m : pmM) : pmR := pm_rc 9 t1 m <| pm_cI (X9_bad t1 t0 1 1 m) fun x5 m4 => if x5 = 0 then (pm_rc 9 l0 m4 <| pm_cI (X9_costBy l0 l1 l2 l3 l4 l5 l6 l7 m4) fun x7 m6 => pm_oI x7 m6) else (pm_oI 0 m4)
def X9_would_j81 (l0 : Nat) (l1 : Int32) (l2 : Int32) (l3 : Int32) (l4 : Int32) (l5 : Int32) (l6 : Int32) (l7 : Int32) (t0 : Nat) (m : pmM) : pmR := X9_would_j86 l0 l1 l2 l3 l4 l5 l6 l7 1 t0 m
def X9_would (a0 : Nat) (a1 : Int32) (a2 : Int32) (a3 : Int32) (a4 : Int32) (a5 : Int32) (a6 : Int32) (a7 : Int32) (m : pmM) : pmR := pm_pI 9 a0 0 0 m fun m1 => pm_cI (X9_in a1 1 8 m1) fun x3 m2 => if x3 = 0 then (X9_would_j81 a0 a1 a2 a3 a4 a5 a6 a7 a0 m2) else (pm_cI (X9_in a2 0 8 m2) fun x9 m8 => if x9 = 0 then (X9_would_j81 a0 a1 a2 a3 a4 a5 a6 a7 a0 m8) else (pm_cI (X9_in a3 0 7 m8) fun x11 m10 => if x11 = 0 then (X9_would_j81 a0 a1 a2 a3 a4 a5 a6 a7 a0 m10) else (pm_cI (X9_in a4 0 5 m10) fun x13 m12 => if x13 = 0 then (X9_would_j81 a0 a1 a2 a3 a4 a5 a6 a7 a0 m12) else (pm_cI (X9_in a5 0 48 m12) fun x15 m14 => if x15 = 0 then (X9_would_j81 a0 a1 a2 a3 a4 a5 a6 a7 a0 m14) else (pm_cI (X9_in a6 0 200 m14) fun x17 m16 => if x17 = 0 then (X9_would_j81 a0 a1 a2 a3 a4 a5 a6 a7 a0 m16) else (pm_cI (X9_in a7 0 999 m16) fun x19 m18 => if x19 = 0 then (X9_would_j81 a0 a1 a2 a3 a4 a5 a6 a7 a0 m18) else (X9_would_j86 a0 a1 a2 a3 a4 a5 a6 a7 0 a0 m18)))))))
set_option maxRecDepth 100000 in
set_option maxHeartbeats 4000000 in
theorem gX9_would_j86 (hfl : l.flags = flags0) (l0 : Nat) (l1 : Int32) (l2 : Int32) (l3 : Int32) (l4 : Int32) (l5 : Int32) (l6 : Int32) (l7 : Int32) (t0 : Int32) (t1 : Nat) (m : pmM) : pm_G l Γ zX9_would (d + 4) 86 [.ref l0, .int l1, .int l2, .int l3, .int l4, .int l5, .int l6, .int l7] [.int t0, .ref t1] m (X9_would_j86 l0 l1 l2 l3 l4 l5 l6 l7 t0 t1 m) := by
  unfold X9_would_j86
  refine pm_iconst (v := 1) dX9_would_86 ki_1 ?_
  refine pm_iconst (v := 1) dX9_would_87 ki_1 ?_
  refine pm_rcv (fun hb9 hc9 => ?_)
  refine pm_kI (d := d + 3) rfl (pm_V (y := zX9_would) (z := zX9_bad) (As := [.int t0, .int 1, .int 1]) zkX9_bad pm_q9 (by decide) tw_1548 tw_1550 tw_99 dX9_would_88 rfl rfl (Nat.le_of_ble_eq_true rfl) hb9 hc9) (kcX9_bad (d := d + 3) hfl t1 t0 1 1 m) (fun x5 m4 => ?_)
  refine pm_if_eq (tgt := 96) dX9_would_91 rfl ?_ ?_
  · refine pm_aload_n dX9_would_96 rfl rfl ?_
    refine pm_iload_n dX9_would_97 rfl rfl ?_
    refine pm_iload_n dX9_would_98 rfl rfl ?_
    refine pm_iload_n dX9_would_99 rfl rfl ?_
    refine pm_iload dX9_would_100 rfl ?_
    refine pm_iload dX9_would_102 rfl ?_
    refine pm_iload dX9_would_104 rfl ?_
    refine pm_iload dX9_would_106 rfl ?_
    refine pm_rcv (fun hb9 hc9 => ?_)
    refine pm_kI (d := d + 3) rfl (pm_V (y := zX9_would) (z := zX9_costBy) (As := [.int l1, .int l2, .int l3, .int l4, .int l5, .int l6, .int l7]) zkX9_costBy pm_q9 (by decide) tw_1711 tw_1713 tw_131 dX9_would_108 rfl rfl (Nat.le_of_ble_eq_true rfl) hb9 hc9) (kcX9_costBy (d := d + 0) hfl l0 l1 l2 l3 l4 l5 l6 l7 m4) (fun x7 m6 => ?_)
    exact pm_iret rfl dX9_would_111
  · refine pm_iconst (v := 0) dX9_would_94 ki_0 ?_
    exact pm_iret rfl dX9_would_95
set_option maxRecDepth 100000 in
set_option maxHeartbeats 4000000 in
theorem gX9_would_j81 (hfl : l.flags = flags0) (l0 : Nat) (l1 : Int32) (l2 : Int32) (l3 : Int32) (l4 : Int32) (l5 : Int32) (l6 : Int32) (l7 : Int32) (t0 : Nat) (m : pmM) : pm_G l Γ zX9_would (d + 4) 81 [.ref l0, .int l1, .int l2, .int l3, .int l4, .int l5, .int l6, .int l7] [.ref t0] m (X9_would_j81 l0 l1 l2 l3 l4 l5 l6 l7 t0 m) := by
  unfold X9_would_j81
  refine pm_iconst (v := 1) dX9_would_81 ki_1 ?_
  refine pm_goto (tgt := 86) dX9_would_82 rfl ?_
  exact gX9_would_j86 hfl l0 l1 l2 l3 l4 l5 l6 l7 1 t0 m
set_option maxRecDepth 100000 in
set_option maxHeartbeats 4000000 in
theorem kcX9_would (hfl : l.flags = flags0) (a0 : Nat) (a1 : Int32) (a2 : Int32) (a3 : Int32) (a4 : Int32) (a5 : Int32) (a6 : Int32) (a7 : Int32) (m : pmM) : pm_C l Γ zX9_would (d + 4) [.ref a0, .int a1, .int a2, .int a3, .int a4, .int a5, .int a6, .int a7] m (X9_would a0 a1 a2 a3 a4 a5 a6 a7 m) := by
  refine pm_enter (ls := [.ref a0, .int a1, .int a2, .int a3, .int a4, .int a5, .int a6, .int a7]) hfl (by decide +kernel) rfl (Nat.le_of_ble_eq_true rfl) rfl (Nat.le_of_ble_eq_true rfl) ?_
  unfold X9_would
  refine pm_aload_n dX9_would_0 rfl rfl ?_
  refine pm_iconst (v := 0) dX9_would_1 ki_0 ?_
  refine fp_9_0 (y := zX9_would) (Or.inl tw_1366) dX9_would_2 (fun m1 => ?_)
  refine pm_aload_n dX9_would_5 rfl rfl ?_
  refine pm_iload_n dX9_would_6 rfl rfl ?_
  refine pm_iconst (v := 1) dX9_would_7 ki_1 ?_
  refine pm_bipush (v := 8) dX9_would_8 kb_8 ?_
  refine pm_kI (d := d + 3) rfl (pm_S (y := zX9_would) (z := zX9_in) (As := [.int a1, .int 1, .int 8]) zkX9_in tw_1545 tw_1546 dX9_would_10 rfl rfl (Nat.le_of_ble_eq_true rfl)) (kcX9_in (d := d + 3) hfl a1 1 8 m1) (fun x3 m2 => ?_)
  refine pm_if_eq (tgt := 81) dX9_would_13 rfl ?_ ?_
  · exact gX9_would_j81 hfl a0 a1 a2 a3 a4 a5 a6 a7 a0 m2
  · refine pm_iload_n dX9_would_16 rfl rfl ?_
    refine pm_iconst (v := 0) dX9_would_17 ki_0 ?_
    refine pm_bipush (v := 8) dX9_would_18 kb_8 ?_
    refine pm_kI (d := d + 3) rfl (pm_S (y := zX9_would) (z := zX9_in) (As := [.int a2, .int 0, .int 8]) zkX9_in tw_1545 tw_1546 dX9_would_20 rfl rfl (Nat.le_of_ble_eq_true rfl)) (kcX9_in (d := d + 3) hfl a2 0 8 m2) (fun x9 m8 => ?_)
    refine pm_if_eq (tgt := 81) dX9_would_23 rfl ?_ ?_
    · exact gX9_would_j81 hfl a0 a1 a2 a3 a4 a5 a6 a7 a0 m8
    · refine pm_iload_n dX9_would_26 rfl rfl ?_
      refine pm_iconst (v := 0) dX9_would_27 ki_0 ?_
      refine pm_bipush (v := 7) dX9_would_28 kb_7 ?_
      refine pm_kI (d := d + 3) rfl (pm_S (y := zX9_would) (z := zX9_in) (As := [.int a3, .int 0, .int 7]) zkX9_in tw_1545 tw_1546 dX9_would_30 rfl rfl (Nat.le_of_ble_eq_true rfl)) (kcX9_in (d := d + 3) hfl a3 0 7 m8) (fun x11 m10 => ?_)
      refine pm_if_eq (tgt := 81) dX9_would_33 rfl ?_ ?_
      · exact gX9_would_j81 hfl a0 a1 a2 a3 a4 a5 a6 a7 a0 m10
      · refine pm_iload dX9_would_36 rfl ?_
        refine pm_iconst (v := 0) dX9_would_38 ki_0 ?_
        refine pm_iconst (v := 5) dX9_would_39 ki_5 ?_
        refine pm_kI (d := d + 3) rfl (pm_S (y := zX9_would) (z := zX9_in) (As := [.int a4, .int 0, .int 5]) zkX9_in tw_1545 tw_1546 dX9_would_40 rfl rfl (Nat.le_of_ble_eq_true rfl)) (kcX9_in (d := d + 3) hfl a4 0 5 m10) (fun x13 m12 => ?_)
        refine pm_if_eq (tgt := 81) dX9_would_43 rfl ?_ ?_
        · exact gX9_would_j81 hfl a0 a1 a2 a3 a4 a5 a6 a7 a0 m12
        · refine pm_iload dX9_would_46 rfl ?_
          refine pm_iconst (v := 0) dX9_would_48 ki_0 ?_
          refine pm_bipush (v := 48) dX9_would_49 kb_48 ?_
          refine pm_kI (d := d + 3) rfl (pm_S (y := zX9_would) (z := zX9_in) (As := [.int a5, .int 0, .int 48]) zkX9_in tw_1545 tw_1546 dX9_would_51 rfl rfl (Nat.le_of_ble_eq_true rfl)) (kcX9_in (d := d + 3) hfl a5 0 48 m12) (fun x15 m14 => ?_)
          refine pm_if_eq (tgt := 81) dX9_would_54 rfl ?_ ?_
          · exact gX9_would_j81 hfl a0 a1 a2 a3 a4 a5 a6 a7 a0 m14
          · refine pm_iload dX9_would_57 rfl ?_
            refine pm_iconst (v := 0) dX9_would_59 ki_0 ?_
            refine pm_sipush (v := 200) dX9_would_60 ks_200 ?_
            refine pm_kI (d := d + 3) rfl (pm_S (y := zX9_would) (z := zX9_in) (As := [.int a6, .int 0, .int 200]) zkX9_in tw_1545 tw_1546 dX9_would_63 rfl rfl (Nat.le_of_ble_eq_true rfl)) (kcX9_in (d := d + 3) hfl a6 0 200 m14) (fun x17 m16 => ?_)
            refine pm_if_eq (tgt := 81) dX9_would_66 rfl ?_ ?_
            · exact gX9_would_j81 hfl a0 a1 a2 a3 a4 a5 a6 a7 a0 m16
            · refine pm_iload dX9_would_69 rfl ?_
              refine pm_iconst (v := 0) dX9_would_71 ki_0 ?_
              refine pm_sipush (v := 999) dX9_would_72 ks_999 ?_
              refine pm_kI (d := d + 3) rfl (pm_S (y := zX9_would) (z := zX9_in) (As := [.int a7, .int 0, .int 999]) zkX9_in tw_1545 tw_1546 dX9_would_75 rfl rfl (Nat.le_of_ble_eq_true rfl)) (kcX9_in (d := d + 3) hfl a7 0 999 m16) (fun x19 m18 => ?_)
              refine pm_if_ne (tgt := 85) dX9_would_78 rfl ?_ ?_
              · refine pm_iconst (v := 0) dX9_would_85 ki_0 ?_
                exact gX9_would_j86 hfl a0 a1 a2 a3 a4 a5 a6 a7 0 a0 m18
              · exact gX9_would_j81 hfl a0 a1 a2 a3 a4 a5 a6 a7 a0 m18
end GEN21
