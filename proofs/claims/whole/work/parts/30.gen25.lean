section GEN25
variable {l : Launch} {Γ : pmG} {d : Nat}
-- StruckPageModel.value(I)I
def X9_value_j19 (l0 : Nat) (l1 : Int32) (t0 : Int32) (t1 : Nat) (m : pmM) : pmR := pm_rc 9 t1 m <| pm_cI (X9_bad t1 t0 1 0 m) fun x5 m4 => if x5 = 0 then (pm_rc 9 l0 m4 <| pm_cV (X9_laysPiles l0 m4) fun m6 => pm_gR 9 l0 29 m6 fun r7 => pm_ld 100 r7 ((0 : Int32) + l1) m6 fun x8 => pm_rc 9 l0 m6 <| pm_cI (X9_valueOf l0 x8 l1 m6) fun x10 m9 => pm_oI x10 m9) else (pm_oI 0 m4)
def X9_value (a0 : Nat) (a1 : Int32) (m : pmM) : pmR := pm_pI 9 a0 0 0 m fun m1 => pm_rc 9 a0 m1 <| pm_cI (X9_isLine a0 a1 m1) fun x3 m2 => if x3 = 0 then (X9_value_j19 a0 a1 1 a0 m2) else (X9_value_j19 a0 a1 0 a0 m2)
set_option maxRecDepth 100000 in
set_option maxHeartbeats 4000000 in
theorem gX9_value_j19 (hfl : l.flags = flags0) (l0 : Nat) (l1 : Int32) (t0 : Int32) (t1 : Nat) (m : pmM) : pm_G l Γ zX9_value (d + 2) 19 [.ref l0, .int l1] [.int t0, .ref t1] m (X9_value_j19 l0 l1 t0 t1 m) := by
  unfold X9_value_j19
  refine pm_iconst (v := 1) dX9_value_19 ki_1 ?_
  refine pm_iconst (v := 0) dX9_value_20 ki_0 ?_
  refine pm_rcv (fun hb9 hc9 => ?_)
  refine pm_kI (d := d + 1) rfl (pm_V (y := zX9_value) (z := zX9_bad) (As := [.int t0, .int 1, .int 0]) zkX9_bad pm_q9 (by decide) tw_1548 tw_1550 tw_99 dX9_value_21 rfl rfl (Nat.le_of_ble_eq_true rfl) hb9 hc9) (kcX9_bad (d := d + 1) hfl t1 t0 1 0 m) (fun x5 m4 => ?_)
  refine pm_if_eq (tgt := 29) dX9_value_24 rfl ?_ ?_
  · refine pm_aload_n dX9_value_29 rfl rfl ?_
    refine pm_rcv (fun hb9 hc9 => ?_)
    refine pm_kV (d := d + 1) rfl (pm_V (y := zX9_value) (z := zX9_laysPiles) (As := []) zkX9_laysPiles pm_q9 (by decide) tw_1858 tw_1860 tw_146 dX9_value_30 rfl rfl (Nat.le_of_ble_eq_true rfl) hb9 hc9) (kcX9_laysPiles (d := d + 1) hfl l0 m4) (fun m6 => ?_)
    refine pm_aload_n dX9_value_33 rfl rfl ?_
    refine pm_aload_n dX9_value_34 rfl rfl ?_
    refine fg_9_29 (y := zX9_value) (Or.inl tw_1395) dX9_value_35 (fun r7 => ?_)
    refine pm_iconst (v := 0) dX9_value_38 ki_0 ?_
    refine pm_iload_n dX9_value_39 rfl rfl ?_
    refine pm_iadd dX9_value_40 ?_
    refine pm_iald (y := zX9_value) dX9_value_41 (fun x8 => ?_)
    refine pm_iload_n dX9_value_42 rfl rfl ?_
    refine pm_rcv (fun hb9 hc9 => ?_)
    refine pm_kI (d := d + 1) rfl (pm_V (y := zX9_value) (z := zX9_valueOf) (As := [.int x8, .int l1]) zkX9_valueOf pm_q9 (by decide) tw_1862 tw_1864 tw_147 dX9_value_43 rfl rfl (Nat.le_of_ble_eq_true rfl) hb9 hc9) (kcX9_valueOf (d := d + 0) hfl l0 x8 l1 m6) (fun x10 m9 => ?_)
    exact pm_iret rfl dX9_value_46
  · refine pm_iconst (v := 0) dX9_value_27 ki_0 ?_
    exact pm_iret rfl dX9_value_28
set_option maxRecDepth 100000 in
set_option maxHeartbeats 4000000 in
theorem kcX9_value (hfl : l.flags = flags0) (a0 : Nat) (a1 : Int32) (m : pmM) : pm_C l Γ zX9_value (d + 2) [.ref a0, .int a1] m (X9_value a0 a1 m) := by
  refine pm_enter (ls := [.ref a0, .int a1]) hfl (by decide +kernel) rfl (Nat.le_of_ble_eq_true rfl) rfl (Nat.le_of_ble_eq_true rfl) ?_
  unfold X9_value
  refine pm_aload_n dX9_value_0 rfl rfl ?_
  refine pm_iconst (v := 0) dX9_value_1 ki_0 ?_
  refine fp_9_0 (y := zX9_value) (Or.inl tw_1366) dX9_value_2 (fun m1 => ?_)
  refine pm_aload_n dX9_value_5 rfl rfl ?_
  refine pm_aload_n dX9_value_6 rfl rfl ?_
  refine pm_iload_n dX9_value_7 rfl rfl ?_
  refine pm_rcv (fun hb9 hc9 => ?_)
  refine pm_kI (d := d + 1) rfl (pm_V (y := zX9_value) (z := zX9_isLine) (As := [.int a1]) zkX9_isLine pm_q9 (by decide) tw_1781 tw_1783 tw_141 dX9_value_8 rfl rfl (Nat.le_of_ble_eq_true rfl) hb9 hc9) (kcX9_isLine (d := d + 0) hfl a0 a1 m1) (fun x3 m2 => ?_)
  refine pm_if_ne (tgt := 18) dX9_value_11 rfl ?_ ?_
  · refine pm_iconst (v := 0) dX9_value_18 ki_0 ?_
    exact gX9_value_j19 hfl a0 a1 0 a0 m2
  · refine pm_iconst (v := 1) dX9_value_14 ki_1 ?_
    refine pm_goto (tgt := 19) dX9_value_15 rfl ?_
    exact gX9_value_j19 hfl a0 a1 1 a0 m2
-- StruckPageModel.allLines()I
def X9_allLines (a0 : Nat) (m : pmM) : pmR := pm_gI 9 a0 13 m fun x1 => pm_oI (((1 : Int32) <<< (x1 &&& 31)) - 1) m
set_option maxRecDepth 100000 in
set_option maxHeartbeats 4000000 in
theorem kcX9_allLines (hfl : l.flags = flags0) (a0 : Nat) (m : pmM) : pm_C l Γ zX9_allLines (d + 0) [.ref a0] m (X9_allLines a0 m) := by
  refine pm_enter (ls := [.ref a0]) hfl (by decide +kernel) rfl (Nat.le_of_ble_eq_true rfl) rfl (Nat.le_of_ble_eq_true rfl) ?_
  unfold X9_allLines
  refine pm_iconst (v := 1) dX9_allLines_0 ki_1 ?_
  refine pm_aload_n dX9_allLines_1 rfl rfl ?_
  refine fg_9_13 (y := zX9_allLines) (Or.inl tw_1379) dX9_allLines_2 (fun x1 => ?_)
  refine pm_ishl dX9_allLines_5 ?_
  refine pm_iconst (v := 1) dX9_allLines_6 ki_1 ?_
  refine pm_isub dX9_allLines_7 ?_
  exact pm_iret rfl dX9_allLines_8
-- StruckPageModel.argument(II)I
def X9_argument_j255 (again106 : (Int32 × pmM) → pmR) (l0 : Nat) (l1 : Int32) (l3 : Int32) (l4 : Int32) (m : pmM) : pmR := pm_bI (l4 + 1) fun x13 => again106 (x13, m)
def X9_argument_j249 (again106 : (Int32 × pmM) → pmR) (again118 : (Int32 × pmM) → pmR) (l0 : Nat) (l1 : Int32) (l3 : Int32) (l4 : Int32) (l5 : Int32) (m : pmM) : pmR := pm_bI (l5 + 1) fun x22 => again118 (x22, m)
def X9_argument_L118 (again106 : (Int32 × pmM) → pmR) (l0 : Nat) (l1 : Int32) (l3 : Int32) (l4 : Int32) (again118 : (Int32 × pmM) → pmR) (s118 : Int32 × pmM) : pmR := pm_gR 9 l0 16 s118.2 fun r11 => pm_ld 100 r11 l4 s118.2 fun x12 => if ((2 : Int32) * x12) ≤ s118.1 then (X9_argument_j255 again106 l0 l1 l3 l4 s118.2) else (pm_cI (X9_has l1 l4 s118.2) fun x15 m14 => if x15 = 0 then (X9_argument_j255 again106 l0 l1 l3 l4 m14) else (if (2 : Int32) = 0 then none else pm_bI (s118.1 / 2) fun x16 => if (2 : Int32) = 0 then none else pm_bI (x16 + (s118.1 - s118.1 / 2 * 2)) fun x17 => pm_cI (X9_span2 x16 x17 m14) fun x19 m18 => pm_gR 9 l0 16 m18 fun r20 => pm_ld 100 r20 l4 m18 fun x21 => if x21 ≤ x17 then (X9_argument_j249 again106 again118 l0 l1 l3 l4 s118.1 m18) else (pm_gR 9 l0 29 m18 fun r23 => pm_ld 100 r23 ((0 : Int32) + l4) m18 fun x24 => if (x24 &&& x19) = 0 then (pm_gR 9 l0 29 m18 fun r25 => pm_ld 100 r25 ((0 : Int32) + l4) m18 fun x26 => pm_rc 9 l0 m18 <| pm_cI (X9_valueOf l0 x26 l4 m18) fun x28 m27 => pm_gR 9 l0 29 m27 fun r29 => pm_ld 100 r29 ((0 : Int32) + l4) m27 fun x30 => pm_rc 9 l0 m27 <| pm_cI (X9_valueOf l0 (x30 ||| x19) l4 m27) fun x32 m31 => if ((l3 ^^^ x28) ^^^ x32) = 0 then (pm_oI ((((100 : Int32) * l4) + ((10 : Int32) * x16)) + x17) m31) else (X9_argument_j249 again106 again118 l0 l1 l3 l4 s118.1 m31)) else (X9_argument_j249 again106 again118 l0 l1 l3 l4 s118.1 m18))))
def X9_argument_L106 (l0 : Nat) (l1 : Int32) (l3 : Int32) (again106 : (Int32 × pmM) → pmR) (s106 : Int32 × pmM) : pmR := pm_gI 9 l0 13 s106.2 fun x10 => if x10 ≤ s106.1 then (pm_oI (-1) s106.2) else (pm_lp pm_N (X9_argument_L118 again106 l0 l1 l3 s106.1) (0, s106.2))
def X9_argument_j89 (again51 : (Int32 × Int32 × pmM) → pmR) (l0 : Nat) (l1 : Int32) (l2 : Int32) (l4 : Int32) (t0 : Int32) (t1 : Int32) (m : pmM) : pmR := pm_bI (t1 ^^^ t0) fun x35 => pm_bI (l4 + 1) fun x36 => again51 (x35, x36, m)
def X9_argument_L51 (l0 : Nat) (l1 : Int32) (l2 : Int32) (again51 : (Int32 × Int32 × pmM) → pmR) (s51 : Int32 × Int32 × pmM) : pmR := pm_gI 9 l0 13 s51.2.2 fun x9 => if x9 ≤ s51.2.1 then (if l2 = 0 then (pm_oI s51.1 s51.2.2) else (pm_lp pm_N (X9_argument_L106 l0 l1 s51.1) (0, s51.2.2))) else (pm_cI (X9_has l1 s51.2.1 s51.2.2) fun x34 m33 => if x34 = 0 then (X9_argument_j89 again51 l0 l1 l2 s51.2.1 0 s51.1 m33) else (pm_gR 9 l0 29 m33 fun r37 => pm_ld 100 r37 ((0 : Int32) + s51.2.1) m33 fun x38 => pm_rc 9 l0 m33 <| pm_cI (X9_valueOf l0 x38 s51.2.1 m33) fun x40 m39 => X9_argument_j89 again51 l0 l1 l2 s51.2.1 x40 s51.1 m39))
def X9_argument_j32 (l0 : Nat) (l1 : Int32) (l2 : Int32) (t0 : Int32) (t1 : Nat) (m : pmM) : pmR := pm_rc 9 t1 m <| pm_cI (X9_bad t1 t0 1 1 m) fun x7 m6 => if x7 = 0 then (pm_rc 9 l0 m6 <| pm_cV (X9_laysPiles l0 m6) fun m8 => pm_lp pm_N (X9_argument_L51 l0 l1 l2) (0, 0, m8)) else (pm_oI 0 m6)
def X9_argument_j27 (l0 : Nat) (l1 : Int32) (l2 : Int32) (t0 : Nat) (m : pmM) : pmR := X9_argument_j32 l0 l1 l2 1 t0 m
def X9_argument (a0 : Nat) (a1 : Int32) (a2 : Int32) (m : pmM) : pmR := pm_pI 9 a0 0 0 m fun m1 => pm_rc 9 a0 m1 <| pm_cI (X9_allLines a0 m1) fun x3 m2 => pm_cI (X9_in a1 0 x3 m2) fun x5 m4 => if x5 = 0 then (X9_argument_j27 a0 a1 a2 a0 m4) else (pm_cI (X9_in a2 0 1 m4) fun x42 m41 => if x42 = 0 then (X9_argument_j27 a0 a1 a2 a0 m41) else (X9_argument_j32 a0 a1 a2 0 a0 m41))
set_option maxRecDepth 100000 in
set_option maxHeartbeats 4000000 in
theorem gX9_argument_j255 (hfl : l.flags = flags0) (again106 : (Int32 × pmM) → pmR) (l0 : Nat) (l1 : Int32) (l3 : Int32) (l4 : Int32) (m : pmM) (hag106 : ∀ s : Int32 × pmM, pm_G l Γ zX9_argument (d + 2) 106 [.ref l0, .int l1, pmU, .int l3, .int s.1, pmU, pmU, pmU, pmU] [] s.2 (again106 s)) : pm_G l Γ zX9_argument (d + 2) 255 [.ref l0, .int l1, pmU, .int l3, .int l4, pmU, pmU, pmU, pmU] [] m (X9_argument_j255 again106 l0 l1 l3 l4 m) := by
  unfold X9_argument_j255
  refine pm_iincn (y := zX9_argument) dX9_argument_255 rfl ki_1 rfl (Nat.le_of_ble_eq_true rfl) (fun x13 => ?_)
  refine pm_eqls (ls2 := [.ref l0, .int l1, pmU, .int l3, .int x13, pmU, pmU, pmU, pmU]) rfl ?_
  refine pm_goto (tgt := 106) dX9_argument_258 rfl ?_
  exact hag106 (x13, m)
set_option maxRecDepth 100000 in
set_option maxHeartbeats 4000000 in
theorem gX9_argument_j249 (hfl : l.flags = flags0) (again106 : (Int32 × pmM) → pmR) (again118 : (Int32 × pmM) → pmR) (l0 : Nat) (l1 : Int32) (l3 : Int32) (l4 : Int32) (l5 : Int32) (m : pmM) (hag106 : ∀ s : Int32 × pmM, pm_G l Γ zX9_argument (d + 2) 106 [.ref l0, .int l1, pmU, .int l3, .int s.1, pmU, pmU, pmU, pmU] [] s.2 (again106 s)) (hag118 : ∀ s : Int32 × pmM, pm_G l Γ zX9_argument (d + 2) 118 [.ref l0, .int l1, pmU, .int l3, .int l4, .int s.1, pmU, pmU, pmU] [] s.2 (again118 s)) : pm_G l Γ zX9_argument (d + 2) 249 [.ref l0, .int l1, pmU, .int l3, .int l4, .int l5, pmU, pmU, pmU] [] m (X9_argument_j249 again106 again118 l0 l1 l3 l4 l5 m) := by
  unfold X9_argument_j249
  refine pm_iincn (y := zX9_argument) dX9_argument_249 rfl ki_1 rfl (Nat.le_of_ble_eq_true rfl) (fun x22 => ?_)
  refine pm_eqls (ls2 := [.ref l0, .int l1, pmU, .int l3, .int l4, .int x22, pmU, pmU, pmU]) rfl ?_
  refine pm_goto (tgt := 118) dX9_argument_252 rfl ?_
  exact hag118 (x22, m)
set_option maxRecDepth 100000 in
set_option maxHeartbeats 4000000 in
theorem gX9_argument_L118 (hfl : l.flags = flags0) (again106 : (Int32 × pmM) → pmR) (l0 : Nat) (l1 : Int32) (l3 : Int32) (l4 : Int32) (hag106 : ∀ s : Int32 × pmM, pm_G l Γ zX9_argument (d + 2) 106 [.ref l0, .int l1, pmU, .int l3, .int s.1, pmU, pmU, pmU, pmU] [] s.2 (again106 s)) : ∀ (n : Nat) (s : Int32 × pmM), pm_G l Γ zX9_argument (d + 2) 118 [.ref l0, .int l1, pmU, .int l3, .int l4, .int s.1, pmU, pmU, pmU] [] s.2 (pm_lp n (X9_argument_L118 again106 l0 l1 l3 l4) s) :=
  pm_loop (lsf := fun s : Int32 × pmM => [.ref l0, .int l1, pmU, .int l3, .int l4, .int s.1, pmU, pmU, pmU]) (mf := fun s : Int32 × pmM => s.2) (fun again118 hag118 s118 => by
    unfold X9_argument_L118
    refine pm_iload dX9_argument_118 rfl ?_
    refine pm_iconst (v := 2) dX9_argument_120 ki_2 ?_
    refine pm_aload_n dX9_argument_121 rfl rfl ?_
    refine fg_9_16 (y := zX9_argument) (Or.inl tw_1382) dX9_argument_122 (fun r11 => ?_)
    refine pm_iload dX9_argument_125 rfl ?_
    refine pm_iald (y := zX9_argument) dX9_argument_127 (fun x12 => ?_)
    refine pm_imul dX9_argument_128 ?_
    refine pm_icmp_ge (tgt := 255) dX9_argument_129 rfl ?_ ?_
    · refine pm_drop (ls2 := [.ref l0, .int l1, pmU, .int l3, .int l4, pmU, pmU, pmU, pmU]) (Nat.le_refl _) (pm_le_spec (pm_le_v (pm_le_v (pm_le_u (pm_le_v (pm_le_v (pm_le_u (pm_le_u (pm_le_u (pm_le_u (pm_le_n))))))))))) ?_
      exact gX9_argument_j255 hfl again106 l0 l1 l3 l4 s118.2 hag106
    · refine pm_iload_n dX9_argument_132 rfl rfl ?_
      refine pm_iload dX9_argument_133 rfl ?_
      refine pm_kI (d := d + 1) rfl (pm_S (y := zX9_argument) (z := zX9_has) (As := [.int l1, .int l4]) zkX9_has tw_1748 tw_1749 dX9_argument_135 rfl rfl (Nat.le_of_ble_eq_true rfl)) (kcX9_has (d := d + 1) hfl l1 l4 s118.2) (fun x15 m14 => ?_)
      refine pm_if_eq (tgt := 255) dX9_argument_138 rfl ?_ ?_
      · refine pm_drop (ls2 := [.ref l0, .int l1, pmU, .int l3, .int l4, pmU, pmU, pmU, pmU]) (Nat.le_refl _) (pm_le_spec (pm_le_v (pm_le_v (pm_le_u (pm_le_v (pm_le_v (pm_le_u (pm_le_u (pm_le_u (pm_le_u (pm_le_n))))))))))) ?_
        exact gX9_argument_j255 hfl again106 l0 l1 l3 l4 m14 hag106
      · refine pm_iload dX9_argument_141 rfl ?_
        refine pm_iconst (v := 2) dX9_argument_143 ki_2 ?_
        refine pm_idiv dX9_argument_144 ?_
        refine pm_bIn (fun x16 => ?_)
        refine pm_istore (ls2 := [.ref l0, .int l1, pmU, .int l3, .int l4, .int s118.1, .int x16, pmU, pmU]) dX9_argument_145 rfl (Nat.le_of_ble_eq_true rfl) rfl ?_
        refine pm_iload dX9_argument_147 rfl ?_
        refine pm_iload dX9_argument_149 rfl ?_
        refine pm_iconst (v := 2) dX9_argument_151 ki_2 ?_
        refine pm_irem dX9_argument_152 ?_
        refine pm_iadd dX9_argument_153 ?_
        refine pm_bIn (fun x17 => ?_)
        refine pm_istore (ls2 := [.ref l0, .int l1, pmU, .int l3, .int l4, .int s118.1, .int x16, .int x17, pmU]) dX9_argument_154 rfl (Nat.le_of_ble_eq_true rfl) rfl ?_
        refine pm_iload dX9_argument_156 rfl ?_
        refine pm_iload dX9_argument_158 rfl ?_
        refine pm_kI (d := d + 1) rfl (pm_S (y := zX9_argument) (z := zX9_span2) (As := [.int x16, .int x17]) zkX9_span2 tw_1697 tw_1698 dX9_argument_160 rfl rfl (Nat.le_of_ble_eq_true rfl)) (kcX9_span2 (d := d + 1) hfl x16 x17 m14) (fun x19 m18 => ?_)
        refine pm_istore (ls2 := [.ref l0, .int l1, pmU, .int l3, .int l4, .int s118.1, .int x16, .int x17, .int x19]) dX9_argument_163 rfl (Nat.le_of_ble_eq_true rfl) rfl ?_
        refine pm_iload dX9_argument_165 rfl ?_
        refine pm_aload_n dX9_argument_167 rfl rfl ?_
        refine fg_9_16 (y := zX9_argument) (Or.inl tw_1382) dX9_argument_168 (fun r20 => ?_)
        refine pm_iload dX9_argument_171 rfl ?_
        refine pm_iald (y := zX9_argument) dX9_argument_173 (fun x21 => ?_)
        refine pm_icmp_ge (tgt := 249) dX9_argument_174 rfl ?_ ?_
        · refine pm_drop (ls2 := [.ref l0, .int l1, pmU, .int l3, .int l4, .int s118.1, pmU, pmU, pmU]) (Nat.le_refl _) (pm_le_spec (pm_le_v (pm_le_v (pm_le_u (pm_le_v (pm_le_v (pm_le_v (pm_le_u (pm_le_u (pm_le_u (pm_le_n))))))))))) ?_
          exact gX9_argument_j249 hfl again106 again118 l0 l1 l3 l4 s118.1 m18 hag106 hag118
        · refine pm_aload_n dX9_argument_177 rfl rfl ?_
          refine fg_9_29 (y := zX9_argument) (Or.inl tw_1395) dX9_argument_178 (fun r23 => ?_)
          refine pm_iconst (v := 0) dX9_argument_181 ki_0 ?_
          refine pm_iload dX9_argument_182 rfl ?_
          refine pm_iadd dX9_argument_184 ?_
          refine pm_iald (y := zX9_argument) dX9_argument_185 (fun x24 => ?_)
          refine pm_iload dX9_argument_186 rfl ?_
          refine pm_iand dX9_argument_188 ?_
          refine pm_if_eq (tgt := 195) dX9_argument_189 rfl ?_ ?_
          · refine pm_iload_n dX9_argument_195 rfl rfl ?_
            refine pm_aload_n dX9_argument_196 rfl rfl ?_
            refine pm_aload_n dX9_argument_197 rfl rfl ?_
            refine fg_9_29 (y := zX9_argument) (Or.inl tw_1395) dX9_argument_198 (fun r25 => ?_)
            refine pm_iconst (v := 0) dX9_argument_201 ki_0 ?_
            refine pm_iload dX9_argument_202 rfl ?_
            refine pm_iadd dX9_argument_204 ?_
            refine pm_iald (y := zX9_argument) dX9_argument_205 (fun x26 => ?_)
            refine pm_iload dX9_argument_206 rfl ?_
            refine pm_rcv (fun hb9 hc9 => ?_)
            refine pm_kI (d := d + 1) rfl (pm_V (y := zX9_argument) (z := zX9_valueOf) (As := [.int x26, .int l4]) zkX9_valueOf pm_q9 (by decide) tw_1862 tw_1864 tw_147 dX9_argument_208 rfl rfl (Nat.le_of_ble_eq_true rfl) hb9 hc9) (kcX9_valueOf (d := d + 0) hfl l0 x26 l4 m18) (fun x28 m27 => ?_)
            refine pm_ixor dX9_argument_211 ?_
            refine pm_aload_n dX9_argument_212 rfl rfl ?_
            refine pm_aload_n dX9_argument_213 rfl rfl ?_
            refine fg_9_29 (y := zX9_argument) (Or.inl tw_1395) dX9_argument_214 (fun r29 => ?_)
            refine pm_iconst (v := 0) dX9_argument_217 ki_0 ?_
            refine pm_iload dX9_argument_218 rfl ?_
            refine pm_iadd dX9_argument_220 ?_
            refine pm_iald (y := zX9_argument) dX9_argument_221 (fun x30 => ?_)
            refine pm_iload dX9_argument_222 rfl ?_
            refine pm_ior dX9_argument_224 ?_
            refine pm_iload dX9_argument_225 rfl ?_
            refine pm_rcv (fun hb9 hc9 => ?_)
            refine pm_kI (d := d + 1) rfl (pm_V (y := zX9_argument) (z := zX9_valueOf) (As := [.int (x30 ||| x19), .int l4]) zkX9_valueOf pm_q9 (by decide) tw_1862 tw_1864 tw_147 dX9_argument_227 rfl rfl (Nat.le_of_ble_eq_true rfl) hb9 hc9) (kcX9_valueOf (d := d + 0) hfl l0 (x30 ||| x19) l4 m27) (fun x32 m31 => ?_)
            refine pm_ixor dX9_argument_230 ?_
            refine pm_if_ne (tgt := 249) dX9_argument_231 rfl ?_ ?_
            · refine pm_drop (ls2 := [.ref l0, .int l1, pmU, .int l3, .int l4, .int s118.1, pmU, pmU, pmU]) (Nat.le_refl _) (pm_le_spec (pm_le_v (pm_le_v (pm_le_u (pm_le_v (pm_le_v (pm_le_v (pm_le_u (pm_le_u (pm_le_u (pm_le_n))))))))))) ?_
              exact gX9_argument_j249 hfl again106 again118 l0 l1 l3 l4 s118.1 m31 hag106 hag118
            · refine pm_bipush (v := 100) dX9_argument_234 kb_100 ?_
              refine pm_iload dX9_argument_236 rfl ?_
              refine pm_imul dX9_argument_238 ?_
              refine pm_bipush (v := 10) dX9_argument_239 kb_10 ?_
              refine pm_iload dX9_argument_241 rfl ?_
              refine pm_imul dX9_argument_243 ?_
              refine pm_iadd dX9_argument_244 ?_
              refine pm_iload dX9_argument_245 rfl ?_
              refine pm_iadd dX9_argument_247 ?_
              exact pm_iret rfl dX9_argument_248
          · refine pm_goto (tgt := 249) dX9_argument_192 rfl ?_
            refine pm_drop (ls2 := [.ref l0, .int l1, pmU, .int l3, .int l4, .int s118.1, pmU, pmU, pmU]) (Nat.le_refl _) (pm_le_spec (pm_le_v (pm_le_v (pm_le_u (pm_le_v (pm_le_v (pm_le_v (pm_le_u (pm_le_u (pm_le_u (pm_le_n))))))))))) ?_
            exact gX9_argument_j249 hfl again106 again118 l0 l1 l3 l4 s118.1 m18 hag106 hag118)
set_option maxRecDepth 100000 in
set_option maxHeartbeats 4000000 in
theorem gX9_argument_L106 (hfl : l.flags = flags0) (l0 : Nat) (l1 : Int32) (l3 : Int32) : ∀ (n : Nat) (s : Int32 × pmM), pm_G l Γ zX9_argument (d + 2) 106 [.ref l0, .int l1, pmU, .int l3, .int s.1, pmU, pmU, pmU, pmU] [] s.2 (pm_lp n (X9_argument_L106 l0 l1 l3) s) :=
  pm_loop (lsf := fun s : Int32 × pmM => [.ref l0, .int l1, pmU, .int l3, .int s.1, pmU, pmU, pmU, pmU]) (mf := fun s : Int32 × pmM => s.2) (fun again106 hag106 s106 => by
    unfold X9_argument_L106
    refine pm_iload dX9_argument_106 rfl ?_
    refine pm_aload_n dX9_argument_108 rfl rfl ?_
    refine fg_9_13 (y := zX9_argument) (Or.inl tw_1379) dX9_argument_109 (fun x10 => ?_)
    refine pm_icmp_ge (tgt := 261) dX9_argument_112 rfl ?_ ?_
    · refine pm_iconst (v := (-1)) dX9_argument_261 ki_n1 ?_
      exact pm_iret rfl dX9_argument_262
    · refine pm_iconst (v := 0) dX9_argument_115 ki_0 ?_
      refine pm_istore (ls2 := [.ref l0, .int l1, pmU, .int l3, .int s106.1, .int 0, pmU, pmU, pmU]) dX9_argument_116 rfl (Nat.le_of_ble_eq_true rfl) rfl ?_
      exact gX9_argument_L118 hfl again106 l0 l1 l3 s106.1 hag106 pm_N (0, s106.2))
set_option maxRecDepth 100000 in
set_option maxHeartbeats 4000000 in
theorem gX9_argument_j89 (hfl : l.flags = flags0) (again51 : (Int32 × Int32 × pmM) → pmR) (l0 : Nat) (l1 : Int32) (l2 : Int32) (l4 : Int32) (t0 : Int32) (t1 : Int32) (m : pmM) (hag51 : ∀ s : Int32 × Int32 × pmM, pm_G l Γ zX9_argument (d + 2) 51 [.ref l0, .int l1, .int l2, .int s.1, .int s.2.1, pmU, pmU, pmU, pmU] [] s.2.2 (again51 s)) : pm_G l Γ zX9_argument (d + 2) 89 [.ref l0, .int l1, .int l2, pmU, .int l4, pmU, pmU, pmU, pmU] [.int t0, .int t1] m (X9_argument_j89 again51 l0 l1 l2 l4 t0 t1 m) := by
  unfold X9_argument_j89
  refine pm_ixor dX9_argument_89 ?_
  refine pm_bIn (fun x35 => ?_)
  refine pm_istore_n (ls2 := [.ref l0, .int l1, .int l2, .int x35, .int l4, pmU, pmU, pmU, pmU]) dX9_argument_90 rfl rfl (Nat.le_of_ble_eq_true rfl) rfl ?_
  refine pm_iincn (y := zX9_argument) dX9_argument_91 rfl ki_1 rfl (Nat.le_of_ble_eq_true rfl) (fun x36 => ?_)
  refine pm_eqls (ls2 := [.ref l0, .int l1, .int l2, .int x35, .int x36, pmU, pmU, pmU, pmU]) rfl ?_
  refine pm_goto (tgt := 51) dX9_argument_94 rfl ?_
  exact hag51 (x35, x36, m)
set_option maxRecDepth 100000 in
set_option maxHeartbeats 4000000 in
theorem gX9_argument_L51 (hfl : l.flags = flags0) (l0 : Nat) (l1 : Int32) (l2 : Int32) : ∀ (n : Nat) (s : Int32 × Int32 × pmM), pm_G l Γ zX9_argument (d + 2) 51 [.ref l0, .int l1, .int l2, .int s.1, .int s.2.1, pmU, pmU, pmU, pmU] [] s.2.2 (pm_lp n (X9_argument_L51 l0 l1 l2) s) :=
  pm_loop (lsf := fun s : Int32 × Int32 × pmM => [.ref l0, .int l1, .int l2, .int s.1, .int s.2.1, pmU, pmU, pmU, pmU]) (mf := fun s : Int32 × Int32 × pmM => s.2.2) (fun again51 hag51 s51 => by
    unfold X9_argument_L51
    refine pm_iload dX9_argument_51 rfl ?_
    refine pm_aload_n dX9_argument_53 rfl rfl ?_
    refine fg_9_13 (y := zX9_argument) (Or.inl tw_1379) dX9_argument_54 (fun x9 => ?_)
    refine pm_icmp_ge (tgt := 97) dX9_argument_57 rfl ?_ ?_
    · refine pm_iload_n dX9_argument_97 rfl rfl ?_
      refine pm_if_ne (tgt := 103) dX9_argument_98 rfl ?_ ?_
      · refine pm_iconst (v := 0) dX9_argument_103 ki_0 ?_
        refine pm_istore (ls2 := [.ref l0, .int l1, .int l2, .int s51.1, .int 0, pmU, pmU, pmU, pmU]) dX9_argument_104 rfl (Nat.le_of_ble_eq_true rfl) rfl ?_
        refine pm_drop (ls2 := [.ref l0, .int l1, pmU, .int s51.1, .int 0, pmU, pmU, pmU, pmU]) (Nat.le_refl _) (pm_le_spec (pm_le_v (pm_le_v (pm_le_u (pm_le_v (pm_le_v (pm_le_u (pm_le_u (pm_le_u (pm_le_u (pm_le_n))))))))))) ?_
        exact gX9_argument_L106 hfl l0 l1 s51.1 pm_N (0, s51.2.2)
      · refine pm_iload_n dX9_argument_101 rfl rfl ?_
        exact pm_iret rfl dX9_argument_102
    · refine pm_iload_n dX9_argument_60 rfl rfl ?_
      refine pm_iload_n dX9_argument_61 rfl rfl ?_
      refine pm_iload dX9_argument_62 rfl ?_
      refine pm_kI (d := d + 1) rfl (pm_S (y := zX9_argument) (z := zX9_has) (As := [.int l1, .int s51.2.1]) zkX9_has tw_1748 tw_1749 dX9_argument_64 rfl rfl (Nat.le_of_ble_eq_true rfl)) (kcX9_has (d := d + 1) hfl l1 s51.2.1 s51.2.2) (fun x34 m33 => ?_)
      refine pm_if_eq (tgt := 88) dX9_argument_67 rfl ?_ ?_
      · refine pm_iconst (v := 0) dX9_argument_88 ki_0 ?_
        refine pm_drop (ls2 := [.ref l0, .int l1, .int l2, pmU, .int s51.2.1, pmU, pmU, pmU, pmU]) (Nat.le_refl _) (pm_le_spec (pm_le_v (pm_le_v (pm_le_v (pm_le_u (pm_le_v (pm_le_u (pm_le_u (pm_le_u (pm_le_u (pm_le_n))))))))))) ?_
        exact gX9_argument_j89 hfl again51 l0 l1 l2 s51.2.1 0 s51.1 m33 hag51
      · refine pm_aload_n dX9_argument_70 rfl rfl ?_
        refine pm_aload_n dX9_argument_71 rfl rfl ?_
        refine fg_9_29 (y := zX9_argument) (Or.inl tw_1395) dX9_argument_72 (fun r37 => ?_)
        refine pm_iconst (v := 0) dX9_argument_75 ki_0 ?_
        refine pm_iload dX9_argument_76 rfl ?_
        refine pm_iadd dX9_argument_78 ?_
        refine pm_iald (y := zX9_argument) dX9_argument_79 (fun x38 => ?_)
        refine pm_iload dX9_argument_80 rfl ?_
        refine pm_rcv (fun hb9 hc9 => ?_)
        refine pm_kI (d := d + 1) rfl (pm_V (y := zX9_argument) (z := zX9_valueOf) (As := [.int x38, .int s51.2.1]) zkX9_valueOf pm_q9 (by decide) tw_1862 tw_1864 tw_147 dX9_argument_82 rfl rfl (Nat.le_of_ble_eq_true rfl) hb9 hc9) (kcX9_valueOf (d := d + 0) hfl l0 x38 s51.2.1 m33) (fun x40 m39 => ?_)
        refine pm_goto (tgt := 89) dX9_argument_85 rfl ?_
        refine pm_drop (ls2 := [.ref l0, .int l1, .int l2, pmU, .int s51.2.1, pmU, pmU, pmU, pmU]) (Nat.le_refl _) (pm_le_spec (pm_le_v (pm_le_v (pm_le_v (pm_le_u (pm_le_v (pm_le_u (pm_le_u (pm_le_u (pm_le_u (pm_le_n))))))))))) ?_
        exact gX9_argument_j89 hfl again51 l0 l1 l2 s51.2.1 x40 s51.1 m39 hag51)
set_option maxRecDepth 100000 in
set_option maxHeartbeats 4000000 in
theorem gX9_argument_j32 (hfl : l.flags = flags0) (l0 : Nat) (l1 : Int32) (l2 : Int32) (t0 : Int32) (t1 : Nat) (m : pmM) : pm_G l Γ zX9_argument (d + 2) 32 [.ref l0, .int l1, .int l2, pmU, pmU, pmU, pmU, pmU, pmU] [.int t0, .ref t1] m (X9_argument_j32 l0 l1 l2 t0 t1 m) := by
  unfold X9_argument_j32
  refine pm_iconst (v := 1) dX9_argument_32 ki_1 ?_
  refine pm_iconst (v := 1) dX9_argument_33 ki_1 ?_
  refine pm_rcv (fun hb9 hc9 => ?_)
  refine pm_kI (d := d + 1) rfl (pm_V (y := zX9_argument) (z := zX9_bad) (As := [.int t0, .int 1, .int 1]) zkX9_bad pm_q9 (by decide) tw_1548 tw_1550 tw_99 dX9_argument_34 rfl rfl (Nat.le_of_ble_eq_true rfl) hb9 hc9) (kcX9_bad (d := d + 1) hfl t1 t0 1 1 m) (fun x7 m6 => ?_)
  refine pm_if_eq (tgt := 42) dX9_argument_37 rfl ?_ ?_
  · refine pm_aload_n dX9_argument_42 rfl rfl ?_
    refine pm_rcv (fun hb9 hc9 => ?_)
    refine pm_kV (d := d + 1) rfl (pm_V (y := zX9_argument) (z := zX9_laysPiles) (As := []) zkX9_laysPiles pm_q9 (by decide) tw_1858 tw_1860 tw_146 dX9_argument_43 rfl rfl (Nat.le_of_ble_eq_true rfl) hb9 hc9) (kcX9_laysPiles (d := d + 1) hfl l0 m6) (fun m8 => ?_)
    refine pm_iconst (v := 0) dX9_argument_46 ki_0 ?_
    refine pm_istore_n (ls2 := [.ref l0, .int l1, .int l2, .int 0, pmU, pmU, pmU, pmU, pmU]) dX9_argument_47 rfl rfl (Nat.le_of_ble_eq_true rfl) rfl ?_
    refine pm_iconst (v := 0) dX9_argument_48 ki_0 ?_
    refine pm_istore (ls2 := [.ref l0, .int l1, .int l2, .int 0, .int 0, pmU, pmU, pmU, pmU]) dX9_argument_49 rfl (Nat.le_of_ble_eq_true rfl) rfl ?_
    exact gX9_argument_L51 hfl l0 l1 l2 pm_N (0, 0, m8)
  · refine pm_iconst (v := 0) dX9_argument_40 ki_0 ?_
    exact pm_iret rfl dX9_argument_41
set_option maxRecDepth 100000 in
set_option maxHeartbeats 4000000 in
theorem gX9_argument_j27 (hfl : l.flags = flags0) (l0 : Nat) (l1 : Int32) (l2 : Int32) (t0 : Nat) (m : pmM) : pm_G l Γ zX9_argument (d + 2) 27 [.ref l0, .int l1, .int l2, pmU, pmU, pmU, pmU, pmU, pmU] [.ref t0] m (X9_argument_j27 l0 l1 l2 t0 m) := by
  unfold X9_argument_j27
  refine pm_iconst (v := 1) dX9_argument_27 ki_1 ?_
  refine pm_goto (tgt := 32) dX9_argument_28 rfl ?_
  exact gX9_argument_j32 hfl l0 l1 l2 1 t0 m
set_option maxRecDepth 100000 in
set_option maxHeartbeats 4000000 in
theorem kcX9_argument (hfl : l.flags = flags0) (a0 : Nat) (a1 : Int32) (a2 : Int32) (m : pmM) : pm_C l Γ zX9_argument (d + 2) [.ref a0, .int a1, .int a2] m (X9_argument a0 a1 a2 m) := by
  refine pm_enter (ls := [.ref a0, .int a1, .int a2, pmU, pmU, pmU, pmU, pmU, pmU]) hfl (by decide +kernel) rfl (Nat.le_of_ble_eq_true rfl) rfl (Nat.le_of_ble_eq_true rfl) ?_
  unfold X9_argument
  refine pm_aload_n dX9_argument_0 rfl rfl ?_
  refine pm_iconst (v := 0) dX9_argument_1 ki_0 ?_
  refine fp_9_0 (y := zX9_argument) (Or.inl tw_1366) dX9_argument_2 (fun m1 => ?_)
  refine pm_aload_n dX9_argument_5 rfl rfl ?_
  refine pm_iload_n dX9_argument_6 rfl rfl ?_
  refine pm_iconst (v := 0) dX9_argument_7 ki_0 ?_
  refine pm_aload_n dX9_argument_8 rfl rfl ?_
  refine pm_rcv (fun hb9 hc9 => ?_)
  refine pm_kI (d := d + 1) rfl (pm_V (y := zX9_argument) (z := zX9_allLines) (As := []) zkX9_allLines pm_q9 (by decide) tw_1870 tw_1872 tw_148 dX9_argument_9 rfl rfl (Nat.le_of_ble_eq_true rfl) hb9 hc9) (kcX9_allLines (d := d + 1) hfl a0 m1) (fun x3 m2 => ?_)
  refine pm_kI (d := d + 1) rfl (pm_S (y := zX9_argument) (z := zX9_in) (As := [.int a1, .int 0, .int x3]) zkX9_in tw_1545 tw_1546 dX9_argument_12 rfl rfl (Nat.le_of_ble_eq_true rfl)) (kcX9_in (d := d + 1) hfl a1 0 x3 m2) (fun x5 m4 => ?_)
  refine pm_if_eq (tgt := 27) dX9_argument_15 rfl ?_ ?_
  · exact gX9_argument_j27 hfl a0 a1 a2 a0 m4
  · refine pm_iload_n dX9_argument_18 rfl rfl ?_
    refine pm_iconst (v := 0) dX9_argument_19 ki_0 ?_
    refine pm_iconst (v := 1) dX9_argument_20 ki_1 ?_
    refine pm_kI (d := d + 1) rfl (pm_S (y := zX9_argument) (z := zX9_in) (As := [.int a2, .int 0, .int 1]) zkX9_in tw_1545 tw_1546 dX9_argument_21 rfl rfl (Nat.le_of_ble_eq_true rfl)) (kcX9_in (d := d + 1) hfl a2 0 1 m4) (fun x42 m41 => ?_)
    refine pm_if_ne (tgt := 31) dX9_argument_24 rfl ?_ ?_
    · refine pm_iconst (v := 0) dX9_argument_31 ki_0 ?_
      exact gX9_argument_j32 hfl a0 a1 a2 0 a0 m41
    · exact gX9_argument_j27 hfl a0 a1 a2 a0 m41
-- StruckPageModel.common(II)I
def X9_common_j193 (again61 : (Int32 × pmM) → pmR) (again70 : (Int32 × pmM) → pmR) (l0 : Nat) (l1 : Int32) (l2 : Int32) (l3 : Int32) (l4 : Int32) (l5 : Int32) (l6 : Int32) (m : pmM) : pmR := pm_bI (l6 + (-1)) fun x19 => again70 (x19, m)
def X9_common_j88 (again61 : (Int32 × pmM) → pmR) (again70 : (Int32 × pmM) → pmR) (l0 : Nat) (l1 : Int32) (l2 : Int32) (l3 : Int32) (l4 : Int32) (l5 : Int32) (l6 : Int32) (m : pmM) : pmR := pm_gR 9 l0 51 m fun r16 => pm_ldR 103 r16 l5 m fun r17 => pm_st 100 r17 l6 0 m fun m18 => X9_common_j193 again61 again70 l0 l1 l2 l3 l4 l5 l6 m18
def X9_common_L70 (again61 : (Int32 × pmM) → pmR) (l0 : Nat) (l1 : Int32) (l2 : Int32) (l3 : Int32) (l4 : Int32) (l5 : Int32) (again70 : (Int32 × pmM) → pmR) (s70 : Int32 × pmM) : pmR := if s70.1 < 0 then (pm_bI (l5 + (-1)) fun x15 => again61 (x15, s70.2)) else (if l5 = l3 then (X9_common_j88 again61 again70 l0 l1 l2 l3 l4 l5 s70.1 s70.2) else (if s70.1 = l4 then (X9_common_j88 again61 again70 l0 l1 l2 l3 l4 l5 s70.1 s70.2) else (pm_gR 9 l0 29 s70.2 fun r20 => pm_rc 9 l0 s70.2 <| pm_cI (X9_leftWord l0 r20 l1 l5 s70.2) fun x22 m21 => pm_gR 9 l0 29 m21 fun r23 => pm_rc 9 l0 m21 <| pm_cI (X9_leftWord l0 r23 l2 s70.1 m21) fun x25 m24 => if x22 = x25 then (pm_gR 9 l0 51 m24 fun r37 => pm_ldR 103 r37 l5 m24 fun r38 => pm_gR 9 l0 51 m24 fun r39 => pm_ldR 103 r39 (l5 + 1) m24 fun r40 => pm_ld 100 r40 (s70.1 + 1) m24 fun x41 => pm_st 100 r38 s70.1 ((1 : Int32) + x41) m24 fun m42 => X9_common_j193 again61 again70 l0 l1 l2 l3 l4 l5 s70.1 m42) else (pm_gR 9 l0 51 m24 fun r26 => pm_ldR 103 r26 l5 m24 fun r27 => pm_gR 9 l0 51 m24 fun r28 => pm_ldR 103 r28 (l5 + 1) m24 fun r29 => pm_ld 100 r29 s70.1 m24 fun x30 => pm_gR 9 l0 51 m24 fun r31 => pm_ldR 103 r31 l5 m24 fun r32 => pm_ld 100 r32 (s70.1 + 1) m24 fun x33 => pm_cI (X9_more x30 x33 m24) fun x35 m34 => pm_st 100 r27 s70.1 x35 m34 fun m36 => X9_common_j193 again61 again70 l0 l1 l2 l3 l4 l5 s70.1 m36))))
def X9_common_L61 (l0 : Nat) (l1 : Int32) (l2 : Int32) (l3 : Int32) (l4 : Int32) (again61 : (Int32 × pmM) → pmR) (s61 : Int32 × pmM) : pmR := if s61.1 < 0 then (pm_gR 9 l0 51 s61.2 fun r12 => pm_ldR 103 r12 0 s61.2 fun r13 => pm_ld 100 r13 0 s61.2 fun x14 => pm_oI x14 s61.2) else (pm_lp pm_N (X9_common_L70 again61 l0 l1 l2 l3 l4 s61.1) (l4, s61.2))
def X9_common_j27 (l0 : Nat) (l1 : Int32) (l2 : Int32) (t0 : Int32) (t1 : Nat) (m : pmM) : pmR := pm_rc 9 t1 m <| pm_cI (X9_bad t1 t0 1 0 m) fun x5 m4 => if x5 = 0 then (pm_gR 9 l0 29 m4 fun r6 => pm_rc 9 l0 m4 <| pm_cI (X9_leftIn l0 r6 l1 m4) fun x8 m7 => pm_gR 9 l0 29 m7 fun r9 => pm_rc 9 l0 m7 <| pm_cI (X9_leftIn l0 r9 l2 m7) fun x11 m10 => pm_lp pm_N (X9_common_L61 l0 l1 l2 x8 x11) (x8, m10)) else (pm_oI 0 m4)
def X9_common_j22 (l0 : Nat) (l1 : Int32) (l2 : Int32) (t0 : Nat) (m : pmM) : pmR := X9_common_j27 l0 l1 l2 1 t0 m
def X9_common (a0 : Nat) (a1 : Int32) (a2 : Int32) (m : pmM) : pmR := pm_pI 9 a0 0 0 m fun m1 => pm_rc 9 a0 m1 <| pm_cI (X9_isLine a0 a1 m1) fun x3 m2 => if x3 = 0 then (X9_common_j22 a0 a1 a2 a0 m2) else (pm_rc 9 a0 m2 <| pm_cI (X9_isLine a0 a2 m2) fun x44 m43 => if x44 = 0 then (X9_common_j22 a0 a1 a2 a0 m43) else (X9_common_j27 a0 a1 a2 0 a0 m43))
set_option maxRecDepth 100000 in
set_option maxHeartbeats 4000000 in
theorem gX9_common_j193 (hfl : l.flags = flags0) (again61 : (Int32 × pmM) → pmR) (again70 : (Int32 × pmM) → pmR) (l0 : Nat) (l1 : Int32) (l2 : Int32) (l3 : Int32) (l4 : Int32) (l5 : Int32) (l6 : Int32) (m : pmM) (hag61 : ∀ s : Int32 × pmM, pm_G l Γ zX9_common (d + 2) 61 [.ref l0, .int l1, .int l2, .int l3, .int l4, .int s.1, pmU] [] s.2 (again61 s)) (hag70 : ∀ s : Int32 × pmM, pm_G l Γ zX9_common (d + 2) 70 [.ref l0, .int l1, .int l2, .int l3, .int l4, .int l5, .int s.1] [] s.2 (again70 s)) : pm_G l Γ zX9_common (d + 2) 193 [.ref l0, .int l1, .int l2, .int l3, .int l4, .int l5, .int l6] [] m (X9_common_j193 again61 again70 l0 l1 l2 l3 l4 l5 l6 m) := by
  unfold X9_common_j193
  refine pm_iincn (y := zX9_common) dX9_common_193 rfl ki_n1 rfl (Nat.le_of_ble_eq_true rfl) (fun x19 => ?_)
  refine pm_eqls (ls2 := [.ref l0, .int l1, .int l2, .int l3, .int l4, .int l5, .int x19]) rfl ?_
  refine pm_goto (tgt := 70) dX9_common_196 rfl ?_
  exact hag70 (x19, m)
set_option maxRecDepth 100000 in
set_option maxHeartbeats 4000000 in
theorem gX9_common_j88 (hfl : l.flags = flags0) (again61 : (Int32 × pmM) → pmR) (again70 : (Int32 × pmM) → pmR) (l0 : Nat) (l1 : Int32) (l2 : Int32) (l3 : Int32) (l4 : Int32) (l5 : Int32) (l6 : Int32) (m : pmM) (hag61 : ∀ s : Int32 × pmM, pm_G l Γ zX9_common (d + 2) 61 [.ref l0, .int l1, .int l2, .int l3, .int l4, .int s.1, pmU] [] s.2 (again61 s)) (hag70 : ∀ s : Int32 × pmM, pm_G l Γ zX9_common (d + 2) 70 [.ref l0, .int l1, .int l2, .int l3, .int l4, .int l5, .int s.1] [] s.2 (again70 s)) : pm_G l Γ zX9_common (d + 2) 88 [.ref l0, .int l1, .int l2, .int l3, .int l4, .int l5, .int l6] [] m (X9_common_j88 again61 again70 l0 l1 l2 l3 l4 l5 l6 m) := by
  unfold X9_common_j88
  refine pm_aload_n dX9_common_88 rfl rfl ?_
  refine fg_9_51 (y := zX9_common) (Or.inl tw_1417) dX9_common_89 (fun r16 => ?_)
  refine pm_iload dX9_common_92 rfl ?_
  refine pm_aaldI (y := zX9_common) dX9_common_94 (fun r17 => ?_)
  refine pm_iload dX9_common_95 rfl ?_
  refine pm_iconst (v := 0) dX9_common_97 ki_0 ?_
  refine pm_iast (y := zX9_common) dX9_common_98 (fun m18 => ?_)
  refine pm_goto (tgt := 193) dX9_common_99 rfl ?_
  exact gX9_common_j193 hfl again61 again70 l0 l1 l2 l3 l4 l5 l6 m18 hag61 hag70
set_option maxRecDepth 100000 in
set_option maxHeartbeats 4000000 in
theorem gX9_common_L70 (hfl : l.flags = flags0) (again61 : (Int32 × pmM) → pmR) (l0 : Nat) (l1 : Int32) (l2 : Int32) (l3 : Int32) (l4 : Int32) (l5 : Int32) (hag61 : ∀ s : Int32 × pmM, pm_G l Γ zX9_common (d + 2) 61 [.ref l0, .int l1, .int l2, .int l3, .int l4, .int s.1, pmU] [] s.2 (again61 s)) : ∀ (n : Nat) (s : Int32 × pmM), pm_G l Γ zX9_common (d + 2) 70 [.ref l0, .int l1, .int l2, .int l3, .int l4, .int l5, .int s.1] [] s.2 (pm_lp n (X9_common_L70 again61 l0 l1 l2 l3 l4 l5) s) :=
  pm_loop (lsf := fun s : Int32 × pmM => [.ref l0, .int l1, .int l2, .int l3, .int l4, .int l5, .int s.1]) (mf := fun s : Int32 × pmM => s.2) (fun again70 hag70 s70 => by
    unfold X9_common_L70
    refine pm_iload dX9_common_70 rfl ?_
    refine pm_if_lt (tgt := 199) dX9_common_72 rfl ?_ ?_
    · refine pm_iincn (y := zX9_common) dX9_common_199 rfl ki_n1 rfl (Nat.le_of_ble_eq_true rfl) (fun x15 => ?_)
      refine pm_eqls (ls2 := [.ref l0, .int l1, .int l2, .int l3, .int l4, .int x15, .int s70.1]) rfl ?_
      refine pm_goto (tgt := 61) dX9_common_202 rfl ?_
      refine pm_drop (ls2 := [.ref l0, .int l1, .int l2, .int l3, .int l4, .int x15, pmU]) (Nat.le_refl _) (pm_le_spec (pm_le_v (pm_le_v (pm_le_v (pm_le_v (pm_le_v (pm_le_v (pm_le_u (pm_le_n))))))))) ?_
      exact hag61 (x15, s70.2)
    · refine pm_iload dX9_common_75 rfl ?_
      refine pm_iload_n dX9_common_77 rfl rfl ?_
      refine pm_icmp_eq (tgt := 88) dX9_common_78 rfl ?_ ?_
      · exact gX9_common_j88 hfl again61 again70 l0 l1 l2 l3 l4 l5 s70.1 s70.2 hag61 hag70
      · refine pm_iload dX9_common_81 rfl ?_
        refine pm_iload dX9_common_83 rfl ?_
        refine pm_icmp_ne (tgt := 102) dX9_common_85 rfl ?_ ?_
        · refine pm_aload_n dX9_common_102 rfl rfl ?_
          refine pm_aload_n dX9_common_103 rfl rfl ?_
          refine fg_9_29 (y := zX9_common) (Or.inl tw_1395) dX9_common_104 (fun r20 => ?_)
          refine pm_iload_n dX9_common_107 rfl rfl ?_
          refine pm_iload dX9_common_108 rfl ?_
          refine pm_rcv (fun hb9 hc9 => ?_)
          refine pm_kI (d := d + 1) rfl (pm_V (y := zX9_common) (z := zX9_leftWord) (As := [.ref r20, .int l1, .int l5]) zkX9_leftWord pm_q9 (by decide) tw_1744 tw_1746 tw_137 dX9_common_110 rfl rfl (Nat.le_of_ble_eq_true rfl) hb9 hc9) (kcX9_leftWord (d := d + 0) hfl l0 r20 l1 l5 s70.2) (fun x22 m21 => ?_)
          refine pm_aload_n dX9_common_113 rfl rfl ?_
          refine pm_aload_n dX9_common_114 rfl rfl ?_
          refine fg_9_29 (y := zX9_common) (Or.inl tw_1395) dX9_common_115 (fun r23 => ?_)
          refine pm_iload_n dX9_common_118 rfl rfl ?_
          refine pm_iload dX9_common_119 rfl ?_
          refine pm_rcv (fun hb9 hc9 => ?_)
          refine pm_kI (d := d + 1) rfl (pm_V (y := zX9_common) (z := zX9_leftWord) (As := [.ref r23, .int l2, .int s70.1]) zkX9_leftWord pm_q9 (by decide) tw_1744 tw_1746 tw_137 dX9_common_121 rfl rfl (Nat.le_of_ble_eq_true rfl) hb9 hc9) (kcX9_leftWord (d := d + 0) hfl l0 r23 l2 s70.1 m21) (fun x25 m24 => ?_)
          refine pm_icmp_ne (tgt := 156) dX9_common_124 rfl ?_ ?_
          · refine pm_aload_n dX9_common_156 rfl rfl ?_
            refine fg_9_51 (y := zX9_common) (Or.inl tw_1417) dX9_common_157 (fun r26 => ?_)
            refine pm_iload dX9_common_160 rfl ?_
            refine pm_aaldI (y := zX9_common) dX9_common_162 (fun r27 => ?_)
            refine pm_iload dX9_common_163 rfl ?_
            refine pm_aload_n dX9_common_165 rfl rfl ?_
            refine fg_9_51 (y := zX9_common) (Or.inl tw_1417) dX9_common_166 (fun r28 => ?_)
            refine pm_iload dX9_common_169 rfl ?_
            refine pm_iconst (v := 1) dX9_common_171 ki_1 ?_
            refine pm_iadd dX9_common_172 ?_
            refine pm_aaldI (y := zX9_common) dX9_common_173 (fun r29 => ?_)
            refine pm_iload dX9_common_174 rfl ?_
            refine pm_iald (y := zX9_common) dX9_common_176 (fun x30 => ?_)
            refine pm_aload_n dX9_common_177 rfl rfl ?_
            refine fg_9_51 (y := zX9_common) (Or.inl tw_1417) dX9_common_178 (fun r31 => ?_)
            refine pm_iload dX9_common_181 rfl ?_
            refine pm_aaldI (y := zX9_common) dX9_common_183 (fun r32 => ?_)
            refine pm_iload dX9_common_184 rfl ?_
            refine pm_iconst (v := 1) dX9_common_186 ki_1 ?_
            refine pm_iadd dX9_common_187 ?_
            refine pm_iald (y := zX9_common) dX9_common_188 (fun x33 => ?_)
            refine pm_kI (d := d + 1) rfl (pm_S (y := zX9_common) (z := zX9_more) (As := [.int x30, .int x33]) zkX9_more tw_1725 tw_1726 dX9_common_189 rfl rfl (Nat.le_of_ble_eq_true rfl)) (kcX9_more (d := d + 1) hfl x30 x33 m24) (fun x35 m34 => ?_)
            refine pm_iast (y := zX9_common) dX9_common_192 (fun m36 => ?_)
            exact gX9_common_j193 hfl again61 again70 l0 l1 l2 l3 l4 l5 s70.1 m36 hag61 hag70
          · refine pm_aload_n dX9_common_127 rfl rfl ?_
            refine fg_9_51 (y := zX9_common) (Or.inl tw_1417) dX9_common_128 (fun r37 => ?_)
            refine pm_iload dX9_common_131 rfl ?_
            refine pm_aaldI (y := zX9_common) dX9_common_133 (fun r38 => ?_)
            refine pm_iload dX9_common_134 rfl ?_
            refine pm_iconst (v := 1) dX9_common_136 ki_1 ?_
            refine pm_aload_n dX9_common_137 rfl rfl ?_
            refine fg_9_51 (y := zX9_common) (Or.inl tw_1417) dX9_common_138 (fun r39 => ?_)
            refine pm_iload dX9_common_141 rfl ?_
            refine pm_iconst (v := 1) dX9_common_143 ki_1 ?_
            refine pm_iadd dX9_common_144 ?_
            refine pm_aaldI (y := zX9_common) dX9_common_145 (fun r40 => ?_)
            refine pm_iload dX9_common_146 rfl ?_
            refine pm_iconst (v := 1) dX9_common_148 ki_1 ?_
            refine pm_iadd dX9_common_149 ?_
            refine pm_iald (y := zX9_common) dX9_common_150 (fun x41 => ?_)
            refine pm_iadd dX9_common_151 ?_
            refine pm_iast (y := zX9_common) dX9_common_152 (fun m42 => ?_)
            refine pm_goto (tgt := 193) dX9_common_153 rfl ?_
            exact gX9_common_j193 hfl again61 again70 l0 l1 l2 l3 l4 l5 s70.1 m42 hag61 hag70
        · exact gX9_common_j88 hfl again61 again70 l0 l1 l2 l3 l4 l5 s70.1 s70.2 hag61 hag70)
set_option maxRecDepth 100000 in
set_option maxHeartbeats 4000000 in
theorem gX9_common_L61 (hfl : l.flags = flags0) (l0 : Nat) (l1 : Int32) (l2 : Int32) (l3 : Int32) (l4 : Int32) : ∀ (n : Nat) (s : Int32 × pmM), pm_G l Γ zX9_common (d + 2) 61 [.ref l0, .int l1, .int l2, .int l3, .int l4, .int s.1, pmU] [] s.2 (pm_lp n (X9_common_L61 l0 l1 l2 l3 l4) s) :=
  pm_loop (lsf := fun s : Int32 × pmM => [.ref l0, .int l1, .int l2, .int l3, .int l4, .int s.1, pmU]) (mf := fun s : Int32 × pmM => s.2) (fun again61 hag61 s61 => by
    unfold X9_common_L61
    refine pm_iload dX9_common_61 rfl ?_
    refine pm_if_lt (tgt := 205) dX9_common_63 rfl ?_ ?_
    · refine pm_aload_n dX9_common_205 rfl rfl ?_
      refine fg_9_51 (y := zX9_common) (Or.inl tw_1417) dX9_common_206 (fun r12 => ?_)
      refine pm_iconst (v := 0) dX9_common_209 ki_0 ?_
      refine pm_aaldI (y := zX9_common) dX9_common_210 (fun r13 => ?_)
      refine pm_iconst (v := 0) dX9_common_211 ki_0 ?_
      refine pm_iald (y := zX9_common) dX9_common_212 (fun x14 => ?_)
      exact pm_iret rfl dX9_common_213
    · refine pm_iload dX9_common_66 rfl ?_
      refine pm_istore (ls2 := [.ref l0, .int l1, .int l2, .int l3, .int l4, .int s61.1, .int l4]) dX9_common_68 rfl (Nat.le_of_ble_eq_true rfl) rfl ?_
      exact gX9_common_L70 hfl again61 l0 l1 l2 l3 l4 s61.1 hag61 pm_N (l4, s61.2))
set_option maxRecDepth 100000 in
set_option maxHeartbeats 4000000 in
theorem gX9_common_j27 (hfl : l.flags = flags0) (l0 : Nat) (l1 : Int32) (l2 : Int32) (t0 : Int32) (t1 : Nat) (m : pmM) : pm_G l Γ zX9_common (d + 2) 27 [.ref l0, .int l1, .int l2, pmU, pmU, pmU, pmU] [.int t0, .ref t1] m (X9_common_j27 l0 l1 l2 t0 t1 m) := by
  unfold X9_common_j27
  refine pm_iconst (v := 1) dX9_common_27 ki_1 ?_
  refine pm_iconst (v := 0) dX9_common_28 ki_0 ?_
  refine pm_rcv (fun hb9 hc9 => ?_)
  refine pm_kI (d := d + 1) rfl (pm_V (y := zX9_common) (z := zX9_bad) (As := [.int t0, .int 1, .int 0]) zkX9_bad pm_q9 (by decide) tw_1548 tw_1550 tw_99 dX9_common_29 rfl rfl (Nat.le_of_ble_eq_true rfl) hb9 hc9) (kcX9_bad (d := d + 1) hfl t1 t0 1 0 m) (fun x5 m4 => ?_)
  refine pm_if_eq (tgt := 37) dX9_common_32 rfl ?_ ?_
  · refine pm_aload_n dX9_common_37 rfl rfl ?_
    refine pm_aload_n dX9_common_38 rfl rfl ?_
    refine fg_9_29 (y := zX9_common) (Or.inl tw_1395) dX9_common_39 (fun r6 => ?_)
    refine pm_iload_n dX9_common_42 rfl rfl ?_
    refine pm_rcv (fun hb9 hc9 => ?_)
    refine pm_kI (d := d + 1) rfl (pm_V (y := zX9_common) (z := zX9_leftIn) (As := [.ref r6, .int l1]) zkX9_leftIn pm_q9 (by decide) tw_1707 tw_1709 tw_130 dX9_common_43 rfl rfl (Nat.le_of_ble_eq_true rfl) hb9 hc9) (kcX9_leftIn (d := d + 0) hfl l0 r6 l1 m4) (fun x8 m7 => ?_)
    refine pm_istore_n (ls2 := [.ref l0, .int l1, .int l2, .int x8, pmU, pmU, pmU]) dX9_common_46 rfl rfl (Nat.le_of_ble_eq_true rfl) rfl ?_
    refine pm_aload_n dX9_common_47 rfl rfl ?_
    refine pm_aload_n dX9_common_48 rfl rfl ?_
    refine fg_9_29 (y := zX9_common) (Or.inl tw_1395) dX9_common_49 (fun r9 => ?_)
    refine pm_iload_n dX9_common_52 rfl rfl ?_
    refine pm_rcv (fun hb9 hc9 => ?_)
    refine pm_kI (d := d + 1) rfl (pm_V (y := zX9_common) (z := zX9_leftIn) (As := [.ref r9, .int l2]) zkX9_leftIn pm_q9 (by decide) tw_1707 tw_1709 tw_130 dX9_common_53 rfl rfl (Nat.le_of_ble_eq_true rfl) hb9 hc9) (kcX9_leftIn (d := d + 0) hfl l0 r9 l2 m7) (fun x11 m10 => ?_)
    refine pm_istore (ls2 := [.ref l0, .int l1, .int l2, .int x8, .int x11, pmU, pmU]) dX9_common_56 rfl (Nat.le_of_ble_eq_true rfl) rfl ?_
    refine pm_iload_n dX9_common_58 rfl rfl ?_
    refine pm_istore (ls2 := [.ref l0, .int l1, .int l2, .int x8, .int x11, .int x8, pmU]) dX9_common_59 rfl (Nat.le_of_ble_eq_true rfl) rfl ?_
    exact gX9_common_L61 hfl l0 l1 l2 x8 x11 pm_N (x8, m10)
  · refine pm_iconst (v := 0) dX9_common_35 ki_0 ?_
    exact pm_iret rfl dX9_common_36
set_option maxRecDepth 100000 in
set_option maxHeartbeats 4000000 in
theorem gX9_common_j22 (hfl : l.flags = flags0) (l0 : Nat) (l1 : Int32) (l2 : Int32) (t0 : Nat) (m : pmM) : pm_G l Γ zX9_common (d + 2) 22 [.ref l0, .int l1, .int l2, pmU, pmU, pmU, pmU] [.ref t0] m (X9_common_j22 l0 l1 l2 t0 m) := by
  unfold X9_common_j22
  refine pm_iconst (v := 1) dX9_common_22 ki_1 ?_
  refine pm_goto (tgt := 27) dX9_common_23 rfl ?_
  exact gX9_common_j27 hfl l0 l1 l2 1 t0 m
set_option maxRecDepth 100000 in
set_option maxHeartbeats 4000000 in
theorem kcX9_common (hfl : l.flags = flags0) (a0 : Nat) (a1 : Int32) (a2 : Int32) (m : pmM) : pm_C l Γ zX9_common (d + 2) [.ref a0, .int a1, .int a2] m (X9_common a0 a1 a2 m) := by
  refine pm_enter (ls := [.ref a0, .int a1, .int a2, pmU, pmU, pmU, pmU]) hfl (by decide +kernel) rfl (Nat.le_of_ble_eq_true rfl) rfl (Nat.le_of_ble_eq_true rfl) ?_
  unfold X9_common
  refine pm_aload_n dX9_common_0 rfl rfl ?_
  refine pm_iconst (v := 0) dX9_common_1 ki_0 ?_
  refine fp_9_0 (y := zX9_common) (Or.inl tw_1366) dX9_common_2 (fun m1 => ?_)
  refine pm_aload_n dX9_common_5 rfl rfl ?_
  refine pm_aload_n dX9_common_6 rfl rfl ?_
  refine pm_iload_n dX9_common_7 rfl rfl ?_
  refine pm_rcv (fun hb9 hc9 => ?_)
  refine pm_kI (d := d + 1) rfl (pm_V (y := zX9_common) (z := zX9_isLine) (As := [.int a1]) zkX9_isLine pm_q9 (by decide) tw_1781 tw_1783 tw_141 dX9_common_8 rfl rfl (Nat.le_of_ble_eq_true rfl) hb9 hc9) (kcX9_isLine (d := d + 0) hfl a0 a1 m1) (fun x3 m2 => ?_)
  refine pm_if_eq (tgt := 22) dX9_common_11 rfl ?_ ?_
  · exact gX9_common_j22 hfl a0 a1 a2 a0 m2
  · refine pm_aload_n dX9_common_14 rfl rfl ?_
    refine pm_iload_n dX9_common_15 rfl rfl ?_
    refine pm_rcv (fun hb9 hc9 => ?_)
    refine pm_kI (d := d + 1) rfl (pm_V (y := zX9_common) (z := zX9_isLine) (As := [.int a2]) zkX9_isLine pm_q9 (by decide) tw_1781 tw_1783 tw_141 dX9_common_16 rfl rfl (Nat.le_of_ble_eq_true rfl) hb9 hc9) (kcX9_isLine (d := d + 0) hfl a0 a2 m2) (fun x44 m43 => ?_)
    refine pm_if_ne (tgt := 26) dX9_common_19 rfl ?_ ?_
    · refine pm_iconst (v := 0) dX9_common_26 ki_0 ?_
      exact gX9_common_j27 hfl a0 a1 a2 0 a0 m43
    · exact gX9_common_j22 hfl a0 a1 a2 a0 m43
-- StruckPageModel.otherwise(I)I
def X9_otherwise (a0 : Nat) (a1 : Int32) (m : pmM) : pmR := pm_gR 9 a0 29 m fun r1 => pm_ld 100 r1 ((0 : Int32) + a1) m fun x2 => pm_gR 9 a0 32 m fun r3 => pm_gI 9 a0 36 m fun x4 => pm_ldR 103 r3 (x4 - 1) m fun r5 => pm_ld 100 r5 ((1 : Int32) + a1) m fun x6 => pm_oI (x2 ^^^ x6) m
set_option maxRecDepth 100000 in
set_option maxHeartbeats 4000000 in
theorem kcX9_otherwise (hfl : l.flags = flags0) (a0 : Nat) (a1 : Int32) (m : pmM) : pm_C l Γ zX9_otherwise (d + 0) [.ref a0, .int a1] m (X9_otherwise a0 a1 m) := by
  refine pm_enter (ls := [.ref a0, .int a1]) hfl (by decide +kernel) rfl (Nat.le_of_ble_eq_true rfl) rfl (Nat.le_of_ble_eq_true rfl) ?_
  unfold X9_otherwise
  refine pm_aload_n dX9_otherwise_0 rfl rfl ?_
  refine fg_9_29 (y := zX9_otherwise) (Or.inl tw_1395) dX9_otherwise_1 (fun r1 => ?_)
  refine pm_iconst (v := 0) dX9_otherwise_4 ki_0 ?_
  refine pm_iload_n dX9_otherwise_5 rfl rfl ?_
  refine pm_iadd dX9_otherwise_6 ?_
  refine pm_iald (y := zX9_otherwise) dX9_otherwise_7 (fun x2 => ?_)
  refine pm_aload_n dX9_otherwise_8 rfl rfl ?_
  refine fg_9_32 (y := zX9_otherwise) (Or.inl tw_1398) dX9_otherwise_9 (fun r3 => ?_)
  refine pm_aload_n dX9_otherwise_12 rfl rfl ?_
  refine fg_9_36 (y := zX9_otherwise) (Or.inl tw_1402) dX9_otherwise_13 (fun x4 => ?_)
  refine pm_iconst (v := 1) dX9_otherwise_16 ki_1 ?_
  refine pm_isub dX9_otherwise_17 ?_
  refine pm_aaldI (y := zX9_otherwise) dX9_otherwise_18 (fun r5 => ?_)
  refine pm_iconst (v := 1) dX9_otherwise_19 ki_1 ?_
  refine pm_iload_n dX9_otherwise_20 rfl rfl ?_
  refine pm_iadd dX9_otherwise_21 ?_
  refine pm_iald (y := zX9_otherwise) dX9_otherwise_22 (fun x6 => ?_)
  refine pm_ixor dX9_otherwise_23 ?_
  exact pm_iret rfl dX9_otherwise_24
-- StruckPageModel.apart()I
def X9_apart_j52 (l1 : Int32) (m : pmM) : pmR := pm_oI l1 m
def X9_apart_L20 (l0 : Nat) (again20 : (Int32 × Int32 × pmM) → pmR) (s20 : Int32 × Int32 × pmM) : pmR := pm_gI 9 l0 13 s20.2.2 fun x3 => if x3 ≤ s20.2.1 then (X9_apart_j52 s20.1 s20.2.2) else (pm_gI 9 l0 36 s20.2.2 fun x4 => if x4 ≤ 0 then (X9_apart_j52 s20.1 s20.2.2) else (pm_rc 9 l0 s20.2.2 <| pm_cI (X9_otherwise l0 s20.2.1 s20.2.2) fun x6 m5 => pm_cI (X9_ones x6 m5) fun x8 m7 => pm_bI (s20.1 + x8) fun x9 => pm_bI (s20.2.1 + 1) fun x10 => again20 (x9, x10, m7)))
def X9_apart_j17 (l0 : Nat) (t0 : Int32) (m : pmM) : pmR := pm_lp pm_N (X9_apart_L20 l0) (t0, 0, m)
def X9_apart (a0 : Nat) (m : pmM) : pmR := pm_pI 9 a0 0 0 m fun m1 => pm_gI 9 a0 36 m1 fun x2 => if x2 = 0 then (X9_apart_j17 a0 (-1) m1) else (X9_apart_j17 a0 0 m1)
set_option maxRecDepth 100000 in
set_option maxHeartbeats 4000000 in
theorem gX9_apart_j52 (hfl : l.flags = flags0) (l1 : Int32) (m : pmM) : pm_G l Γ zX9_apart (d + 1) 52 [pmU, .int l1, pmU] [] m (X9_apart_j52 l1 m) := by
  unfold X9_apart_j52
  refine pm_iload_n dX9_apart_52 rfl rfl ?_
  exact pm_iret rfl dX9_apart_53
set_option maxRecDepth 100000 in
set_option maxHeartbeats 4000000 in
theorem gX9_apart_L20 (hfl : l.flags = flags0) (l0 : Nat) : ∀ (n : Nat) (s : Int32 × Int32 × pmM), pm_G l Γ zX9_apart (d + 1) 20 [.ref l0, .int s.1, .int s.2.1] [] s.2.2 (pm_lp n (X9_apart_L20 l0) s) :=
  pm_loop (lsf := fun s : Int32 × Int32 × pmM => [.ref l0, .int s.1, .int s.2.1]) (mf := fun s : Int32 × Int32 × pmM => s.2.2) (fun again20 hag20 s20 => by
    unfold X9_apart_L20
    refine pm_iload_n dX9_apart_20 rfl rfl ?_
    refine pm_aload_n dX9_apart_21 rfl rfl ?_
    refine fg_9_13 (y := zX9_apart) (Or.inl tw_1379) dX9_apart_22 (fun x3 => ?_)
    refine pm_icmp_ge (tgt := 52) dX9_apart_25 rfl ?_ ?_
    · refine pm_drop (ls2 := [pmU, .int s20.1, pmU]) (Nat.le_refl _) (pm_le_spec (pm_le_u (pm_le_v (pm_le_u (pm_le_n))))) ?_
      exact gX9_apart_j52 hfl s20.1 s20.2.2
    · refine pm_aload_n dX9_apart_28 rfl rfl ?_
      refine fg_9_36 (y := zX9_apart) (Or.inl tw_1402) dX9_apart_29 (fun x4 => ?_)
      refine pm_if_le (tgt := 52) dX9_apart_32 rfl ?_ ?_
      · refine pm_drop (ls2 := [pmU, .int s20.1, pmU]) (Nat.le_refl _) (pm_le_spec (pm_le_u (pm_le_v (pm_le_u (pm_le_n))))) ?_
        exact gX9_apart_j52 hfl s20.1 s20.2.2
      · refine pm_iload_n dX9_apart_35 rfl rfl ?_
        refine pm_aload_n dX9_apart_36 rfl rfl ?_
        refine pm_iload_n dX9_apart_37 rfl rfl ?_
        refine pm_rcv (fun hb9 hc9 => ?_)
        refine pm_kI (d := d + 0) rfl (pm_V (y := zX9_apart) (z := zX9_otherwise) (As := [.int s20.2.1]) zkX9_otherwise pm_q9 (by decide) tw_1882 tw_1884 tw_149 dX9_apart_38 rfl rfl (Nat.le_of_ble_eq_true rfl) hb9 hc9) (kcX9_otherwise (d := d + 0) hfl l0 s20.2.1 s20.2.2) (fun x6 m5 => ?_)
        refine pm_kI (d := d + 0) rfl (pm_S (y := zX9_apart) (z := zX9_ones) (As := [.int x6]) zkX9_ones tw_1700 tw_1701 dX9_apart_41 rfl rfl (Nat.le_of_ble_eq_true rfl)) (kcX9_ones (d := d + 0) hfl x6 m5) (fun x8 m7 => ?_)
        refine pm_iadd dX9_apart_44 ?_
        refine pm_bIn (fun x9 => ?_)
        refine pm_istore_n (ls2 := [.ref l0, .int x9, .int s20.2.1]) dX9_apart_45 rfl rfl (Nat.le_of_ble_eq_true rfl) rfl ?_
        refine pm_iincn (y := zX9_apart) dX9_apart_46 rfl ki_1 rfl (Nat.le_of_ble_eq_true rfl) (fun x10 => ?_)
        refine pm_eqls (ls2 := [.ref l0, .int x9, .int x10]) rfl ?_
        refine pm_goto (tgt := 20) dX9_apart_49 rfl ?_
        exact hag20 (x9, x10, m7))
set_option maxRecDepth 100000 in
set_option maxHeartbeats 4000000 in
theorem gX9_apart_j17 (hfl : l.flags = flags0) (l0 : Nat) (t0 : Int32) (m : pmM) : pm_G l Γ zX9_apart (d + 1) 17 [.ref l0, pmU, pmU] [.int t0] m (X9_apart_j17 l0 t0 m) := by
  unfold X9_apart_j17
  refine pm_istore_n (ls2 := [.ref l0, .int t0, pmU]) dX9_apart_17 rfl rfl (Nat.le_of_ble_eq_true rfl) rfl ?_
  refine pm_iconst (v := 0) dX9_apart_18 ki_0 ?_
  refine pm_istore_n (ls2 := [.ref l0, .int t0, .int 0]) dX9_apart_19 rfl rfl (Nat.le_of_ble_eq_true rfl) rfl ?_
  exact gX9_apart_L20 hfl l0 pm_N (t0, 0, m)
set_option maxRecDepth 100000 in
set_option maxHeartbeats 4000000 in
theorem kcX9_apart (hfl : l.flags = flags0) (a0 : Nat) (m : pmM) : pm_C l Γ zX9_apart (d + 1) [.ref a0] m (X9_apart a0 m) := by
  refine pm_enter (ls := [.ref a0, pmU, pmU]) hfl (by decide +kernel) rfl (Nat.le_of_ble_eq_true rfl) rfl (Nat.le_of_ble_eq_true rfl) ?_
  unfold X9_apart
  refine pm_aload_n dX9_apart_0 rfl rfl ?_
  refine pm_iconst (v := 0) dX9_apart_1 ki_0 ?_
  refine fp_9_0 (y := zX9_apart) (Or.inl tw_1366) dX9_apart_2 (fun m1 => ?_)
  refine pm_aload_n dX9_apart_5 rfl rfl ?_
  refine fg_9_36 (y := zX9_apart) (Or.inl tw_1402) dX9_apart_6 (fun x2 => ?_)
  refine pm_if_ne (tgt := 16) dX9_apart_9 rfl ?_ ?_
  · refine pm_iconst (v := 0) dX9_apart_16 ki_0 ?_
    exact gX9_apart_j17 hfl a0 0 m1
  · refine pm_iconst (v := (-1)) dX9_apart_12 ki_n1 ?_
    refine pm_goto (tgt := 17) dX9_apart_13 rfl ?_
    exact gX9_apart_j17 hfl a0 (-1) m1
-- StruckPageModel.mends()I
def X9_mends_j60 (l1 : Int32) (m : pmM) : pmR := pm_oI l1 m
def X9_mends_L20 (l0 : Nat) (again20 : (Int32 × Int32 × pmM) → pmR) (s20 : Int32 × Int32 × pmM) : pmR := pm_gI 9 l0 13 s20.2.2 fun x3 => if x3 ≤ s20.2.1 then (X9_mends_j60 s20.1 s20.2.2) else (pm_gI 9 l0 36 s20.2.2 fun x4 => if x4 ≤ 0 then (X9_mends_j60 s20.1 s20.2.2) else (pm_rc 9 l0 s20.2.2 <| pm_cI (X9_otherwise l0 s20.2.1 s20.2.2) fun x6 m5 => pm_cI (X9_ones (x6 &&& ((x6 <<< ((1 : Int32) &&& 31)) ^^^ (-1))) m5) fun x8 m7 => pm_bI (s20.1 + x8) fun x9 => pm_bI (s20.2.1 + 1) fun x10 => again20 (x9, x10, m7)))
def X9_mends_j17 (l0 : Nat) (t0 : Int32) (m : pmM) : pmR := pm_lp pm_N (X9_mends_L20 l0) (t0, 0, m)
def X9_mends (a0 : Nat) (m : pmM) : pmR := pm_pI 9 a0 0 0 m fun m1 => pm_gI 9 a0 36 m1 fun x2 => if x2 = 0 then (X9_mends_j17 a0 (-1) m1) else (X9_mends_j17 a0 0 m1)
set_option maxRecDepth 100000 in
set_option maxHeartbeats 4000000 in
theorem gX9_mends_j60 (hfl : l.flags = flags0) (l1 : Int32) (m : pmM) : pm_G l Γ zX9_mends (d + 1) 60 [pmU, .int l1, pmU, pmU] [] m (X9_mends_j60 l1 m) := by
  unfold X9_mends_j60
  refine pm_iload_n dX9_mends_60 rfl rfl ?_
  exact pm_iret rfl dX9_mends_61
set_option maxRecDepth 100000 in
set_option maxHeartbeats 4000000 in
theorem gX9_mends_L20 (hfl : l.flags = flags0) (l0 : Nat) : ∀ (n : Nat) (s : Int32 × Int32 × pmM), pm_G l Γ zX9_mends (d + 1) 20 [.ref l0, .int s.1, .int s.2.1, pmU] [] s.2.2 (pm_lp n (X9_mends_L20 l0) s) :=
  pm_loop (lsf := fun s : Int32 × Int32 × pmM => [.ref l0, .int s.1, .int s.2.1, pmU]) (mf := fun s : Int32 × Int32 × pmM => s.2.2) (fun again20 hag20 s20 => by
    unfold X9_mends_L20
    refine pm_iload_n dX9_mends_20 rfl rfl ?_
    refine pm_aload_n dX9_mends_21 rfl rfl ?_
    refine fg_9_13 (y := zX9_mends) (Or.inl tw_1379) dX9_mends_22 (fun x3 => ?_)
    refine pm_icmp_ge (tgt := 60) dX9_mends_25 rfl ?_ ?_
    · refine pm_drop (ls2 := [pmU, .int s20.1, pmU, pmU]) (Nat.le_refl _) (pm_le_spec (pm_le_u (pm_le_v (pm_le_u (pm_le_u (pm_le_n)))))) ?_
      exact gX9_mends_j60 hfl s20.1 s20.2.2
    · refine pm_aload_n dX9_mends_28 rfl rfl ?_
      refine fg_9_36 (y := zX9_mends) (Or.inl tw_1402) dX9_mends_29 (fun x4 => ?_)
      refine pm_if_le (tgt := 60) dX9_mends_32 rfl ?_ ?_
      · refine pm_drop (ls2 := [pmU, .int s20.1, pmU, pmU]) (Nat.le_refl _) (pm_le_spec (pm_le_u (pm_le_v (pm_le_u (pm_le_u (pm_le_n)))))) ?_
        exact gX9_mends_j60 hfl s20.1 s20.2.2
      · refine pm_aload_n dX9_mends_35 rfl rfl ?_
        refine pm_iload_n dX9_mends_36 rfl rfl ?_
        refine pm_rcv (fun hb9 hc9 => ?_)
        refine pm_kI (d := d + 0) rfl (pm_V (y := zX9_mends) (z := zX9_otherwise) (As := [.int s20.2.1]) zkX9_otherwise pm_q9 (by decide) tw_1882 tw_1884 tw_149 dX9_mends_37 rfl rfl (Nat.le_of_ble_eq_true rfl) hb9 hc9) (kcX9_otherwise (d := d + 0) hfl l0 s20.2.1 s20.2.2) (fun x6 m5 => ?_)
        refine pm_istore_n (ls2 := [.ref l0, .int s20.1, .int s20.2.1, .int x6]) dX9_mends_40 rfl rfl (Nat.le_of_ble_eq_true rfl) rfl ?_
        refine pm_iload_n dX9_mends_41 rfl rfl ?_
        refine pm_iload_n dX9_mends_42 rfl rfl ?_
        refine pm_iload_n dX9_mends_43 rfl rfl ?_
        refine pm_iconst (v := 1) dX9_mends_44 ki_1 ?_
        refine pm_ishl dX9_mends_45 ?_
        refine pm_iconst (v := (-1)) dX9_mends_46 ki_n1 ?_
        refine pm_ixor dX9_mends_47 ?_
        refine pm_iand dX9_mends_48 ?_
        refine pm_kI (d := d + 0) rfl (pm_S (y := zX9_mends) (z := zX9_ones) (As := [.int (x6 &&& ((x6 <<< ((1 : Int32) &&& 31)) ^^^ (-1)))]) zkX9_ones tw_1700 tw_1701 dX9_mends_49 rfl rfl (Nat.le_of_ble_eq_true rfl)) (kcX9_ones (d := d + 0) hfl (x6 &&& ((x6 <<< ((1 : Int32) &&& 31)) ^^^ (-1))) m5) (fun x8 m7 => ?_)
        refine pm_iadd dX9_mends_52 ?_
        refine pm_bIn (fun x9 => ?_)
        refine pm_istore_n (ls2 := [.ref l0, .int x9, .int s20.2.1, .int x6]) dX9_mends_53 rfl rfl (Nat.le_of_ble_eq_true rfl) rfl ?_
        refine pm_iincn (y := zX9_mends) dX9_mends_54 rfl ki_1 rfl (Nat.le_of_ble_eq_true rfl) (fun x10 => ?_)
        refine pm_eqls (ls2 := [.ref l0, .int x9, .int x10, .int x6]) rfl ?_
        refine pm_goto (tgt := 20) dX9_mends_57 rfl ?_
        refine pm_drop (ls2 := [.ref l0, .int x9, .int x10, pmU]) (Nat.le_refl _) (pm_le_spec (pm_le_v (pm_le_v (pm_le_v (pm_le_u (pm_le_n)))))) ?_
        exact hag20 (x9, x10, m7))
set_option maxRecDepth 100000 in
set_option maxHeartbeats 4000000 in
theorem gX9_mends_j17 (hfl : l.flags = flags0) (l0 : Nat) (t0 : Int32) (m : pmM) : pm_G l Γ zX9_mends (d + 1) 17 [.ref l0, pmU, pmU, pmU] [.int t0] m (X9_mends_j17 l0 t0 m) := by
  unfold X9_mends_j17
  refine pm_istore_n (ls2 := [.ref l0, .int t0, pmU, pmU]) dX9_mends_17 rfl rfl (Nat.le_of_ble_eq_true rfl) rfl ?_
  refine pm_iconst (v := 0) dX9_mends_18 ki_0 ?_
  refine pm_istore_n (ls2 := [.ref l0, .int t0, .int 0, pmU]) dX9_mends_19 rfl rfl (Nat.le_of_ble_eq_true rfl) rfl ?_
  exact gX9_mends_L20 hfl l0 pm_N (t0, 0, m)
set_option maxRecDepth 100000 in
set_option maxHeartbeats 4000000 in
theorem kcX9_mends (hfl : l.flags = flags0) (a0 : Nat) (m : pmM) : pm_C l Γ zX9_mends (d + 1) [.ref a0] m (X9_mends a0 m) := by
  refine pm_enter (ls := [.ref a0, pmU, pmU, pmU]) hfl (by decide +kernel) rfl (Nat.le_of_ble_eq_true rfl) rfl (Nat.le_of_ble_eq_true rfl) ?_
  unfold X9_mends
  refine pm_aload_n dX9_mends_0 rfl rfl ?_
  refine pm_iconst (v := 0) dX9_mends_1 ki_0 ?_
  refine fp_9_0 (y := zX9_mends) (Or.inl tw_1366) dX9_mends_2 (fun m1 => ?_)
  refine pm_aload_n dX9_mends_5 rfl rfl ?_
  refine fg_9_36 (y := zX9_mends) (Or.inl tw_1402) dX9_mends_6 (fun x2 => ?_)
  refine pm_if_ne (tgt := 16) dX9_mends_9 rfl ?_ ?_
  · refine pm_iconst (v := 0) dX9_mends_16 ki_0 ?_
    exact gX9_mends_j17 hfl a0 0 m1
  · refine pm_iconst (v := (-1)) dX9_mends_12 ki_n1 ?_
    refine pm_goto (tgt := 17) dX9_mends_13 rfl ?_
    exact gX9_mends_j17 hfl a0 (-1) m1
end GEN25
