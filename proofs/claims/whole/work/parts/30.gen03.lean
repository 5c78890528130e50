section GEN3
variable {l : Launch} {Γ : pmG} {d : Nat}
-- StruckPage$Text.fail(II)Z
def X7_fail (a0 : Nat) (a1 : Int32) (a2 : Int32) (m : pmM) : pmR := pm_pI 7 a0 6 a1 m fun m1 => pm_pI 7 a0 7 a2 m1 fun m2 => pm_oI 0 m2
set_option maxRecDepth 100000 in
set_option maxHeartbeats 4000000 in
theorem kcX7_fail (hfl : l.flags = flags0) (a0 : Nat) (a1 : Int32) (a2 : Int32) (m : pmM) : pm_C l Γ zX7_fail (d + 0) [.ref a0, .int a1, .int a2] m (X7_fail a0 a1 a2 m) := by
  refine pm_enter (ls := [.ref a0, .int a1, .int a2]) hfl (by decide +kernel) rfl (Nat.le_of_ble_eq_true rfl) rfl (Nat.le_of_ble_eq_true rfl) ?_
  unfold X7_fail
  refine pm_aload_n dX7_fail_0 rfl rfl ?_
  refine pm_iload_n dX7_fail_1 rfl rfl ?_
  refine fp_7_6 (y := zX7_fail) (Or.inl tw_209) dX7_fail_2 (fun m1 => ?_)
  refine pm_aload_n dX7_fail_5 rfl rfl ?_
  refine pm_iload_n dX7_fail_6 rfl rfl ?_
  refine fp_7_7 (y := zX7_fail) (Or.inl tw_211) dX7_fail_7 (fun m2 => ?_)
  refine pm_iconst (v := 0) dX7_fail_10 ki_0 ?_
  exact pm_nret (ty := .boolean) (w := 0) rfl (by decide) (by decide) dX7_fail_11
-- StruckPage$Text.takeNumber(II)Z
def X7_takeNumber_j17 (l0 : Nat) (m : pmM) : pmR := pm_gI 7 l0 3 m fun x3 => pm_rc 7 l0 m <| pm_cI (X7_fail l0 1 x3 m) fun x5 m4 => pm_oI (vp_nar .boolean x5) m4
def X7_takeNumber_j154 (t0 : Int32) (m : pmM) : pmR := pm_oI (vp_nar .boolean t0) m
def X7_takeNumber_j149 (m : pmM) : pmR := X7_takeNumber_j154 1 m
def X7_takeNumber_j137 (l0 : Nat) (m : pmM) : pmR := pm_gI 7 l0 4 m fun x12 => pm_rc 7 l0 m <| pm_cI (X7_fail l0 2 x12 m) fun x14 m13 => if x14 = 0 then (X7_takeNumber_j154 0 m13) else (X7_takeNumber_j149 m13)
def X7_takeNumber_j121 (l0 : Nat) (l1 : Int32) (l2 : Int32) (m : pmM) : pmR := pm_gI 7 l0 5 m fun x11 => if x11 < l1 then (X7_takeNumber_j137 l0 m) else (pm_gI 7 l0 5 m fun x15 => if x15 ≤ l2 then (X7_takeNumber_j149 m) else (X7_takeNumber_j137 l0 m))
def X7_takeNumber_L40 (l0 : Nat) (l1 : Int32) (l2 : Int32) (again40 : (pmM) → pmR) (s40 : pmM) : pmR := pm_gI 7 l0 3 s40 fun x9 => pm_gI 7 l0 2 s40 fun x10 => if x10 ≤ x9 then (X7_takeNumber_j121 l0 l1 l2 s40) else (pm_gR 7 l0 0 s40 fun r16 => pm_gI 7 l0 3 s40 fun x17 => pm_ld 100 r16 x17 s40 fun x18 => if x18 < 48 then (X7_takeNumber_j121 l0 l1 l2 s40) else (pm_gR 7 l0 0 s40 fun r19 => pm_gI 7 l0 3 s40 fun x20 => pm_ld 100 r19 x20 s40 fun x21 => if (57 : Int32) < x21 then (X7_takeNumber_j121 l0 l1 l2 s40) else (pm_gI 7 l0 5 s40 fun x22 => pm_gR 7 l0 0 s40 fun r23 => pm_gI 7 l0 3 s40 fun x24 => pm_ld 100 r23 x24 s40 fun x25 => pm_pI 7 l0 5 (if (((x22 * 10) + x25) - 48) < 100000 then (((x22 * 10) + x25) - 48) else 100000) s40 fun m26 => pm_gI 7 l0 3 m26 fun x27 => pm_pI 7 l0 3 (x27 + 1) m26 fun m28 => again40 m28)))
def X7_takeNumber (a0 : Nat) (a1 : Int32) (a2 : Int32) (m : pmM) : pmR := pm_rc 7 a0 m <| pm_cI (X7_peek a0 m) fun x2 m1 => if x2 < 48 then (X7_takeNumber_j17 a0 m1) else (if x2 ≤ 57 then (pm_gI 7 a0 3 m1 fun x6 => pm_pI 7 a0 4 x6 m1 fun m7 => pm_pI 7 a0 5 0 m7 fun m8 => pm_lp pm_N (X7_takeNumber_L40 a0 a1 a2) m8) else (X7_takeNumber_j17 a0 m1))
set_option maxRecDepth 100000 in
set_option maxHeartbeats 4000000 in
theorem gX7_takeNumber_j17 (hfl : l.flags = flags0) (l0 : Nat) (m : pmM) : pm_G l Γ zX7_takeNumber (d + 1) 17 [.ref l0, pmU, pmU, pmU] [] m (X7_takeNumber_j17 l0 m) := by
  unfold X7_takeNumber_j17
  refine pm_aload_n dX7_takeNumber_17 rfl rfl ?_
  refine pm_iconst (v := 1) dX7_takeNumber_18 ki_1 ?_
  refine pm_aload_n dX7_takeNumber_19 rfl rfl ?_
  refine fg_7_3 (y := zX7_takeNumber) (Or.inl tw_197) dX7_takeNumber_20 (fun x3 => ?_)
  refine pm_rcv (fun hb9 hc9 => ?_)
  refine pm_kI (d := d + 0) rfl (pm_V (y := zX7_takeNumber) (z := zX7_fail) (As := [.int 1, .int x3]) zkX7_fail pm_q7 (by decide) tw_781 tw_783 tw_38 dX7_takeNumber_23 rfl rfl (Nat.le_of_ble_eq_true rfl) hb9 hc9) (kcX7_fail (d := d + 0) hfl l0 1 x3 m) (fun x5 m4 => ?_)
  exact pm_nret (ty := .boolean) (w := vp_nar .boolean x5) rfl (by decide) rfl dX7_takeNumber_26
set_option maxRecDepth 100000 in
set_option maxHeartbeats 4000000 in
theorem gX7_takeNumber_j154 (hfl : l.flags = flags0) (t0 : Int32) (m : pmM) : pm_G l Γ zX7_takeNumber (d + 1) 154 [pmU, pmU, pmU, pmU] [.int t0] m (X7_takeNumber_j154 t0 m) := by
  unfold X7_takeNumber_j154
  exact pm_nret (ty := .boolean) (w := vp_nar .boolean t0) rfl (by decide) rfl dX7_takeNumber_154
set_option maxRecDepth 100000 in
set_option maxHeartbeats 4000000 in
theorem gX7_takeNumber_j149 (hfl : l.flags = flags0) (m : pmM) : pm_G l Γ zX7_takeNumber (d + 1) 149 [pmU, pmU, pmU, pmU] [] m (X7_takeNumber_j149 m) := by
  unfold X7_takeNumber_j149
  refine pm_iconst (v := 1) dX7_takeNumber_149 ki_1 ?_
  refine pm_goto (tgt := 154) dX7_takeNumber_150 rfl ?_
  exact gX7_takeNumber_j154 hfl 1 m
set_option maxRecDepth 100000 in
set_option maxHeartbeats 4000000 in
theorem gX7_takeNumber_j137 (hfl : l.flags = flags0) (l0 : Nat) (m : pmM) : pm_G l Γ zX7_takeNumber (d + 1) 137 [.ref l0, pmU, pmU, pmU] [] m (X7_takeNumber_j137 l0 m) := by
  unfold X7_takeNumber_j137
  refine pm_aload_n dX7_takeNumber_137 rfl rfl ?_
  refine pm_iconst (v := 2) dX7_takeNumber_138 ki_2 ?_
  refine pm_aload_n dX7_takeNumber_139 rfl rfl ?_
  refine fg_7_4 (y := zX7_takeNumber) (Or.inl tw_202) dX7_takeNumber_140 (fun x12 => ?_)
  refine pm_rcv (fun hb9 hc9 => ?_)
  refine pm_kI (d := d + 0) rfl (pm_V (y := zX7_takeNumber) (z := zX7_fail) (As := [.int 2, .int x12]) zkX7_fail pm_q7 (by decide) tw_781 tw_783 tw_38 dX7_takeNumber_143 rfl rfl (Nat.le_of_ble_eq_true rfl) hb9 hc9) (kcX7_fail (d := d + 0) hfl l0 2 x12 m) (fun x14 m13 => ?_)
  refine pm_if_eq (tgt := 153) dX7_takeNumber_146 rfl ?_ ?_
  · refine pm_iconst (v := 0) dX7_takeNumber_153 ki_0 ?_
    refine pm_drop (ls2 := [pmU, pmU, pmU, pmU]) (Nat.le_refl _) (pm_le_spec (pm_le_u (pm_le_u (pm_le_u (pm_le_u (pm_le_n)))))) ?_
    exact gX7_takeNumber_j154 hfl 0 m13
  · refine pm_drop (ls2 := [pmU, pmU, pmU, pmU]) (Nat.le_refl _) (pm_le_spec (pm_le_u (pm_le_u (pm_le_u (pm_le_u (pm_le_n)))))) ?_
    exact gX7_takeNumber_j149 hfl m13
set_option maxRecDepth 100000 in
set_option maxHeartbeats 4000000 in
theorem gX7_takeNumber_j121 (hfl : l.flags = flags0) (l0 : Nat) (l1 : Int32) (l2 : Int32) (m : pmM) : pm_G l Γ zX7_takeNumber (d + 1) 121 [.ref l0, .int l1, .int l2, pmU] [] m (X7_takeNumber_j121 l0 l1 l2 m) := by
  unfold X7_takeNumber_j121
  refine pm_aload_n dX7_takeNumber_121 rfl rfl ?_
  refine fg_7_5 (y := zX7_takeNumber) (Or.inl tw_207) dX7_takeNumber_122 (fun x11 => ?_)
  refine pm_iload_n dX7_takeNumber_125 rfl rfl ?_
  refine pm_icmp_lt (tgt := 137) dX7_takeNumber_126 rfl ?_ ?_
  · refine pm_drop (ls2 := [.ref l0, pmU, pmU, pmU]) (Nat.le_refl _) (pm_le_spec (pm_le_v (pm_le_u (pm_le_u (pm_le_u (pm_le_n)))))) ?_
    exact gX7_takeNumber_j137 hfl l0 m
  · refine pm_aload_n dX7_takeNumber_129 rfl rfl ?_
    refine fg_7_5 (y := zX7_takeNumber) (Or.inl tw_207) dX7_takeNumber_130 (fun x15 => ?_)
    refine pm_iload_n dX7_takeNumber_133 rfl rfl ?_
    refine pm_icmp_le (tgt := 149) dX7_takeNumber_134 rfl ?_ ?_
    · refine pm_drop (ls2 := [pmU, pmU, pmU, pmU]) (Nat.le_refl _) (pm_le_spec (pm_le_u (pm_le_u (pm_le_u (pm_le_u (pm_le_n)))))) ?_
      exact gX7_takeNumber_j149 hfl m
    · refine pm_drop (ls2 := [.ref l0, pmU, pmU, pmU]) (Nat.le_refl _) (pm_le_spec (pm_le_v (pm_le_u (pm_le_u (pm_le_u (pm_le_n)))))) ?_
      exact gX7_takeNumber_j137 hfl l0 m
set_option maxRecDepth 100000 in
set_option maxHeartbeats 4000000 in
theorem gX7_takeNumber_L40 (hfl : l.flags = flags0) (l0 : Nat) (l1 : Int32) (l2 : Int32) : ∀ (n : Nat) (s : pmM), pm_G l Γ zX7_takeNumber (d + 1) 40 [.ref l0, .int l1, .int l2, pmU] [] s (pm_lp n (X7_takeNumber_L40 l0 l1 l2) s) :=
  pm_loop (lsf := fun s : pmM => [.ref l0, .int l1, .int l2, pmU]) (mf := fun s : pmM => s) (fun again40 hag40 s40 => by
    unfold X7_takeNumber_L40
    refine pm_aload_n dX7_takeNumber_40 rfl rfl ?_
    refine fg_7_3 (y := zX7_takeNumber) (Or.inl tw_197) dX7_takeNumber_41 (fun x9 => ?_)
    refine pm_aload_n dX7_takeNumber_44 rfl rfl ?_
    refine fg_7_2 (y := zX7_takeNumber) (Or.inl tw_195) dX7_takeNumber_45 (fun x10 => ?_)
    refine pm_icmp_ge (tgt := 121) dX7_takeNumber_48 rfl ?_ ?_
    · exact gX7_takeNumber_j121 hfl l0 l1 l2 s40
    · refine pm_aload_n dX7_takeNumber_51 rfl rfl ?_
      refine fg_7_0 (y := zX7_takeNumber) (Or.inl tw_192) dX7_takeNumber_52 (fun r16 => ?_)
      refine pm_aload_n dX7_takeNumber_55 rfl rfl ?_
      refine fg_7_3 (y := zX7_takeNumber) (Or.inl tw_197) dX7_takeNumber_56 (fun x17 => ?_)
      refine pm_iald (y := zX7_takeNumber) dX7_takeNumber_59 (fun x18 => ?_)
      refine pm_bipush (v := 48) dX7_takeNumber_60 kb_48 ?_
      refine pm_icmp_lt (tgt := 121) dX7_takeNumber_62 rfl ?_ ?_
      · exact gX7_takeNumber_j121 hfl l0 l1 l2 s40
      · refine pm_aload_n dX7_takeNumber_65 rfl rfl ?_
        refine fg_7_0 (y := zX7_takeNumber) (Or.inl tw_192) dX7_takeNumber_66 (fun r19 => ?_)
        refine pm_aload_n dX7_takeNumber_69 rfl rfl ?_
        refine fg_7_3 (y := zX7_takeNumber) (Or.inl tw_197) dX7_takeNumber_70 (fun x20 => ?_)
        refine pm_iald (y := zX7_takeNumber) dX7_takeNumber_73 (fun x21 => ?_)
        refine pm_bipush (v := 57) dX7_takeNumber_74 kb_57 ?_
        refine pm_icmp_gt (tgt := 121) dX7_takeNumber_76 rfl ?_ ?_
        · exact gX7_takeNumber_j121 hfl l0 l1 l2 s40
        · refine pm_aload_n dX7_takeNumber_79 rfl rfl ?_
          refine pm_ldc (y := zX7_takeNumber) dX7_takeNumber_80 tw_849 ?_
          refine pm_aload_n dX7_takeNumber_82 rfl rfl ?_
          refine fg_7_5 (y := zX7_takeNumber) (Or.inl tw_207) dX7_takeNumber_83 (fun x22 => ?_)
          refine pm_bipush (v := 10) dX7_takeNumber_86 kb_10 ?_
          refine pm_imul dX7_takeNumber_88 ?_
          refine pm_aload_n dX7_takeNumber_89 rfl rfl ?_
          refine fg_7_0 (y := zX7_takeNumber) (Or.inl tw_192) dX7_takeNumber_90 (fun r23 => ?_)
          refine pm_aload_n dX7_takeNumber_93 rfl rfl ?_
          refine fg_7_3 (y := zX7_takeNumber) (Or.inl tw_197) dX7_takeNumber_94 (fun x24 => ?_)
          refine pm_iald (y := zX7_takeNumber) dX7_takeNumber_97 (fun x25 => ?_)
          refine pm_iadd dX7_takeNumber_98 ?_
          refine pm_bipush (v := 48) dX7_takeNumber_99 kb_48 ?_
          refine pm_isub dX7_takeNumber_101 ?_
          refine pm_min (y := zX7_takeNumber) tw_759 tw_590 tw_171 tw_591 dX7_takeNumber_102 (Nat.le_of_ble_eq_true rfl) ?_
          refine fp_7_5 (y := zX7_takeNumber) (Or.inl tw_207) dX7_takeNumber_105 (fun m26 => ?_)
          refine pm_aload_n dX7_takeNumber_108 rfl rfl ?_
          refine pm_dup dX7_takeNumber_109 rfl ?_
          refine fg_7_3 (y := zX7_takeNumber) (Or.inl tw_197) dX7_takeNumber_110 (fun x27 => ?_)
          refine pm_iconst (v := 1) dX7_takeNumber_113 ki_1 ?_
          refine pm_iadd dX7_takeNumber_114 ?_
          refine fp_7_3 (y := zX7_takeNumber) (Or.inl tw_197) dX7_takeNumber_115 (fun m28 => ?_)
          refine pm_goto (tgt := 40) dX7_takeNumber_118 rfl ?_
          exact hag40 m28)
set_option maxRecDepth 100000 in
set_option maxHeartbeats 4000000 in
theorem kcX7_takeNumber (hfl : l.flags = flags0) (a0 : Nat) (a1 : Int32) (a2 : Int32) (m : pmM) : pm_C l Γ zX7_takeNumber (d + 1) [.ref a0, .int a1, .int a2] m (X7_takeNumber a0 a1 a2 m) := by
  refine pm_enter (ls := [.ref a0, .int a1, .int a2, pmU]) hfl (by decide +kernel) rfl (Nat.le_of_ble_eq_true rfl) rfl (Nat.le_of_ble_eq_true rfl) ?_
  unfold X7_takeNumber
  refine pm_aload_n dX7_takeNumber_0 rfl rfl ?_
  refine pm_rcv (fun hb9 hc9 => ?_)
  refine pm_kI (d := d + 0) rfl (pm_V (y := zX7_takeNumber) (z := zX7_peek) (As := []) zkX7_peek pm_q7 (by decide) tw_780 tw_766 tw_34 dX7_takeNumber_1 rfl rfl (Nat.le_of_ble_eq_true rfl) hb9 hc9) (kcX7_peek (d := d + 0) hfl a0 m) (fun x2 m1 => ?_)
  refine pm_istore_n (ls2 := [.ref a0, .int a1, .int a2, .int x2]) dX7_takeNumber_4 rfl rfl (Nat.le_of_ble_eq_true rfl) rfl ?_
  refine pm_iload_n dX7_takeNumber_5 rfl rfl ?_
  refine pm_bipush (v := 48) dX7_takeNumber_6 kb_48 ?_
  refine pm_icmp_lt (tgt := 17) dX7_takeNumber_8 rfl ?_ ?_
  · refine pm_drop (ls2 := [.ref a0, pmU, pmU, pmU]) (Nat.le_refl _) (pm_le_spec (pm_le_v (pm_le_u (pm_le_u (pm_le_u (pm_le_n)))))) ?_
    exact gX7_takeNumber_j17 hfl a0 m1
  · refine pm_iload_n dX7_takeNumber_11 rfl rfl ?_
    refine pm_bipush (v := 57) dX7_takeNumber_12 kb_57 ?_
    refine pm_icmp_le (tgt := 27) dX7_takeNumber_14 rfl ?_ ?_
    · refine pm_aload_n dX7_takeNumber_27 rfl rfl ?_
      refine pm_aload_n dX7_takeNumber_28 rfl rfl ?_
      refine fg_7_3 (y := zX7_takeNumber) (Or.inl tw_197) dX7_takeNumber_29 (fun x6 => ?_)
      refine fp_7_4 (y := zX7_takeNumber) (Or.inl tw_202) dX7_takeNumber_32 (fun m7 => ?_)
      refine pm_aload_n dX7_takeNumber_35 rfl rfl ?_
      refine pm_iconst (v := 0) dX7_takeNumber_36 ki_0 ?_
      refine fp_7_5 (y := zX7_takeNumber) (Or.inl tw_207) dX7_takeNumber_37 (fun m8 => ?_)
      refine pm_drop (ls2 := [.ref a0, .int a1, .int a2, pmU]) (Nat.le_refl _) (pm_le_spec (pm_le_v (pm_le_v (pm_le_v (pm_le_u (pm_le_n)))))) ?_
      exact gX7_takeNumber_L40 hfl a0 a1 a2 pm_N m8
    · refine pm_drop (ls2 := [.ref a0, pmU, pmU, pmU]) (Nat.le_refl _) (pm_le_spec (pm_le_v (pm_le_u (pm_le_u (pm_le_u (pm_le_n)))))) ?_
      exact gX7_takeNumber_j17 hfl a0 m1
-- StruckPage$Law.append(I)Z
def X1_append_j30 (m : pmM) : pmR := pm_oI 1 m
def X1_append (a0 : Nat) (a1 : Int32) (m : pmM) : pmR := pm_gI 1 a0 3 m fun x1 => if (150 : Int32) ≤ x1 then (X1_append_j30 m) else (pm_gR 1 a0 0 m fun r2 => pm_gI 1 a0 3 m fun x3 => pm_st 100 r2 x3 a1 m fun m4 => pm_gI 1 a0 3 m4 fun x5 => pm_pI 1 a0 3 (x5 + 1) m4 fun m6 => X1_append_j30 m6)
set_option maxRecDepth 100000 in
set_option maxHeartbeats 4000000 in
theorem gX1_append_j30 (hfl : l.flags = flags0) (m : pmM) : pm_G l Γ zX1_append (d + 0) 30 [pmU, pmU] [] m (X1_append_j30 m) := by
  unfold X1_append_j30
  refine pm_iconst (v := 1) dX1_append_30 ki_1 ?_
  exact pm_nret (ty := .boolean) (w := 1) rfl (by decide) (by decide) dX1_append_31
set_option maxRecDepth 100000 in
set_option maxHeartbeats 4000000 in
theorem kcX1_append (hfl : l.flags = flags0) (a0 : Nat) (a1 : Int32) (m : pmM) : pm_C l Γ zX1_append (d + 0) [.ref a0, .int a1] m (X1_append a0 a1 m) := by
  refine pm_enter (ls := [.ref a0, .int a1]) hfl (by decide +kernel) rfl (Nat.le_of_ble_eq_true rfl) rfl (Nat.le_of_ble_eq_true rfl) ?_
  unfold X1_append
  refine pm_aload_n dX1_append_0 rfl rfl ?_
  refine fg_1_3 (y := zX1_append) (Or.inl tw_284) dX1_append_1 (fun x1 => ?_)
  refine pm_sipush (v := 150) dX1_append_4 ks_150 ?_
  refine pm_icmp_ge (tgt := 30) dX1_append_7 rfl ?_ ?_
  · refine pm_drop (ls2 := [pmU, pmU]) (Nat.le_refl _) (pm_le_spec (pm_le_u (pm_le_u (pm_le_n)))) ?_
    exact gX1_append_j30 hfl m
  · refine pm_aload_n dX1_append_10 rfl rfl ?_
    refine fg_1_0 (y := zX1_append) (Or.inl tw_281) dX1_append_11 (fun r2 => ?_)
    refine pm_aload_n dX1_append_14 rfl rfl ?_
    refine fg_1_3 (y := zX1_append) (Or.inl tw_284) dX1_append_15 (fun x3 => ?_)
    refine pm_iload_n dX1_append_18 rfl rfl ?_
    refine pm_iast (y := zX1_append) dX1_append_19 (fun m4 => ?_)
    refine pm_aload_n dX1_append_20 rfl rfl ?_
    refine pm_dup dX1_append_21 rfl ?_
    refine fg_1_3 (y := zX1_append) (Or.inl tw_284) dX1_append_22 (fun x5 => ?_)
    refine pm_iconst (v := 1) dX1_append_25 ki_1 ?_
    refine pm_iadd dX1_append_26 ?_
    refine fp_1_3 (y := zX1_append) (Or.inl tw_284) dX1_append_27 (fun m6 => ?_)
    refine pm_drop (ls2 := [pmU, pmU]) (Nat.le_refl _) (pm_le_spec (pm_le_u (pm_le_u (pm_le_n)))) ?_
    exact gX1_append_j30 hfl m6
-- StruckPage$Text.takeSign(C)Z
def X7_takeSign (a0 : Nat) (a1 : Int32) (m : pmM) : pmR := pm_rc 7 a0 m <| pm_cI (X7_peek a0 m) fun x2 m1 => if x2 = a1 then (pm_gI 7 a0 3 m1 fun x3 => pm_pI 7 a0 3 (x3 + 1) m1 fun m4 => pm_oI 1 m4) else (pm_gI 7 a0 3 m1 fun x5 => pm_rc 7 a0 m1 <| pm_cI (X7_fail a0 1 x5 m1) fun x7 m6 => pm_oI (vp_nar .boolean x7) m6)
set_option maxRecDepth 100000 in
set_option maxHeartbeats 4000000 in
theorem kcX7_takeSign (hfl : l.flags = flags0) (a0 : Nat) (a1 : Int32) (m : pmM) : pm_C l Γ zX7_takeSign (d + 1) [.ref a0, .int a1] m (X7_takeSign a0 a1 m) := by
  refine pm_enter (ls := [.ref a0, .int a1]) hfl (by decide +kernel) rfl (Nat.le_of_ble_eq_true rfl) rfl (Nat.le_of_ble_eq_true rfl) ?_
  unfold X7_takeSign
  refine pm_aload_n dX7_takeSign_0 rfl rfl ?_
  refine pm_rcv (fun hb9 hc9 => ?_)
  refine pm_kI (d := d + 0) rfl (pm_V (y := zX7_takeSign) (z := zX7_peek) (As := []) zkX7_peek pm_q7 (by decide) tw_780 tw_766 tw_34 dX7_takeSign_1 rfl rfl (Nat.le_of_ble_eq_true rfl) hb9 hc9) (kcX7_peek (d := d + 0) hfl a0 m) (fun x2 m1 => ?_)
  refine pm_iload_n dX7_takeSign_4 rfl rfl ?_
  refine pm_icmp_eq (tgt := 18) dX7_takeSign_5 rfl ?_ ?_
  · refine pm_aload_n dX7_takeSign_18 rfl rfl ?_
    refine pm_dup dX7_takeSign_19 rfl ?_
    refine fg_7_3 (y := zX7_takeSign) (Or.inl tw_197) dX7_takeSign_20 (fun x3 => ?_)
    refine pm_iconst (v := 1) dX7_takeSign_23 ki_1 ?_
    refine pm_iadd dX7_takeSign_24 ?_
    refine fp_7_3 (y := zX7_takeSign) (Or.inl tw_197) dX7_takeSign_25 (fun m4 => ?_)
    refine pm_iconst (v := 1) dX7_takeSign_28 ki_1 ?_
    exact pm_nret (ty := .boolean) (w := 1) rfl (by decide) (by decide) dX7_takeSign_29
  · refine pm_aload_n dX7_takeSign_8 rfl rfl ?_
    refine pm_iconst (v := 1) dX7_takeSign_9 ki_1 ?_
    refine pm_aload_n dX7_takeSign_10 rfl rfl ?_
    refine fg_7_3 (y := zX7_takeSign) (Or.inl tw_197) dX7_takeSign_11 (fun x5 => ?_)
    refine pm_rcv (fun hb9 hc9 => ?_)
    refine pm_kI (d := d + 0) rfl (pm_V (y := zX7_takeSign) (z := zX7_fail) (As := [.int 1, .int x5]) zkX7_fail pm_q7 (by decide) tw_781 tw_783 tw_38 dX7_takeSign_14 rfl rfl (Nat.le_of_ble_eq_true rfl) hb9 hc9) (kcX7_fail (d := d + 0) hfl a0 1 x5 m1) (fun x7 m6 => ?_)
    exact pm_nret (ty := .boolean) (w := vp_nar .boolean x7) rfl (by decide) rfl dX7_takeSign_17
-- StruckPage$Text.isAtLetter()Z
def X7_isAtLetter_j22 (t0 : Int32) (m : pmM) : pmR := pm_oI (vp_nar .boolean t0) m
def X7_isAtLetter_j21 (m : pmM) : pmR := X7_isAtLetter_j22 0 m
def X7_isAtLetter (a0 : Nat) (m : pmM) : pmR := pm_rc 7 a0 m <| pm_cI (X7_peek a0 m) fun x2 m1 => if x2 < 97 then (X7_isAtLetter_j21 m1) else (if (122 : Int32) < x2 then (X7_isAtLetter_j21 m1) else (X7_isAtLetter_j22 1 m1))
set_option maxRecDepth 100000 in
set_option maxHeartbeats 4000000 in
theorem gX7_isAtLetter_j22 (hfl : l.flags = flags0) (t0 : Int32) (m : pmM) : pm_G l Γ zX7_isAtLetter (d + 1) 22 [pmU, pmU] [.int t0] m (X7_isAtLetter_j22 t0 m) := by
  unfold X7_isAtLetter_j22
  exact pm_nret (ty := .boolean) (w := vp_nar .boolean t0) rfl (by decide) rfl dX7_isAtLetter_22
set_option maxRecDepth 100000 in
set_option maxHeartbeats 4000000 in
theorem gX7_isAtLetter_j21 (hfl : l.flags = flags0) (m : pmM) : pm_G l Γ zX7_isAtLetter (d + 1) 21 [pmU, pmU] [] m (X7_isAtLetter_j21 m) := by
  unfold X7_isAtLetter_j21
  refine pm_iconst (v := 0) dX7_isAtLetter_21 ki_0 ?_
  exact gX7_isAtLetter_j22 hfl 0 m
set_option maxRecDepth 100000 in
set_option maxHeartbeats 4000000 in
theorem kcX7_isAtLetter (hfl : l.flags = flags0) (a0 : Nat) (m : pmM) : pm_C l Γ zX7_isAtLetter (d + 1) [.ref a0] m (X7_isAtLetter a0 m) := by
  refine pm_enter (ls := [.ref a0, pmU]) hfl (by decide +kernel) rfl (Nat.le_of_ble_eq_true rfl) rfl (Nat.le_of_ble_eq_true rfl) ?_
  unfold X7_isAtLetter
  refine pm_aload_n dX7_isAtLetter_0 rfl rfl ?_
  refine pm_rcv (fun hb9 hc9 => ?_)
  refine pm_kI (d := d + 0) rfl (pm_V (y := zX7_isAtLetter) (z := zX7_peek) (As := []) zkX7_peek pm_q7 (by decide) tw_780 tw_766 tw_34 dX7_isAtLetter_1 rfl rfl (Nat.le_of_ble_eq_true rfl) hb9 hc9) (kcX7_peek (d := d + 0) hfl a0 m) (fun x2 m1 => ?_)
  refine pm_istore_n (ls2 := [.ref a0, .int x2]) dX7_isAtLetter_4 rfl rfl (Nat.le_of_ble_eq_true rfl) rfl ?_
  refine pm_iload_n dX7_isAtLetter_5 rfl rfl ?_
  refine pm_bipush (v := 97) dX7_isAtLetter_6 kb_97 ?_
  refine pm_icmp_lt (tgt := 21) dX7_isAtLetter_8 rfl ?_ ?_
  · refine pm_drop (ls2 := [pmU, pmU]) (Nat.le_refl _) (pm_le_spec (pm_le_u (pm_le_u (pm_le_n)))) ?_
    exact gX7_isAtLetter_j21 hfl m1
  · refine pm_iload_n dX7_isAtLetter_11 rfl rfl ?_
    refine pm_bipush (v := 122) dX7_isAtLetter_12 kb_122 ?_
    refine pm_icmp_gt (tgt := 21) dX7_isAtLetter_14 rfl ?_ ?_
    · refine pm_drop (ls2 := [pmU, pmU]) (Nat.le_refl _) (pm_le_spec (pm_le_u (pm_le_u (pm_le_n)))) ?_
      exact gX7_isAtLetter_j21 hfl m1
    · refine pm_iconst (v := 1) dX7_isAtLetter_17 ki_1 ?_
      refine pm_goto (tgt := 22) dX7_isAtLetter_18 rfl ?_
      refine pm_drop (ls2 := [pmU, pmU]) (Nat.le_refl _) (pm_le_spec (pm_le_u (pm_le_u (pm_le_n)))) ?_
      exact gX7_isAtLetter_j22 hfl 1 m1
-- StruckPage$Text.takeLetters()Z
def X7_takeLetters_j77 (m : pmM) : pmR := pm_oI 1 m
def X7_takeLetters_L25 (l0 : Nat) (again25 : (pmM) → pmR) (s25 : pmM) : pmR := pm_gI 7 l0 3 s25 fun x5 => pm_gI 7 l0 2 s25 fun x6 => if x6 ≤ x5 then (X7_takeLetters_j77 s25) else (pm_gR 7 l0 0 s25 fun r7 => pm_gI 7 l0 3 s25 fun x8 => pm_ld 100 r7 x8 s25 fun x9 => if x9 < 97 then (X7_takeLetters_j77 s25) else (pm_gR 7 l0 0 s25 fun r10 => pm_gI 7 l0 3 s25 fun x11 => pm_ld 100 r10 x11 s25 fun x12 => if (122 : Int32) < x12 then (X7_takeLetters_j77 s25) else (pm_gI 7 l0 3 s25 fun x13 => pm_pI 7 l0 3 (x13 + 1) s25 fun m14 => again25 m14)))
def X7_takeLetters (a0 : Nat) (m : pmM) : pmR := pm_rc 7 a0 m <| pm_cI (X7_isAtLetter a0 m) fun x2 m1 => if x2 = 0 then (pm_gI 7 a0 3 m1 fun x15 => pm_rc 7 a0 m1 <| pm_cI (X7_fail a0 1 x15 m1) fun x17 m16 => pm_oI (vp_nar .boolean x17) m16) else (pm_gI 7 a0 3 m1 fun x3 => pm_pI 7 a0 4 x3 m1 fun m4 => pm_lp pm_N (X7_takeLetters_L25 a0) m4)
set_option maxRecDepth 100000 in
set_option maxHeartbeats 4000000 in
theorem gX7_takeLetters_j77 (hfl : l.flags = flags0) (m : pmM) : pm_G l Γ zX7_takeLetters (d + 2) 77 [pmU] [] m (X7_takeLetters_j77 m) := by
  unfold X7_takeLetters_j77
  refine pm_iconst (v := 1) dX7_takeLetters_77 ki_1 ?_
  exact pm_nret (ty := .boolean) (w := 1) rfl (by decide) (by decide) dX7_takeLetters_78
set_option maxRecDepth 100000 in
set_option maxHeartbeats 4000000 in
theorem gX7_takeLetters_L25 (hfl : l.flags = flags0) (l0 : Nat) : ∀ (n : Nat) (s : pmM), pm_G l Γ zX7_takeLetters (d + 2) 25 [.ref l0] [] s (pm_lp n (X7_takeLetters_L25 l0) s) :=
  pm_loop (lsf := fun s : pmM => [.ref l0]) (mf := fun s : pmM => s) (fun again25 hag25 s25 => by
    unfold X7_takeLetters_L25
    refine pm_aload_n dX7_takeLetters_25 rfl rfl ?_
    refine fg_7_3 (y := zX7_takeLetters) (Or.inl tw_197) dX7_takeLetters_26 (fun x5 => ?_)
    refine pm_aload_n dX7_takeLetters_29 rfl rfl ?_
    refine fg_7_2 (y := zX7_takeLetters) (Or.inl tw_195) dX7_takeLetters_30 (fun x6 => ?_)
    refine pm_icmp_ge (tgt := 77) dX7_takeLetters_33 rfl ?_ ?_
    · refine pm_drop (ls2 := [pmU]) (Nat.le_refl _) (pm_le_spec (pm_le_u (pm_le_n))) ?_
      exact gX7_takeLetters_j77 hfl s25
    · refine pm_aload_n dX7_takeLetters_36 rfl rfl ?_
      refine fg_7_0 (y := zX7_takeLetters) (Or.inl tw_192) dX7_takeLetters_37 (fun r7 => ?_)
      refine pm_aload_n dX7_takeLetters_40 rfl rfl ?_
      refine fg_7_3 (y := zX7_takeLetters) (Or.inl tw_197) dX7_takeLetters_41 (fun x8 => ?_)
      refine pm_iald (y := zX7_takeLetters) dX7_takeLetters_44 (fun x9 => ?_)
      refine pm_bipush (v := 97) dX7_takeLetters_45 kb_97 ?_
      refine pm_icmp_lt (tgt := 77) dX7_takeLetters_47 rfl ?_ ?_
      · refine pm_drop (ls2 := [pmU]) (Nat.le_refl _) (pm_le_spec (pm_le_u (pm_le_n))) ?_
        exact gX7_takeLetters_j77 hfl s25
      · refine pm_aload_n dX7_takeLetters_50 rfl rfl ?_
        refine fg_7_0 (y := zX7_takeLetters) (Or.inl tw_192) dX7_takeLetters_51 (fun r10 => ?_)
        refine pm_aload_n dX7_takeLetters_54 rfl rfl ?_
        refine fg_7_3 (y := zX7_takeLetters) (Or.inl tw_197) dX7_takeLetters_55 (fun x11 => ?_)
        refine pm_iald (y := zX7_takeLetters) dX7_takeLetters_58 (fun x12 => ?_)
        refine pm_bipush (v := 122) dX7_takeLetters_59 kb_122 ?_
        refine pm_icmp_gt (tgt := 77) dX7_takeLetters_61 rfl ?_ ?_
        · refine pm_drop (ls2 := [pmU]) (Nat.le_refl _) (pm_le_spec (pm_le_u (pm_le_n))) ?_
          exact gX7_takeLetters_j77 hfl s25
        · refine pm_aload_n dX7_takeLetters_64 rfl rfl ?_
          refine pm_dup dX7_takeLetters_65 rfl ?_
          refine fg_7_3 (y := zX7_takeLetters) (Or.inl tw_197) dX7_takeLetters_66 (fun x13 => ?_)
          refine pm_iconst (v := 1) dX7_takeLetters_69 ki_1 ?_
          refine pm_iadd dX7_takeLetters_70 ?_
          refine fp_7_3 (y := zX7_takeLetters) (Or.inl tw_197) dX7_takeLetters_71 (fun m14 => ?_)
          refine pm_goto (tgt := 25) dX7_takeLetters_74 rfl ?_
          exact hag25 m14)
set_option maxRecDepth 100000 in
set_option maxHeartbeats 4000000 in
theorem kcX7_takeLetters (hfl : l.flags = flags0) (a0 : Nat) (m : pmM) : pm_C l Γ zX7_takeLetters (d + 2) [.ref a0] m (X7_takeLetters a0 m) := by
  refine pm_enter (ls := [.ref a0]) hfl (by decide +kernel) rfl (Nat.le_of_ble_eq_true rfl) rfl (Nat.le_of_ble_eq_true rfl) ?_
  unfold X7_takeLetters
  refine pm_aload_n dX7_takeLetters_0 rfl rfl ?_
  refine pm_rcv (fun hb9 hc9 => ?_)
  refine pm_kI (d := d + 1) rfl (pm_V (y := zX7_takeLetters) (z := zX7_isAtLetter) (As := []) zkX7_isAtLetter pm_q7 (by decide) tw_776 tw_778 tw_37 dX7_takeLetters_1 rfl rfl (Nat.le_of_ble_eq_true rfl) hb9 hc9) (kcX7_isAtLetter (d := d + 0) hfl a0 m) (fun x2 m1 => ?_)
  refine pm_if_ne (tgt := 17) dX7_takeLetters_4 rfl ?_ ?_
  · refine pm_aload_n dX7_takeLetters_17 rfl rfl ?_
    refine pm_aload_n dX7_takeLetters_18 rfl rfl ?_
    refine fg_7_3 (y := zX7_takeLetters) (Or.inl tw_197) dX7_takeLetters_19 (fun x3 => ?_)
    refine fp_7_4 (y := zX7_takeLetters) (Or.inl tw_202) dX7_takeLetters_22 (fun m4 => ?_)
    exact gX7_takeLetters_L25 hfl a0 pm_N m4
  · refine pm_aload_n dX7_takeLetters_7 rfl rfl ?_
    refine pm_iconst (v := 1) dX7_takeLetters_8 ki_1 ?_
    refine pm_aload_n dX7_takeLetters_9 rfl rfl ?_
    refine fg_7_3 (y := zX7_takeLetters) (Or.inl tw_197) dX7_takeLetters_10 (fun x15 => ?_)
    refine pm_rcv (fun hb9 hc9 => ?_)
    refine pm_kI (d := d + 1) rfl (pm_V (y := zX7_takeLetters) (z := zX7_fail) (As := [.int 1, .int x15]) zkX7_fail pm_q7 (by decide) tw_781 tw_783 tw_38 dX7_takeLetters_13 rfl rfl (Nat.le_of_ble_eq_true rfl) hb9 hc9) (kcX7_fail (d := d + 1) hfl a0 1 x15 m1) (fun x17 m16 => ?_)
    exact pm_nret (ty := .boolean) (w := vp_nar .boolean x17) rfl (by decide) rfl dX7_takeLetters_16
-- java/lang/String.coder()B
def J0_coder_7d493_j14 (t0 : Int32) (m : pmM) : pmR := pm_oI (vp_nar .byte t0) m
def J0_coder_7d493 (a0 : Nat) (m : pmM) : pmR := if (1 : Int32) = 0 then (J0_coder_7d493_j14 1 m) else (pm_rs a0 <| J0_coder_7d493_j14 0 m)
set_option maxRecDepth 100000 in
set_option maxHeartbeats 4000000 in
theorem gJ0_coder_7d493_j14 (hfl : l.flags = flags0) (t0 : Int32) (m : pmM) : pm_G l Γ zJ0_coder_7d493 (d + 0) 14 [pmU] [.int t0] m (J0_coder_7d493_j14 t0 m) := by
  unfold J0_coder_7d493_j14
  exact pm_nret (ty := .byte) (w := vp_nar .byte t0) rfl (by decide) rfl dJ0_coder_7d493_14
set_option maxRecDepth 100000 in
set_option maxHeartbeats 4000000 in
theorem kcJ0_coder_7d493 (hfl : l.flags = flags0) (a0 : Nat) (m : pmM) : pm_C l Γ zJ0_coder_7d493 (d + 0) [.ref a0] m (J0_coder_7d493 a0 m) := by
  refine pm_enter (ls := [.ref a0]) hfl (by decide +kernel) rfl (Nat.le_of_ble_eq_true rfl) rfl (Nat.le_of_ble_eq_true rfl) ?_
  unfold J0_coder_7d493
  refine pm_gets (y := zJ0_coder_7d493) (C := "java/lang/String") (n := "COMPACT_STRINGS") (ds := "Z") (v := .int 1) (by decide +kernel) tw_798 dJ0_coder_7d493_0 ?_
  refine pm_if_eq (tgt := 13) dJ0_coder_7d493_3 rfl ?_ ?_
  · refine pm_iconst (v := 1) dJ0_coder_7d493_13 ki_1 ?_
    refine pm_drop (ls2 := [pmU]) (Nat.le_refl _) (pm_le_spec (pm_le_u (pm_le_n))) ?_
    exact gJ0_coder_7d493_j14 hfl 1 m
  · refine pm_aload_n dJ0_coder_7d493_6 rfl rfl ?_
    refine pm_getSc (y := zJ0_coder_7d493) tw_1984 dJ0_coder_7d493_7 ?_
    refine pm_goto (tgt := 14) dJ0_coder_7d493_10 rfl ?_
    refine pm_drop (ls2 := [pmU]) (Nat.le_refl _) (pm_le_spec (pm_le_u (pm_le_n))) ?_
    exact gJ0_coder_7d493_j14 hfl 0 m
-- java/lang/String.length()I
def J0_length_8abf5 (a0 : Nat) (m : pmM) : pmR := pm_rs a0 <| pm_len 105 (a0 + 30) m fun x1 => pm_rs a0 <| pm_cI (J0_coder_7d493 a0 m) fun x3 m2 => pm_oI (x1 >>> (x3 &&& 31)) m2
set_option maxRecDepth 100000 in
set_option maxHeartbeats 4000000 in
theorem kcJ0_length_8abf5 (hfl : l.flags = flags0) (a0 : Nat) (m : pmM) : pm_C l Γ zJ0_length_8abf5 (d + 1) [.ref a0] m (J0_length_8abf5 a0 m) := by
  refine pm_enter (ls := [.ref a0]) hfl (by decide +kernel) rfl (Nat.le_of_ble_eq_true rfl) rfl (Nat.le_of_ble_eq_true rfl) ?_
  unfold J0_length_8abf5
  refine pm_aload_n dJ0_length_8abf5_0 rfl rfl ?_
  refine pm_getSv (y := zJ0_length_8abf5) tw_1983 dJ0_length_8abf5_1 ?_
  refine pm_alen (y := zJ0_length_8abf5) (kd := 105) (by decide) (by decide) dJ0_length_8abf5_4 (fun x1 => ?_)
  refine pm_aload_n dJ0_length_8abf5_5 rfl rfl ?_
  refine pm_rsv (fun hb9 => ?_)
  refine pm_kI (d := d + 0) rfl (pm_VS (y := zJ0_length_8abf5) (z := zJ0_coder_7d493) (As := []) zkJ0_coder_7d493 hb9 tw_794 tw_795 tw_796 dJ0_length_8abf5_6 rfl rfl (Nat.le_of_ble_eq_true rfl)) (kcJ0_coder_7d493 (d := d + 0) hfl a0 m) (fun x3 m2 => ?_)
  refine pm_ishr dJ0_length_8abf5_9 ?_
  exact pm_iret rfl dJ0_length_8abf5_10
-- java/lang/String.isLatin1()Z
def J0_isLatin1_aae02_j18 (t0 : Int32) (m : pmM) : pmR := pm_oI (vp_nar .boolean t0) m
def J0_isLatin1_aae02_j17 (m : pmM) : pmR := J0_isLatin1_aae02_j18 0 m
def J0_isLatin1_aae02 (a0 : Nat) (m : pmM) : pmR := if (1 : Int32) = 0 then (J0_isLatin1_aae02_j17 m) else (pm_rs a0 <| if (0 : Int32) = 0 then (J0_isLatin1_aae02_j18 1 m) else (J0_isLatin1_aae02_j17 m))
set_option maxRecDepth 100000 in
set_option maxHeartbeats 4000000 in
theorem gJ0_isLatin1_aae02_j18 (hfl : l.flags = flags0) (t0 : Int32) (m : pmM) : pm_G l Γ zJ0_isLatin1_aae02 (d + 0) 18 [pmU] [.int t0] m (J0_isLatin1_aae02_j18 t0 m) := by
  unfold J0_isLatin1_aae02_j18
  exact pm_nret (ty := .boolean) (w := vp_nar .boolean t0) rfl (by decide) rfl dJ0_isLatin1_aae02_18
set_option maxRecDepth 100000 in
set_option maxHeartbeats 4000000 in
theorem gJ0_isLatin1_aae02_j17 (hfl : l.flags = flags0) (m : pmM) : pm_G l Γ zJ0_isLatin1_aae02 (d + 0) 17 [pmU] [] m (J0_isLatin1_aae02_j17 m) := by
  unfold J0_isLatin1_aae02_j17
  refine pm_iconst (v := 0) dJ0_isLatin1_aae02_17 ki_0 ?_
  exact gJ0_isLatin1_aae02_j18 hfl 0 m
set_option maxRecDepth 100000 in
set_option maxHeartbeats 4000000 in
theorem kcJ0_isLatin1_aae02 (hfl : l.flags = flags0) (a0 : Nat) (m : pmM) : pm_C l Γ zJ0_isLatin1_aae02 (d + 0) [.ref a0] m (J0_isLatin1_aae02 a0 m) := by
  refine pm_enter (ls := [.ref a0]) hfl (by decide +kernel) rfl (Nat.le_of_ble_eq_true rfl) rfl (Nat.le_of_ble_eq_true rfl) ?_
  unfold J0_isLatin1_aae02
  refine pm_gets (y := zJ0_isLatin1_aae02) (C := "java/lang/String") (n := "COMPACT_STRINGS") (ds := "Z") (v := .int 1) (by decide +kernel) tw_798 dJ0_isLatin1_aae02_0 ?_
  refine pm_if_eq (tgt := 17) dJ0_isLatin1_aae02_3 rfl ?_ ?_
  · refine pm_drop (ls2 := [pmU]) (Nat.le_refl _) (pm_le_spec (pm_le_u (pm_le_n))) ?_
    exact gJ0_isLatin1_aae02_j17 hfl m
  · refine pm_aload_n dJ0_isLatin1_aae02_6 rfl rfl ?_
    refine pm_getSc (y := zJ0_isLatin1_aae02) tw_1984 dJ0_isLatin1_aae02_7 ?_
    refine pm_if_ne (tgt := 17) dJ0_isLatin1_aae02_10 rfl ?_ ?_
    · refine pm_drop (ls2 := [pmU]) (Nat.le_refl _) (pm_le_spec (pm_le_u (pm_le_n))) ?_
      exact gJ0_isLatin1_aae02_j17 hfl m
    · refine pm_iconst (v := 1) dJ0_isLatin1_aae02_13 ki_1 ?_
      refine pm_goto (tgt := 18) dJ0_isLatin1_aae02_14 rfl ?_
      refine pm_drop (ls2 := [pmU]) (Nat.le_refl _) (pm_le_spec (pm_le_u (pm_le_n))) ?_
      exact gJ0_isLatin1_aae02_j18 hfl 1 m
-- jdk/internal/util/Preconditions.checkIndex(IILjava/util/function/BiFunction;)I
def J3_checkIndex_8e157 (a0 a1 : Int32) (m : pmM) : pmR := if a0 < 0 then (none) else (if a0 < a1 then (pm_oI a0 m) else (none))
set_option maxRecDepth 100000 in
set_option maxHeartbeats 4000000 in
theorem geJ3_checkIndex_8e157 (hfl : l.flags = flags0) (a0 a1 : Int32) (m : pmM) : pm_G l Γ zJ3_checkIndex_8e157 (d + 0) 0 [.int a0, .int a1, pmU] [] m (J3_checkIndex_8e157 a0 a1 m) := by
  unfold J3_checkIndex_8e157
  refine pm_iload_n dJ3_checkIndex_8e157_0 rfl rfl ?_
  refine pm_if_lt (tgt := 9) dJ3_checkIndex_8e157_1 rfl ?_ ?_
  · exact pm_none
  · refine pm_iload_n dJ3_checkIndex_8e157_4 rfl rfl ?_
    refine pm_iload_n dJ3_checkIndex_8e157_5 rfl rfl ?_
    refine pm_icmp_lt (tgt := 16) dJ3_checkIndex_8e157_6 rfl ?_ ?_
    · refine pm_iload_n dJ3_checkIndex_8e157_16 rfl rfl ?_
      exact pm_iret rfl dJ3_checkIndex_8e157_17
    · exact pm_none
theorem kcJ3_checkIndex_8e157 (hfl : l.flags = flags0) (a0 a1 : Int32) (v : Value) (m : pmM) (hv : v = .null ∨ ∃ k : Nat, v = .ref k) : pm_C l Γ zJ3_checkIndex_8e157 (d + 0) [.int a0, .int a1, v] m (J3_checkIndex_8e157 a0 a1 m) := by
  rcases hv with rfl | ⟨k, rfl⟩
  · exact pm_enterS (ls := [.int a0, .int a1, pmU]) hfl (by decide +kernel) rfl (Nat.le_of_ble_eq_true rfl) (by intro q hq; exact List.mem_append_left [(2, Value.null)] hq) (Nat.le_of_ble_eq_true rfl) (geJ3_checkIndex_8e157 hfl a0 a1 m)
  · exact pm_enterS (ls := [.int a0, .int a1, pmU]) hfl (by decide +kernel) rfl (Nat.le_of_ble_eq_true rfl) (by intro q hq; exact List.mem_append_left [(2, pm_mv Γ (Value.ref k))] hq) (Nat.le_of_ble_eq_true rfl) (geJ3_checkIndex_8e157 hfl a0 a1 m)
-- java/lang/String.checkIndex(II)V
def J0_checkIndex_df160 (a0 : Int32) (a1 : Int32) (m : pmM) : pmR := pm_cI (J3_checkIndex_8e157 a0 a1 m) fun x3 m2 => pm_oV m2
set_option maxRecDepth 100000 in
set_option maxHeartbeats 4000000 in
theorem kcJ0_checkIndex_df160 (hfl : l.flags = flags0) (a0 : Int32) (a1 : Int32) (m : pmM) : pm_C l Γ zJ0_checkIndex_df160 (d + 1) [.int a0, .int a1] m (J0_checkIndex_df160 a0 a1 m) := by
  refine pm_enter (ls := [.int a0, .int a1]) hfl (by decide +kernel) rfl (Nat.le_of_ble_eq_true rfl) rfl (Nat.le_of_ble_eq_true rfl) ?_
  unfold J0_checkIndex_df160
  refine pm_iload_n dJ0_checkIndex_df160_0 rfl rfl ?_
  refine pm_iload_n dJ0_checkIndex_df160_1 rfl rfl ?_
  refine pm_getsQ (y := zJ0_checkIndex_df160) tw_814 dJ0_checkIndex_df160_2 (fun q1 hq1 => ?_)
  refine pm_kI (d := d + 0) rfl (pm_S (y := zJ0_checkIndex_df160) (z := zJ3_checkIndex_8e157) (As := [.int a0, .int a1, q1]) zkJ3_checkIndex_8e157 tw_816 tw_817 dJ0_checkIndex_df160_5 rfl rfl (Nat.le_of_ble_eq_true rfl)) (kcJ3_checkIndex_8e157 hfl a0 a1 q1 m hq1) (fun x3 m2 => ?_)
  refine pm_pop dJ0_checkIndex_df160_8 rfl ?_
  exact pm_vret rfl dJ0_checkIndex_df160_9
-- java/lang/StringLatin1.charAt([BI)C
def J1_charAt_3b067 (a0 : Nat) (a1 : Int32) (m : pmM) : pmR := pm_len 105 a0 m fun x1 => pm_cV (J0_checkIndex_df160 a1 x1 m) fun m2 => pm_ld 105 a0 a1 m2 fun x3 => pm_oI (vp_nar .char (((x3 &&& 255).toUInt32 % 65536).toInt32)) m2
set_option maxRecDepth 100000 in
set_option maxHeartbeats 4000000 in
theorem kcJ1_charAt_3b067 (hfl : l.flags = flags0) (a0 : Nat) (a1 : Int32) (m : pmM) : pm_C l Γ zJ1_charAt_3b067 (d + 2) [.ref a0, .int a1] m (J1_charAt_3b067 a0 a1 m) := by
  refine pm_enter (ls := [.ref a0, .int a1]) hfl (by decide +kernel) rfl (Nat.le_of_ble_eq_true rfl) rfl (Nat.le_of_ble_eq_true rfl) ?_
  unfold J1_charAt_3b067
  refine pm_iload_n dJ1_charAt_3b067_0 rfl rfl ?_
  refine pm_aload_n dJ1_charAt_3b067_1 rfl rfl ?_
  refine pm_alen (y := zJ1_charAt_3b067) (kd := 105) (by decide) (by decide) dJ1_charAt_3b067_2 (fun x1 => ?_)
  refine pm_kV (d := d + 1) rfl (pm_S (y := zJ1_charAt_3b067) (z := zJ0_checkIndex_df160) (As := [.int a1, .int x1]) zkJ0_checkIndex_df160 tw_811 tw_812 dJ1_charAt_3b067_3 rfl rfl (Nat.le_of_ble_eq_true rfl)) (kcJ0_checkIndex_df160 (d := d + 0) hfl a1 x1 m) (fun m2 => ?_)
  refine pm_aload_n dJ1_charAt_3b067_6 rfl rfl ?_
  refine pm_iload_n dJ1_charAt_3b067_7 rfl rfl ?_
  refine pm_bald (y := zJ1_charAt_3b067) dJ1_charAt_3b067_8 (fun x3 => ?_)
  refine pm_sipush (v := 255) dJ1_charAt_3b067_9 ks_255 ?_
  refine pm_iand dJ1_charAt_3b067_12 ?_
  refine pm_i2c dJ1_charAt_3b067_13 ?_
  exact pm_nret (ty := .char) (w := vp_nar .char (((x3 &&& 255).toUInt32 % 65536).toInt32)) rfl (by decide) rfl dJ1_charAt_3b067_14
-- java/lang/String.charAt(I)C
def J0_charAt_5068e (a0 : Nat) (a1 : Int32) (m : pmM) : pmR := pm_rs a0 <| pm_cI (J0_isLatin1_aae02 a0 m) fun x2 m1 => if x2 = 0 then (pm_rs a0 <| none) else (pm_rs a0 <| pm_cI (J1_charAt_3b067 (a0 + 30) a1 m1) fun x4 m3 => pm_oI (vp_nar .char x4) m3)
set_option maxRecDepth 100000 in
set_option maxHeartbeats 4000000 in
theorem kcJ0_charAt_5068e (hfl : l.flags = flags0) (a0 : Nat) (a1 : Int32) (m : pmM) : pm_C l Γ zJ0_charAt_5068e (d + 4) [.ref a0, .int a1] m (J0_charAt_5068e a0 a1 m) := by
  refine pm_enter (ls := [.ref a0, .int a1]) hfl (by decide +kernel) rfl (Nat.le_of_ble_eq_true rfl) rfl (Nat.le_of_ble_eq_true rfl) ?_
  unfold J0_charAt_5068e
  refine pm_aload_n dJ0_charAt_5068e_0 rfl rfl ?_
  refine pm_rsv (fun hb9 => ?_)
  refine pm_kI (d := d + 3) rfl (pm_VS (y := zJ0_charAt_5068e) (z := zJ0_isLatin1_aae02) (As := []) zkJ0_isLatin1_aae02 hb9 tw_804 tw_805 tw_806 dJ0_charAt_5068e_1 rfl rfl (Nat.le_of_ble_eq_true rfl)) (kcJ0_isLatin1_aae02 (d := d + 3) hfl a0 m) (fun x2 m1 => ?_)
  refine pm_if_eq (tgt := 16) dJ0_charAt_5068e_4 rfl ?_ ?_
  · refine pm_aload_n dJ0_charAt_5068e_16 rfl rfl ?_
    refine pm_getSv (y := zJ0_charAt_5068e) tw_1983 dJ0_charAt_5068e_17 ?_
    refine pm_iload_n dJ0_charAt_5068e_20 rfl rfl ?_
    exact pm_none
  · refine pm_aload_n dJ0_charAt_5068e_7 rfl rfl ?_
    refine pm_getSv (y := zJ0_charAt_5068e) tw_1983 dJ0_charAt_5068e_8 ?_
    refine pm_iload_n dJ0_charAt_5068e_11 rfl rfl ?_
    refine pm_kI (d := d + 3) rfl (pm_S (y := zJ0_charAt_5068e) (z := zJ1_charAt_3b067) (As := [.ref (a0 + 30), .int a1]) zkJ1_charAt_3b067 tw_808 tw_809 dJ0_charAt_5068e_12 rfl rfl (Nat.le_of_ble_eq_true rfl)) (kcJ1_charAt_3b067 (d := d + 1) hfl (a0 + 30) a1 m1) (fun x4 m3 => ?_)
    exact pm_nret (ty := .char) (w := vp_nar .char x4) rfl (by decide) rfl dJ0_charAt_5068e_15
-- StruckPage$Text.took(Ljava/lang/String;)Z
def X7_took_j68 (m : pmM) : pmR := pm_oI 1 m
def X7_took_L20 (l0 : Nat) (l1 : Nat) (again20 : (Int32 × pmM) → pmR) (s20 : Int32 × pmM) : pmR := pm_rs l1 <| pm_cI (J0_length_8abf5 l1 s20.2) fun x6 m5 => if x6 ≤ s20.1 then (X7_took_j68 m5) else (pm_gI 7 l0 4 m5 fun x7 => pm_gI 7 l0 2 m5 fun x8 => if x8 ≤ (x7 + s20.1) then (X7_took_j68 m5) else (pm_gR 7 l0 0 m5 fun r9 => pm_gI 7 l0 4 m5 fun x10 => pm_ld 100 r9 (x10 + s20.1) m5 fun x11 => pm_rs l1 <| pm_cI (J0_charAt_5068e l1 s20.1 m5) fun x13 m12 => if x11 = x13 then (pm_bI (s20.1 + 1) fun x14 => again20 (x14, m12)) else (pm_oI 0 m12)))
def X7_took (a0 : Nat) (a1 : Nat) (m : pmM) : pmR := pm_gI 7 a0 3 m fun x1 => pm_gI 7 a0 4 m fun x2 => pm_rs a1 <| pm_cI (J0_length_8abf5 a1 m) fun x4 m3 => if (x1 - x2) = x4 then (pm_lp pm_N (X7_took_L20 a0 a1) (0, m3)) else (pm_oI 0 m3)
set_option maxRecDepth 100000 in
set_option maxHeartbeats 4000000 in
theorem gX7_took_j68 (hfl : l.flags = flags0) (m : pmM) : pm_G l Γ zX7_took (d + 5) 68 [pmU, pmU, pmU] [] m (X7_took_j68 m) := by
  unfold X7_took_j68
  refine pm_iconst (v := 1) dX7_took_68 ki_1 ?_
  exact pm_nret (ty := .boolean) (w := 1) rfl (by decide) (by decide) dX7_took_69
set_option maxRecDepth 100000 in
set_option maxHeartbeats 4000000 in
theorem gX7_took_L20 (hfl : l.flags = flags0) (l0 : Nat) (l1 : Nat) : ∀ (n : Nat) (s : Int32 × pmM), pm_G l Γ zX7_took (d + 5) 20 [.ref l0, .ref l1, .int s.1] [] s.2 (pm_lp n (X7_took_L20 l0 l1) s) :=
  pm_loop (lsf := fun s : Int32 × pmM => [.ref l0, .ref l1, .int s.1]) (mf := fun s : Int32 × pmM => s.2) (fun again20 hag20 s20 => by
    unfold X7_took_L20
    refine pm_iload_n dX7_took_20 rfl rfl ?_
    refine pm_aload_n dX7_took_21 rfl rfl ?_
    refine pm_rsv (fun hb9 => ?_)
    refine pm_kI (d := d + 4) rfl (pm_VS (y := zX7_took) (z := zJ0_length_8abf5) (As := []) zkJ0_length_8abf5 hb9 tw_790 tw_791 tw_792 dX7_took_22 rfl rfl (Nat.le_of_ble_eq_true rfl)) (kcJ0_length_8abf5 (d := d + 3) hfl l1 s20.2) (fun x6 m5 => ?_)
    refine pm_icmp_ge (tgt := 68) dX7_took_25 rfl ?_ ?_
    · refine pm_drop (ls2 := [pmU, pmU, pmU]) (Nat.le_refl _) (pm_le_spec (pm_le_u (pm_le_u (pm_le_u (pm_le_n))))) ?_
      exact gX7_took_j68 hfl m5
    · refine pm_aload_n dX7_took_28 rfl rfl ?_
      refine fg_7_4 (y := zX7_took) (Or.inl tw_202) dX7_took_29 (fun x7 => ?_)
      refine pm_iload_n dX7_took_32 rfl rfl ?_
      refine pm_iadd dX7_took_33 ?_
      refine pm_aload_n dX7_took_34 rfl rfl ?_
      refine fg_7_2 (y := zX7_took) (Or.inl tw_195) dX7_took_35 (fun x8 => ?_)
      refine pm_icmp_ge (tgt := 68) dX7_took_38 rfl ?_ ?_
      · refine pm_drop (ls2 := [pmU, pmU, pmU]) (Nat.le_refl _) (pm_le_spec (pm_le_u (pm_le_u (pm_le_u (pm_le_n))))) ?_
        exact gX7_took_j68 hfl m5
      · refine pm_aload_n dX7_took_41 rfl rfl ?_
        refine fg_7_0 (y := zX7_took) (Or.inl tw_192) dX7_took_42 (fun r9 => ?_)
        refine pm_aload_n dX7_took_45 rfl rfl ?_
        refine fg_7_4 (y := zX7_took) (Or.inl tw_202) dX7_took_46 (fun x10 => ?_)
        refine pm_iload_n dX7_took_49 rfl rfl ?_
        refine pm_iadd dX7_took_50 ?_
        refine pm_iald (y := zX7_took) dX7_took_51 (fun x11 => ?_)
        refine pm_aload_n dX7_took_52 rfl rfl ?_
        refine pm_iload_n dX7_took_53 rfl rfl ?_
        refine pm_rsv (fun hb9 => ?_)
        refine pm_kI (d := d + 4) rfl (pm_VS (y := zX7_took) (z := zJ0_charAt_5068e) (As := [.int s20.1]) zkJ0_charAt_5068e hb9 tw_800 tw_801 tw_802 dX7_took_54 rfl rfl (Nat.le_of_ble_eq_true rfl)) (kcJ0_charAt_5068e (d := d + 0) hfl l1 s20.1 m5) (fun x13 m12 => ?_)
        refine pm_icmp_eq (tgt := 62) dX7_took_57 rfl ?_ ?_
        · refine pm_iincn (y := zX7_took) dX7_took_62 rfl ki_1 rfl (Nat.le_of_ble_eq_true rfl) (fun x14 => ?_)
          refine pm_eqls (ls2 := [.ref l0, .ref l1, .int x14]) rfl ?_
          refine pm_goto (tgt := 20) dX7_took_65 rfl ?_
          exact hag20 (x14, m12)
        · refine pm_iconst (v := 0) dX7_took_60 ki_0 ?_
          exact pm_nret (ty := .boolean) (w := 0) rfl (by decide) (by decide) dX7_took_61)
set_option maxRecDepth 100000 in
set_option maxHeartbeats 4000000 in
theorem kcX7_took (hfl : l.flags = flags0) (a0 : Nat) (a1 : Nat) (m : pmM) : pm_C l Γ zX7_took (d + 5) [.ref a0, .ref a1] m (X7_took a0 a1 m) := by
  refine pm_enter (ls := [.ref a0, .ref a1, pmU]) hfl (by decide +kernel) rfl (Nat.le_of_ble_eq_true rfl) rfl (Nat.le_of_ble_eq_true rfl) ?_
  unfold X7_took
  refine pm_aload_n dX7_took_0 rfl rfl ?_
  refine fg_7_3 (y := zX7_took) (Or.inl tw_197) dX7_took_1 (fun x1 => ?_)
  refine pm_aload_n dX7_took_4 rfl rfl ?_
  refine fg_7_4 (y := zX7_took) (Or.inl tw_202) dX7_took_5 (fun x2 => ?_)
  refine pm_isub dX7_took_8 ?_
  refine pm_aload_n dX7_took_9 rfl rfl ?_
  refine pm_rsv (fun hb9 => ?_)
  refine pm_kI (d := d + 4) rfl (pm_VS (y := zX7_took) (z := zJ0_length_8abf5) (As := []) zkJ0_length_8abf5 hb9 tw_790 tw_791 tw_792 dX7_took_10 rfl rfl (Nat.le_of_ble_eq_true rfl)) (kcJ0_length_8abf5 (d := d + 3) hfl a1 m) (fun x4 m3 => ?_)
  refine pm_icmp_eq (tgt := 18) dX7_took_13 rfl ?_ ?_
  · refine pm_iconst (v := 0) dX7_took_18 ki_0 ?_
    refine pm_istore_n (ls2 := [.ref a0, .ref a1, .int 0]) dX7_took_19 rfl rfl (Nat.le_of_ble_eq_true rfl) rfl ?_
    exact gX7_took_L20 hfl a0 a1 pm_N (0, m3)
  · refine pm_iconst (v := 0) dX7_took_16 ki_0 ?_
    exact pm_nret (ty := .boolean) (w := 0) rfl (by decide) (by decide) dX7_took_17
-- StruckPage$Law.readPair(LStruckPage$Text;II)Z
def X1_readPair_j78 (rs : Nat → Nat → Int32 → pmM → pmR) (t0 : Int32) (m : pmM) : pmR := pm_oI (vp_nar .boolean t0) m
def X1_readPair_j77 (rs : Nat → Nat → Int32 → pmM → pmR) (m : pmM) : pmR := X1_readPair_j78 rs 0 m
def X1_readPair (rs : Nat → Nat → Int32 → pmM → pmR) (a0 : Nat) (a1 : Nat) (a2 : Int32) (a3 : Int32) (m : pmM) : pmR := if a2 < 6 then (pm_rc 7 a1 m <| pm_cI (X7_takeSign a1 91 m) fun x2 m1 => if x2 = 0 then (X1_readPair_j77 rs m1) else (pm_rc 1 a0 m1 <| pm_cI (rs a0 a1 (a2 + 1) m1) fun x4 m3 => if x4 = 0 then (X1_readPair_j77 rs m3) else (pm_rc 7 a1 m3 <| pm_cI (X7_takeSign a1 44 m3) fun x6 m5 => if x6 = 0 then (X1_readPair_j77 rs m5) else (pm_rc 1 a0 m5 <| pm_cI (rs a0 a1 (a2 + 1) m5) fun x8 m7 => if x8 = 0 then (X1_readPair_j77 rs m7) else (pm_rc 7 a1 m7 <| pm_cI (X7_takeSign a1 93 m7) fun x10 m9 => if x10 = 0 then (X1_readPair_j77 rs m9) else (pm_rc 1 a0 m9 <| pm_cI (X1_append a0 a3 m9) fun x12 m11 => if x12 = 0 then (X1_readPair_j77 rs m11) else (X1_readPair_j78 rs 1 m11))))))) else (pm_gI 7 a1 4 m fun x13 => pm_rc 7 a1 m <| pm_cI (X7_fail a1 3 x13 m) fun x15 m14 => pm_oI (vp_nar .boolean x15) m14)
set_option maxRecDepth 100000 in
set_option maxHeartbeats 4000000 in
theorem gX1_readPair_j78 (hfl : l.flags = flags0) (rs : Nat → Nat → Int32 → pmM → pmR) (t0 : Int32) (m : pmM) (hrs : ∀ (j : Nat) (b0 : Nat) (b1 : Nat) (b2 : Int32) (m : pmM), pm_C l Γ zX1_readSum (d + j + 6) [.ref b0, .ref b1, .int b2] m (rs b0 b1 b2 m)) : pm_G l Γ zX1_readPair (d + 7) 78 [pmU, pmU, pmU, pmU] [.int t0] m (X1_readPair_j78 rs t0 m) := by
  unfold X1_readPair_j78
  exact pm_nret (ty := .boolean) (w := vp_nar .boolean t0) rfl (by decide) rfl dX1_readPair_78
set_option maxRecDepth 100000 in
set_option maxHeartbeats 4000000 in
theorem gX1_readPair_j77 (hfl : l.flags = flags0) (rs : Nat → Nat → Int32 → pmM → pmR) (m : pmM) (hrs : ∀ (j : Nat) (b0 : Nat) (b1 : Nat) (b2 : Int32) (m : pmM), pm_C l Γ zX1_readSum (d + j + 6) [.ref b0, .ref b1, .int b2] m (rs b0 b1 b2 m)) : pm_G l Γ zX1_readPair (d + 7) 77 [pmU, pmU, pmU, pmU] [] m (X1_readPair_j77 rs m) := by
  unfold X1_readPair_j77
  refine pm_iconst (v := 0) dX1_readPair_77 ki_0 ?_
  exact gX1_readPair_j78 hfl rs 0 m hrs
set_option maxRecDepth 100000 in
set_option maxHeartbeats 4000000 in
theorem kcX1_readPair (hfl : l.flags = flags0) (rs : Nat → Nat → Int32 → pmM → pmR) (a0 : Nat) (a1 : Nat) (a2 : Int32) (a3 : Int32) (m : pmM) (hrs : ∀ (j : Nat) (b0 : Nat) (b1 : Nat) (b2 : Int32) (m : pmM), pm_C l Γ zX1_readSum (d + j + 6) [.ref b0, .ref b1, .int b2] m (rs b0 b1 b2 m)) : pm_C l Γ zX1_readPair (d + 7) [.ref a0, .ref a1, .int a2, .int a3] m (X1_readPair rs a0 a1 a2 a3 m) := by
  refine pm_enter (ls := [.ref a0, .ref a1, .int a2, .int a3]) hfl (by decide +kernel) rfl (Nat.le_of_ble_eq_true rfl) rfl (Nat.le_of_ble_eq_true rfl) ?_
  unfold X1_readPair
  refine pm_iload_n dX1_readPair_0 rfl rfl ?_
  refine pm_bipush (v := 6) dX1_readPair_1 kb_6 ?_
  refine pm_icmp_lt (tgt := 16) dX1_readPair_3 rfl ?_ ?_
  · refine pm_aload_n dX1_readPair_16 rfl rfl ?_
    refine pm_bipush (v := 91) dX1_readPair_17 kb_91 ?_
    refine pm_rcv (fun hb9 hc9 => ?_)
    refine pm_kI (d := d + 6) rfl (pm_VN (y := zX1_readPair) (z := zX7_takeSign) (As := [.int 91]) zkX7_takeSign pm_q7 (by decide) tw_911 tw_864 tw_45 dX1_readPair_19 rfl rfl (Nat.le_of_ble_eq_true rfl) hb9 hc9) (kcX7_takeSign (d := d + 5) hfl a1 91 m) (fun x2 m1 => ?_)
    refine pm_if_eq (tgt := 77) dX1_readPair_22 rfl ?_ ?_
    · refine pm_drop (ls2 := [pmU, pmU, pmU, pmU]) (Nat.le_refl _) (pm_le_spec (pm_le_u (pm_le_u (pm_le_u (pm_le_u (pm_le_n)))))) ?_
      exact gX1_readPair_j77 hfl rs m1 hrs
    · refine pm_aload_n dX1_readPair_25 rfl rfl ?_
      refine pm_aload_n dX1_readPair_26 rfl rfl ?_
      refine pm_iload_n dX1_readPair_27 rfl rfl ?_
      refine pm_iconst (v := 1) dX1_readPair_28 ki_1 ?_
      refine pm_iadd dX1_readPair_29 ?_
      refine pm_rcv (fun hb9 hc9 => ?_)
      refine pm_kI (d := d + 6) rfl (pm_V (y := zX1_readPair) (z := zX1_readSum) (As := [.ref a1, .int (a2 + 1)]) zkX1_readSum pm_q1 (by decide) tw_891 tw_893 tw_50 dX1_readPair_30 rfl rfl (Nat.le_of_ble_eq_true rfl) hb9 hc9) (hrs 0 a0 a1 (a2 + 1) m1) (fun x4 m3 => ?_)
      refine pm_if_eq (tgt := 77) dX1_readPair_33 rfl ?_ ?_
      · refine pm_drop (ls2 := [pmU, pmU, pmU, pmU]) (Nat.le_refl _) (pm_le_spec (pm_le_u (pm_le_u (pm_le_u (pm_le_u (pm_le_n)))))) ?_
        exact gX1_readPair_j77 hfl rs m3 hrs
      · refine pm_aload_n dX1_readPair_36 rfl rfl ?_
        refine pm_bipush (v := 44) dX1_readPair_37 kb_44 ?_
        refine pm_rcv (fun hb9 hc9 => ?_)
        refine pm_kI (d := d + 6) rfl (pm_VN (y := zX1_readPair) (z := zX7_takeSign) (As := [.int 44]) zkX7_takeSign pm_q7 (by decide) tw_911 tw_864 tw_45 dX1_readPair_39 rfl rfl (Nat.le_of_ble_eq_true rfl) hb9 hc9) (kcX7_takeSign (d := d + 5) hfl a1 44 m3) (fun x6 m5 => ?_)
        refine pm_if_eq (tgt := 77) dX1_readPair_42 rfl ?_ ?_
        · refine pm_drop (ls2 := [pmU, pmU, pmU, pmU]) (Nat.le_refl _) (pm_le_spec (pm_le_u (pm_le_u (pm_le_u (pm_le_u (pm_le_n)))))) ?_
          exact gX1_readPair_j77 hfl rs m5 hrs
        · refine pm_aload_n dX1_readPair_45 rfl rfl ?_
          refine pm_aload_n dX1_readPair_46 rfl rfl ?_
          refine pm_iload_n dX1_readPair_47 rfl rfl ?_
          refine pm_iconst (v := 1) dX1_readPair_48 ki_1 ?_
          refine pm_iadd dX1_readPair_49 ?_
          refine pm_rcv (fun hb9 hc9 => ?_)
          refine pm_kI (d := d + 6) rfl (pm_V (y := zX1_readPair) (z := zX1_readSum) (As := [.ref a1, .int (a2 + 1)]) zkX1_readSum pm_q1 (by decide) tw_891 tw_893 tw_50 dX1_readPair_50 rfl rfl (Nat.le_of_ble_eq_true rfl) hb9 hc9) (hrs 0 a0 a1 (a2 + 1) m5) (fun x8 m7 => ?_)
          refine pm_if_eq (tgt := 77) dX1_readPair_53 rfl ?_ ?_
          · refine pm_drop (ls2 := [pmU, pmU, pmU, pmU]) (Nat.le_refl _) (pm_le_spec (pm_le_u (pm_le_u (pm_le_u (pm_le_u (pm_le_n)))))) ?_
            exact gX1_readPair_j77 hfl rs m7 hrs
          · refine pm_aload_n dX1_readPair_56 rfl rfl ?_
            refine pm_bipush (v := 93) dX1_readPair_57 kb_93 ?_
            refine pm_rcv (fun hb9 hc9 => ?_)
            refine pm_kI (d := d + 6) rfl (pm_VN (y := zX1_readPair) (z := zX7_takeSign) (As := [.int 93]) zkX7_takeSign pm_q7 (by decide) tw_911 tw_864 tw_45 dX1_readPair_59 rfl rfl (Nat.le_of_ble_eq_true rfl) hb9 hc9) (kcX7_takeSign (d := d + 5) hfl a1 93 m7) (fun x10 m9 => ?_)
            refine pm_if_eq (tgt := 77) dX1_readPair_62 rfl ?_ ?_
            · refine pm_drop (ls2 := [pmU, pmU, pmU, pmU]) (Nat.le_refl _) (pm_le_spec (pm_le_u (pm_le_u (pm_le_u (pm_le_u (pm_le_n)))))) ?_
              exact gX1_readPair_j77 hfl rs m9 hrs
            · refine pm_aload_n dX1_readPair_65 rfl rfl ?_
              refine pm_iload_n dX1_readPair_66 rfl rfl ?_
              refine pm_rcv (fun hb9 hc9 => ?_)
              refine pm_kI (d := d + 6) rfl (pm_V (y := zX1_readPair) (z := zX1_append) (As := [.int a3]) zkX1_append pm_q1 (by decide) tw_905 tw_907 tw_53 dX1_readPair_67 rfl rfl (Nat.le_of_ble_eq_true rfl) hb9 hc9) (kcX1_append (d := d + 6) hfl a0 a3 m9) (fun x12 m11 => ?_)
              refine pm_if_eq (tgt := 77) dX1_readPair_70 rfl ?_ ?_
              · refine pm_drop (ls2 := [pmU, pmU, pmU, pmU]) (Nat.le_refl _) (pm_le_spec (pm_le_u (pm_le_u (pm_le_u (pm_le_u (pm_le_n)))))) ?_
                exact gX1_readPair_j77 hfl rs m11 hrs
              · refine pm_iconst (v := 1) dX1_readPair_73 ki_1 ?_
                refine pm_goto (tgt := 78) dX1_readPair_74 rfl ?_
                refine pm_drop (ls2 := [pmU, pmU, pmU, pmU]) (Nat.le_refl _) (pm_le_spec (pm_le_u (pm_le_u (pm_le_u (pm_le_u (pm_le_n)))))) ?_
                exact gX1_readPair_j78 hfl rs 1 m11 hrs
  · refine pm_aload_n dX1_readPair_6 rfl rfl ?_
    refine pm_iconst (v := 3) dX1_readPair_7 ki_3 ?_
    refine pm_aload_n dX1_readPair_8 rfl rfl ?_
    refine fg_7_4 (y := zX1_readPair) (Or.inr tw_203) dX1_readPair_9 (fun x13 => ?_)
    refine pm_rcv (fun hb9 hc9 => ?_)
    refine pm_kI (d := d + 6) rfl (pm_VN (y := zX1_readPair) (z := zX7_fail) (As := [.int 3, .int x13]) zkX7_fail pm_q7 (by decide) tw_910 tw_783 tw_38 dX1_readPair_12 rfl rfl (Nat.le_of_ble_eq_true rfl) hb9 hc9) (kcX7_fail (d := d + 6) hfl a1 3 x13 m) (fun x15 m14 => ?_)
    exact pm_nret (ty := .boolean) (w := vp_nar .boolean x15) rfl (by decide) rfl dX1_readPair_15
-- StruckPage$Law.nameTaken(LStruckPage$Text;)I
def X1_nameTaken_j98 (t0 : Int32) (m : pmM) : pmR := pm_oI t0 m
def X1_nameTaken (a0 : Nat) (m : pmM) : pmR := pm_rc 7 a0 m <| pm_cI (X7_took a0 8 m) fun x2 m1 => if x2 = 0 then (pm_rc 7 a0 m1 <| pm_cI (X7_took a0 9 m1) fun x4 m3 => if x4 = 0 then (pm_rc 7 a0 m3 <| pm_cI (X7_took a0 10 m3) fun x6 m5 => if x6 = 0 then (pm_rc 7 a0 m5 <| pm_cI (X7_took a0 11 m5) fun x8 m7 => if x8 = 0 then (pm_rc 7 a0 m7 <| pm_cI (X7_took a0 12 m7) fun x10 m9 => if x10 = 0 then (pm_rc 7 a0 m9 <| pm_cI (X7_took a0 13 m9) fun x12 m11 => if x12 = 0 then (pm_rc 7 a0 m11 <| pm_cI (X7_took a0 14 m11) fun x14 m13 => if x14 = 0 then (X1_nameTaken_j98 0 m13) else (X1_nameTaken_j98 (-7) m13)) else (X1_nameTaken_j98 (-6) m11)) else (X1_nameTaken_j98 (-5) m9)) else (X1_nameTaken_j98 (-4) m7)) else (X1_nameTaken_j98 (-3) m5)) else (X1_nameTaken_j98 (-2) m3)) else (X1_nameTaken_j98 (-1) m1)
set_option maxRecDepth 100000 in
set_option maxHeartbeats 4000000 in
theorem gX1_nameTaken_j98 (hfl : l.flags = flags0) (t0 : Int32) (m : pmM) : pm_G l Γ zX1_nameTaken (d + 6) 98 [pmU] [.int t0] m (X1_nameTaken_j98 t0 m) := by
  unfold X1_nameTaken_j98
  exact pm_iret rfl dX1_nameTaken_98
set_option maxRecDepth 100000 in
set_option maxHeartbeats 4000000 in
theorem kcX1_nameTaken (hfl : l.flags = flags0) (a0 : Nat) (m : pmM) : pm_C l Γ zX1_nameTaken (d + 6) [.ref a0] m (X1_nameTaken a0 m) := by
  refine pm_enter (ls := [.ref a0]) hfl (by decide +kernel) rfl (Nat.le_of_ble_eq_true rfl) rfl (Nat.le_of_ble_eq_true rfl) ?_
  unfold X1_nameTaken
  refine pm_aload_n dX1_nameTaken_0 rfl rfl ?_
  refine pm_ldcs (y := zX1_nameTaken) (own := "StruckPage$Law") (tx := "words") (k := 8) (by decide +kernel) rfl dX1_nameTaken_1 ?_
  refine pm_rcv (fun hb9 hc9 => ?_)
  refine pm_kI (d := d + 5) rfl (pm_VN (y := zX1_nameTaken) (z := zX7_took) (As := [.ref 8]) zkX7_took pm_q7 (by decide) tw_914 tw_788 tw_39 dX1_nameTaken_3 rfl rfl (Nat.le_of_ble_eq_true rfl) hb9 hc9) (kcX7_took (d := d + 0) hfl a0 8 m) (fun x2 m1 => ?_)
  refine pm_if_eq (tgt := 13) dX1_nameTaken_6 rfl ?_ ?_
  · refine pm_aload_n dX1_nameTaken_13 rfl rfl ?_
    refine pm_ldcs (y := zX1_nameTaken) (own := "StruckPage$Law") (tx := "struck") (k := 9) (by decide +kernel) rfl dX1_nameTaken_14 ?_
    refine pm_rcv (fun hb9 hc9 => ?_)
    refine pm_kI (d := d + 5) rfl (pm_VN (y := zX1_nameTaken) (z := zX7_took) (As := [.ref 9]) zkX7_took pm_q7 (by decide) tw_914 tw_788 tw_39 dX1_nameTaken_16 rfl rfl (Nat.le_of_ble_eq_true rfl) hb9 hc9) (kcX7_took (d := d + 0) hfl a0 9 m1) (fun x4 m3 => ?_)
    refine pm_if_eq (tgt := 27) dX1_nameTaken_19 rfl ?_ ?_
    · refine pm_aload_n dX1_nameTaken_27 rfl rfl ?_
      refine pm_ldcs (y := zX1_nameTaken) (own := "StruckPage$Law") (tx := "first") (k := 10) (by decide +kernel) rfl dX1_nameTaken_28 ?_
      refine pm_rcv (fun hb9 hc9 => ?_)
      refine pm_kI (d := d + 5) rfl (pm_VN (y := zX1_nameTaken) (z := zX7_took) (As := [.ref 10]) zkX7_took pm_q7 (by decide) tw_914 tw_788 tw_39 dX1_nameTaken_30 rfl rfl (Nat.le_of_ble_eq_true rfl) hb9 hc9) (kcX7_took (d := d + 0) hfl a0 10 m3) (fun x6 m5 => ?_)
      refine pm_if_eq (tgt := 41) dX1_nameTaken_33 rfl ?_ ?_
      · refine pm_aload_n dX1_nameTaken_41 rfl rfl ?_
        refine pm_ldcs (y := zX1_nameTaken) (own := "StruckPage$Law") (tx := "line") (k := 11) (by decide +kernel) rfl dX1_nameTaken_42 ?_
        refine pm_rcv (fun hb9 hc9 => ?_)
        refine pm_kI (d := d + 5) rfl (pm_VN (y := zX1_nameTaken) (z := zX7_took) (As := [.ref 11]) zkX7_took pm_q7 (by decide) tw_914 tw_788 tw_39 dX1_nameTaken_44 rfl rfl (Nat.le_of_ble_eq_true rfl) hb9 hc9) (kcX7_took (d := d + 0) hfl a0 11 m5) (fun x8 m7 => ?_)
        refine pm_if_eq (tgt := 55) dX1_nameTaken_47 rfl ?_ ?_
        · refine pm_aload_n dX1_nameTaken_55 rfl rfl ?_
          refine pm_ldcs (y := zX1_nameTaken) (own := "StruckPage$Law") (tx := "left") (k := 12) (by decide +kernel) rfl dX1_nameTaken_56 ?_
          refine pm_rcv (fun hb9 hc9 => ?_)
          refine pm_kI (d := d + 5) rfl (pm_VN (y := zX1_nameTaken) (z := zX7_took) (As := [.ref 12]) zkX7_took pm_q7 (by decide) tw_914 tw_788 tw_39 dX1_nameTaken_58 rfl rfl (Nat.le_of_ble_eq_true rfl) hb9 hc9) (kcX7_took (d := d + 0) hfl a0 12 m7) (fun x10 m9 => ?_)
          refine pm_if_eq (tgt := 69) dX1_nameTaken_61 rfl ?_ ?_
          · refine pm_aload_n dX1_nameTaken_69 rfl rfl ?_
            refine pm_ldcs (y := zX1_nameTaken) (own := "StruckPage$Law") (tx := "ink") (k := 13) (by decide +kernel) rfl dX1_nameTaken_70 ?_
            refine pm_rcv (fun hb9 hc9 => ?_)
            refine pm_kI (d := d + 5) rfl (pm_VN (y := zX1_nameTaken) (z := zX7_took) (As := [.ref 13]) zkX7_took pm_q7 (by decide) tw_914 tw_788 tw_39 dX1_nameTaken_72 rfl rfl (Nat.le_of_ble_eq_true rfl) hb9 hc9) (kcX7_took (d := d + 0) hfl a0 13 m9) (fun x12 m11 => ?_)
            refine pm_if_eq (tgt := 83) dX1_nameTaken_75 rfl ?_ ?_
            · refine pm_aload_n dX1_nameTaken_83 rfl rfl ?_
              refine pm_ldcs (y := zX1_nameTaken) (own := "StruckPage$Law") (tx := "cell") (k := 14) (by decide +kernel) rfl dX1_nameTaken_84 ?_
              refine pm_rcv (fun hb9 hc9 => ?_)
              refine pm_kI (d := d + 5) rfl (pm_VN (y := zX1_nameTaken) (z := zX7_took) (As := [.ref 14]) zkX7_took pm_q7 (by decide) tw_914 tw_788 tw_39 dX1_nameTaken_86 rfl rfl (Nat.le_of_ble_eq_true rfl) hb9 hc9) (kcX7_took (d := d + 0) hfl a0 14 m11) (fun x14 m13 => ?_)
              refine pm_if_eq (tgt := 97) dX1_nameTaken_89 rfl ?_ ?_
              · refine pm_iconst (v := 0) dX1_nameTaken_97 ki_0 ?_
                refine pm_drop (ls2 := [pmU]) (Nat.le_refl _) (pm_le_spec (pm_le_u (pm_le_n))) ?_
                exact gX1_nameTaken_j98 hfl 0 m13
              · refine pm_bipush (v := (-7)) dX1_nameTaken_92 kb_n7 ?_
                refine pm_goto (tgt := 98) dX1_nameTaken_94 rfl ?_
                refine pm_drop (ls2 := [pmU]) (Nat.le_refl _) (pm_le_spec (pm_le_u (pm_le_n))) ?_
                exact gX1_nameTaken_j98 hfl (-7) m13
            · refine pm_bipush (v := (-6)) dX1_nameTaken_78 kb_n6 ?_
              refine pm_goto (tgt := 98) dX1_nameTaken_80 rfl ?_
              refine pm_drop (ls2 := [pmU]) (Nat.le_refl _) (pm_le_spec (pm_le_u (pm_le_n))) ?_
              exact gX1_nameTaken_j98 hfl (-6) m11
          · refine pm_bipush (v := (-5)) dX1_nameTaken_64 kb_n5 ?_
            refine pm_goto (tgt := 98) dX1_nameTaken_66 rfl ?_
            refine pm_drop (ls2 := [pmU]) (Nat.le_refl _) (pm_le_spec (pm_le_u (pm_le_n))) ?_
            exact gX1_nameTaken_j98 hfl (-5) m9
        · refine pm_bipush (v := (-4)) dX1_nameTaken_50 kb_n4 ?_
          refine pm_goto (tgt := 98) dX1_nameTaken_52 rfl ?_
          refine pm_drop (ls2 := [pmU]) (Nat.le_refl _) (pm_le_spec (pm_le_u (pm_le_n))) ?_
          exact gX1_nameTaken_j98 hfl (-4) m7
      · refine pm_bipush (v := (-3)) dX1_nameTaken_36 kb_n3 ?_
        refine pm_goto (tgt := 98) dX1_nameTaken_38 rfl ?_
        refine pm_drop (ls2 := [pmU]) (Nat.le_refl _) (pm_le_spec (pm_le_u (pm_le_n))) ?_
        exact gX1_nameTaken_j98 hfl (-3) m5
    · refine pm_bipush (v := (-2)) dX1_nameTaken_22 kb_n2 ?_
      refine pm_goto (tgt := 98) dX1_nameTaken_24 rfl ?_
      refine pm_drop (ls2 := [pmU]) (Nat.le_refl _) (pm_le_spec (pm_le_u (pm_le_n))) ?_
      exact gX1_nameTaken_j98 hfl (-2) m3
  · refine pm_iconst (v := (-1)) dX1_nameTaken_9 ki_n1 ?_
    refine pm_goto (tgt := 98) dX1_nameTaken_10 rfl ?_
    refine pm_drop (ls2 := [pmU]) (Nat.le_refl _) (pm_le_spec (pm_le_u (pm_le_n))) ?_
    exact gX1_nameTaken_j98 hfl (-1) m1
end GEN3
