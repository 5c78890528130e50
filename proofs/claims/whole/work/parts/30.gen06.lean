section GEN6
variable {l : Launch} {Γ : pmG} {d : Nat}
-- StruckPage$Search.join(IIJ)V
def X4_join_j54 (m : pmM) : pmR := pm_oV m
def X4_join (a0 : Nat) (a1 : Int32) (a2 : Int32) (a3 : Int64) (m : pmM) : pmR := pm_gR 4 a0 3 m fun r1 => pm_ld 100 r1 a1 m fun x2 => if x2 ≤ a2 then (pm_gR 4 a0 3 m fun r3 => pm_ld 100 r3 a1 m fun x4 => if a2 = x4 then (if (1000 : Int32) ≤ a2 then (X4_join_j54 m) else (pm_gR 4 a0 4 m fun r5 => pm_ldL r5 a1 m fun x6 => pm_stL r5 a1 (x6 + a3) m fun m7 => X4_join_j54 m7)) else (X4_join_j54 m)) else (pm_gR 4 a0 3 m fun r8 => pm_st 100 r8 a1 a2 m fun m9 => pm_gR 4 a0 4 m9 fun r10 => pm_stL r10 a1 a3 m9 fun m11 => X4_join_j54 m11)
set_option maxRecDepth 100000 in
set_option maxHeartbeats 4000000 in
theorem gX4_join_j54 (hfl : l.flags = flags0) (m : pmM) : pm_G l Γ zX4_join (d + 0) 54 [pmU, pmU, pmU, pmU, pmU] [] m (X4_join_j54 m) := by
  unfold X4_join_j54
  exact pm_vret rfl dX4_join_54
set_option maxRecDepth 100000 in
set_option maxHeartbeats 4000000 in
theorem kcX4_join (hfl : l.flags = flags0) (a0 : Nat) (a1 : Int32) (a2 : Int32) (a3 : Int64) (m : pmM) : pm_C l Γ zX4_join (d + 0) [.ref a0, .int a1, .int a2, .long a3] m (X4_join a0 a1 a2 a3 m) := by
  refine pm_enter (ls := [.ref a0, .int a1, .int a2, .long a3, pmU]) hfl (by decide +kernel) rfl (Nat.le_of_ble_eq_true rfl) rfl (Nat.le_of_ble_eq_true rfl) ?_
  unfold X4_join
  refine pm_iload_n dX4_join_0 rfl rfl ?_
  refine pm_aload_n dX4_join_1 rfl rfl ?_
  refine fg_4_3 (y := zX4_join) (Or.inl tw_422) dX4_join_2 (fun r1 => ?_)
  refine pm_iload_n dX4_join_5 rfl rfl ?_
  refine pm_iald (y := zX4_join) dX4_join_6 (fun x2 => ?_)
  refine pm_icmp_ge (tgt := 27) dX4_join_7 rfl ?_ ?_
  · refine pm_iload_n dX4_join_27 rfl rfl ?_
    refine pm_aload_n dX4_join_28 rfl rfl ?_
    refine fg_4_3 (y := zX4_join) (Or.inl tw_422) dX4_join_29 (fun r3 => ?_)
    refine pm_iload_n dX4_join_32 rfl rfl ?_
    refine pm_iald (y := zX4_join) dX4_join_33 (fun x4 => ?_)
    refine pm_icmp_ne (tgt := 54) dX4_join_34 rfl ?_ ?_
    · refine pm_drop (ls2 := [pmU, pmU, pmU, pmU, pmU]) (Nat.le_refl _) (pm_le_spec (pm_le_u (pm_le_u (pm_le_u (pm_le_u (pm_le_u (pm_le_n))))))) ?_
      exact gX4_join_j54 hfl m
    · refine pm_iload_n dX4_join_37 rfl rfl ?_
      refine pm_sipush (v := 1000) dX4_join_38 ks_1000 ?_
      refine pm_icmp_ge (tgt := 54) dX4_join_41 rfl ?_ ?_
      · refine pm_drop (ls2 := [pmU, pmU, pmU, pmU, pmU]) (Nat.le_refl _) (pm_le_spec (pm_le_u (pm_le_u (pm_le_u (pm_le_u (pm_le_u (pm_le_n))))))) ?_
        exact gX4_join_j54 hfl m
      · refine pm_aload_n dX4_join_44 rfl rfl ?_
        refine fg_4_4 (y := zX4_join) (Or.inl tw_423) dX4_join_45 (fun r5 => ?_)
        refine pm_iload_n dX4_join_48 rfl rfl ?_
        refine pm_dup2 dX4_join_49 rfl rfl ?_
        refine pm_lald (y := zX4_join) dX4_join_50 (fun x6 => ?_)
        refine pm_lload_n dX4_join_51 rfl rfl ?_
        refine pm_ladd dX4_join_52 ?_
        refine pm_last (y := zX4_join) dX4_join_53 (fun m7 => ?_)
        refine pm_drop (ls2 := [pmU, pmU, pmU, pmU, pmU]) (Nat.le_refl _) (pm_le_spec (pm_le_u (pm_le_u (pm_le_u (pm_le_u (pm_le_u (pm_le_n))))))) ?_
        exact gX4_join_j54 hfl m7
  · refine pm_aload_n dX4_join_10 rfl rfl ?_
    refine fg_4_3 (y := zX4_join) (Or.inl tw_422) dX4_join_11 (fun r8 => ?_)
    refine pm_iload_n dX4_join_14 rfl rfl ?_
    refine pm_iload_n dX4_join_15 rfl rfl ?_
    refine pm_iast (y := zX4_join) dX4_join_16 (fun m9 => ?_)
    refine pm_aload_n dX4_join_17 rfl rfl ?_
    refine fg_4_4 (y := zX4_join) (Or.inl tw_423) dX4_join_18 (fun r10 => ?_)
    refine pm_iload_n dX4_join_21 rfl rfl ?_
    refine pm_lload_n dX4_join_22 rfl rfl ?_
    refine pm_last (y := zX4_join) dX4_join_23 (fun m11 => ?_)
    refine pm_goto (tgt := 54) dX4_join_24 rfl ?_
    refine pm_drop (ls2 := [pmU, pmU, pmU, pmU, pmU]) (Nat.le_refl _) (pm_le_spec (pm_le_u (pm_le_u (pm_le_u (pm_le_u (pm_le_u (pm_le_n))))))) ?_
    exact gX4_join_j54 hfl m11
-- StruckPage$Search.passWord(LStruckPage$Saying;IZ)V
def X4_passWord_j218 (again17 : (Int32 × pmM) → pmR) (l0 : Nat) (l1 : Nat) (l2 : Int32) (l4 : Int32) (l5 : Int32) (m : pmM) : pmR := pm_bI (l5 + (-1)) fun x21 => again17 (x21, m)
def X4_passWord_L17 (l0 : Nat) (l1 : Nat) (l2 : Int32) (l4 : Int32) (again17 : (Int32 × pmM) → pmR) (s17 : Int32 × pmM) : pmR := if s17.1 < 0 then (pm_oV s17.2) else (pm_bI ((2 : Int32) * s17.1) fun x2 => pm_gR 4 l0 3 s17.2 fun r3 => pm_ld 100 r3 x2 s17.2 fun x4 => pm_gR 4 l0 4 s17.2 fun r5 => pm_ldL r5 x2 s17.2 fun x6 => pm_gR 4 l0 3 s17.2 fun r7 => pm_ld 100 r7 (x2 + 1) s17.2 fun x8 => pm_gR 4 l0 4 s17.2 fun r9 => pm_ldL r9 (x2 + 1) s17.2 fun x10 => pm_gR 4 l0 3 s17.2 fun r11 => pm_st 100 r11 x2 1000 s17.2 fun m12 => pm_gR 4 l0 4 m12 fun r13 => pm_stL r13 x2 0 m12 fun m14 => pm_gR 4 l0 3 m14 fun r15 => pm_st 100 r15 (x2 + 1) 1000 m14 fun m16 => pm_gR 4 l0 4 m16 fun r17 => pm_stL r17 (x2 + 1) 0 m16 fun m18 => pm_rc 4 l0 m18 <| pm_cV (X4_join l0 (x2 + l4) (x4 + l4) x6 m18) fun m19 => pm_rc 4 l0 m19 <| pm_cV (X4_join l0 (x2 + l4) x8 x10 m19) fun m20 => if s17.1 ≤ 0 then (X4_passWord_j218 again17 l0 l1 l2 l4 s17.1 m20) else (pm_gR 3 l1 0 m20 fun r22 => pm_ld 100 r22 (s17.1 - 1) m20 fun x23 => if x23 = l2 then (pm_bI ((1 : Int32) - l4) fun x24 => pm_gR 4 l0 3 m20 fun r25 => pm_ld 100 r25 (x2 - 2) m20 fun x26 => pm_gR 4 l0 4 m20 fun r27 => pm_ldL r27 (x2 - 2) m20 fun x28 => pm_rc 4 l0 m20 <| pm_cV (X4_join l0 (x2 + x24) (x26 + x24) x28 m20) fun m29 => pm_gR 4 l0 3 m29 fun r30 => pm_ld 100 r30 (x2 - 1) m29 fun x31 => pm_gR 4 l0 4 m29 fun r32 => pm_ldL r32 (x2 - 1) m29 fun x33 => pm_rc 4 l0 m29 <| pm_cV (X4_join l0 (x2 + x24) x31 x33 m29) fun m34 => X4_passWord_j218 again17 l0 l1 l2 l4 s17.1 m34) else (X4_passWord_j218 again17 l0 l1 l2 l4 s17.1 m20)))
def X4_passWord_j9 (l0 : Nat) (l1 : Nat) (l2 : Int32) (t0 : Int32) (m : pmM) : pmR := pm_gI 3 l1 1 m fun x1 => pm_lp pm_N (X4_passWord_L17 l0 l1 l2 t0) (x1, m)
def X4_passWord (a0 : Nat) (a1 : Nat) (a2 : Int32) (a3 : Int32) (m : pmM) : pmR := if a3 = 0 then (X4_passWord_j9 a0 a1 a2 0 m) else (X4_passWord_j9 a0 a1 a2 1 m)
set_option maxRecDepth 100000 in
set_option maxHeartbeats 4000000 in
theorem gX4_passWord_j218 (hfl : l.flags = flags0) (again17 : (Int32 × pmM) → pmR) (l0 : Nat) (l1 : Nat) (l2 : Int32) (l4 : Int32) (l5 : Int32) (m : pmM) (hag17 : ∀ s : Int32 × pmM, pm_G l Γ zX4_passWord (d + 1) 17 [.ref l0, .ref l1, .int l2, pmU, .int l4, .int s.1, pmU, pmU, pmU, pmU, pmU, pmU, pmU, pmU] [] s.2 (again17 s)) : pm_G l Γ zX4_passWord (d + 1) 218 [.ref l0, .ref l1, .int l2, pmU, .int l4, .int l5, pmU, pmU, pmU, pmU, pmU, pmU, pmU, pmU] [] m (X4_passWord_j218 again17 l0 l1 l2 l4 l5 m) := by
  unfold X4_passWord_j218
  refine pm_iincn (y := zX4_passWord) dX4_passWord_218 rfl ki_n1 rfl (Nat.le_of_ble_eq_true rfl) (fun x21 => ?_)
  refine pm_eqls (ls2 := [.ref l0, .ref l1, .int l2, pmU, .int l4, .int x21, pmU, pmU, pmU, pmU, pmU, pmU, pmU, pmU]) rfl ?_
  refine pm_goto (tgt := 17) dX4_passWord_221 rfl ?_
  exact hag17 (x21, m)
set_option maxRecDepth 100000 in
set_option maxHeartbeats 4000000 in
theorem gX4_passWord_L17 (hfl : l.flags = flags0) (l0 : Nat) (l1 : Nat) (l2 : Int32) (l4 : Int32) : ∀ (n : Nat) (s : Int32 × pmM), pm_G l Γ zX4_passWord (d + 1) 17 [.ref l0, .ref l1, .int l2, pmU, .int l4, .int s.1, pmU, pmU, pmU, pmU, pmU, pmU, pmU, pmU] [] s.2 (pm_lp n (X4_passWord_L17 l0 l1 l2 l4) s) :=
  pm_loop (lsf := fun s : Int32 × pmM => [.ref l0, .ref l1, .int l2, pmU, .int l4, .int s.1, pmU, pmU, pmU, pmU, pmU, pmU, pmU, pmU]) (mf := fun s : Int32 × pmM => s.2) (fun again17 hag17 s17 => by
    unfold X4_passWord_L17
    refine pm_iload dX4_passWord_17 rfl ?_
    refine pm_if_lt (tgt := 224) dX4_passWord_19 rfl ?_ ?_
    · exact pm_vret rfl dX4_passWord_224
    · refine pm_iconst (v := 2) dX4_passWord_22 ki_2 ?_
      refine pm_iload dX4_passWord_23 rfl ?_
      refine pm_imul dX4_passWord_25 ?_
      refine pm_bIn (fun x2 => ?_)
      refine pm_istore (ls2 := [.ref l0, .ref l1, .int l2, pmU, .int l4, .int s17.1, .int x2, pmU, pmU, pmU, pmU, pmU, pmU, pmU]) dX4_passWord_26 rfl (Nat.le_of_ble_eq_true rfl) rfl ?_
      refine pm_aload_n dX4_passWord_28 rfl rfl ?_
      refine fg_4_3 (y := zX4_passWord) (Or.inl tw_422) dX4_passWord_29 (fun r3 => ?_)
      refine pm_iload dX4_passWord_32 rfl ?_
      refine pm_iald (y := zX4_passWord) dX4_passWord_34 (fun x4 => ?_)
      refine pm_istore (ls2 := [.ref l0, .ref l1, .int l2, pmU, .int l4, .int s17.1, .int x2, .int x4, pmU, pmU, pmU, pmU, pmU, pmU]) dX4_passWord_35 rfl (Nat.le_of_ble_eq_true rfl) rfl ?_
      refine pm_aload_n dX4_passWord_37 rfl rfl ?_
      refine fg_4_4 (y := zX4_passWord) (Or.inl tw_423) dX4_passWord_38 (fun r5 => ?_)
      refine pm_iload dX4_passWord_41 rfl ?_
      refine pm_lald (y := zX4_passWord) dX4_passWord_43 (fun x6 => ?_)
      refine pm_lstore (ls2 := [.ref l0, .ref l1, .int l2, pmU, .int l4, .int s17.1, .int x2, .int x4, .long x6, pmU, pmU, pmU, pmU, pmU]) dX4_passWord_44 rfl (Nat.le_of_ble_eq_true rfl) rfl ?_
      refine pm_aload_n dX4_passWord_46 rfl rfl ?_
      refine fg_4_3 (y := zX4_passWord) (Or.inl tw_422) dX4_passWord_47 (fun r7 => ?_)
      refine pm_iload dX4_passWord_50 rfl ?_
      refine pm_iconst (v := 1) dX4_passWord_52 ki_1 ?_
      refine pm_iadd dX4_passWord_53 ?_
      refine pm_iald (y := zX4_passWord) dX4_passWord_54 (fun x8 => ?_)
      refine pm_istore (ls2 := [.ref l0, .ref l1, .int l2, pmU, .int l4, .int s17.1, .int x2, .int x4, .long x6, pmU, .int x8, pmU, pmU, pmU]) dX4_passWord_55 rfl (Nat.le_of_ble_eq_true rfl) rfl ?_
      refine pm_aload_n dX4_passWord_57 rfl rfl ?_
      refine fg_4_4 (y := zX4_passWord) (Or.inl tw_423) dX4_passWord_58 (fun r9 => ?_)
      refine pm_iload dX4_passWord_61 rfl ?_
      refine pm_iconst (v := 1) dX4_passWord_63 ki_1 ?_
      refine pm_iadd dX4_passWord_64 ?_
      refine pm_lald (y := zX4_passWord) dX4_passWord_65 (fun x10 => ?_)
      refine pm_lstore (ls2 := [.ref l0, .ref l1, .int l2, pmU, .int l4, .int s17.1, .int x2, .int x4, .long x6, pmU, .int x8, .long x10, pmU, pmU]) dX4_passWord_66 rfl (Nat.le_of_ble_eq_true rfl) rfl ?_
      refine pm_aload_n dX4_passWord_68 rfl rfl ?_
      refine fg_4_3 (y := zX4_passWord) (Or.inl tw_422) dX4_passWord_69 (fun r11 => ?_)
      refine pm_iload dX4_passWord_72 rfl ?_
      refine pm_sipush (v := 1000) dX4_passWord_74 ks_1000 ?_
      refine pm_iast (y := zX4_passWord) dX4_passWord_77 (fun m12 => ?_)
      refine pm_aload_n dX4_passWord_78 rfl rfl ?_
      refine fg_4_4 (y := zX4_passWord) (Or.inl tw_423) dX4_passWord_79 (fun r13 => ?_)
      refine pm_iload dX4_passWord_82 rfl ?_
      refine pm_lconst (v := 0) dX4_passWord_84 kl_0 ?_
      refine pm_last (y := zX4_passWord) dX4_passWord_85 (fun m14 => ?_)
      refine pm_aload_n dX4_passWord_86 rfl rfl ?_
      refine fg_4_3 (y := zX4_passWord) (Or.inl tw_422) dX4_passWord_87 (fun r15 => ?_)
      refine pm_iload dX4_passWord_90 rfl ?_
      refine pm_iconst (v := 1) dX4_passWord_92 ki_1 ?_
      refine pm_iadd dX4_passWord_93 ?_
      refine pm_sipush (v := 1000) dX4_passWord_94 ks_1000 ?_
      refine pm_iast (y := zX4_passWord) dX4_passWord_97 (fun m16 => ?_)
      refine pm_aload_n dX4_passWord_98 rfl rfl ?_
      refine fg_4_4 (y := zX4_passWord) (Or.inl tw_423) dX4_passWord_99 (fun r17 => ?_)
      refine pm_iload dX4_passWord_102 rfl ?_
      refine pm_iconst (v := 1) dX4_passWord_104 ki_1 ?_
      refine pm_iadd dX4_passWord_105 ?_
      refine pm_lconst (v := 0) dX4_passWord_106 kl_0 ?_
      refine pm_last (y := zX4_passWord) dX4_passWord_107 (fun m18 => ?_)
      refine pm_aload_n dX4_passWord_108 rfl rfl ?_
      refine pm_iload dX4_passWord_109 rfl ?_
      refine pm_iload dX4_passWord_111 rfl ?_
      refine pm_iadd dX4_passWord_113 ?_
      refine pm_iload dX4_passWord_114 rfl ?_
      refine pm_iload dX4_passWord_116 rfl ?_
      refine pm_iadd dX4_passWord_118 ?_
      refine pm_lload dX4_passWord_119 rfl ?_
      refine pm_rcv (fun hb9 hc9 => ?_)
      refine pm_kV (d := d + 0) rfl (pm_V (y := zX4_passWord) (z := zX4_join) (As := [.int (x2 + l4), .int (x4 + l4), .long x6]) zkX4_join pm_q4 (by decide) tw_644 tw_646 tw_25 dX4_passWord_121 rfl rfl (Nat.le_of_ble_eq_true rfl) hb9 hc9) (kcX4_join (d := d + 0) hfl l0 (x2 + l4) (x4 + l4) x6 m18) (fun m19 => ?_)
      refine pm_aload_n dX4_passWord_124 rfl rfl ?_
      refine pm_iload dX4_passWord_125 rfl ?_
      refine pm_iload dX4_passWord_127 rfl ?_
      refine pm_iadd dX4_passWord_129 ?_
      refine pm_iload dX4_passWord_130 rfl ?_
      refine pm_lload dX4_passWord_132 rfl ?_
      refine pm_rcv (fun hb9 hc9 => ?_)
      refine pm_kV (d := d + 0) rfl (pm_V (y := zX4_passWord) (z := zX4_join) (As := [.int (x2 + l4), .int x8, .long x10]) zkX4_join pm_q4 (by decide) tw_644 tw_646 tw_25 dX4_passWord_134 rfl rfl (Nat.le_of_ble_eq_true rfl) hb9 hc9) (kcX4_join (d := d + 0) hfl l0 (x2 + l4) x8 x10 m19) (fun m20 => ?_)
      refine pm_iload dX4_passWord_137 rfl ?_
      refine pm_if_le (tgt := 218) dX4_passWord_139 rfl ?_ ?_
      · refine pm_drop (ls2 := [.ref l0, .ref l1, .int l2, pmU, .int l4, .int s17.1, pmU, pmU, pmU, pmU, pmU, pmU, pmU, pmU]) (Nat.le_refl _) (pm_le_spec (pm_le_v (pm_le_v (pm_le_v (pm_le_u (pm_le_v (pm_le_v (pm_le_u (pm_le_u (pm_le_u (pm_le_u (pm_le_u (pm_le_u (pm_le_u (pm_le_u (pm_le_n)))))))))))))))) ?_
        exact gX4_passWord_j218 hfl again17 l0 l1 l2 l4 s17.1 m20 hag17
      · refine pm_aload_n dX4_passWord_142 rfl rfl ?_
        refine fg_3_0 (y := zX4_passWord) (Or.inr tw_301) dX4_passWord_143 (fun r22 => ?_)
        refine pm_iload dX4_passWord_146 rfl ?_
        refine pm_iconst (v := 1) dX4_passWord_148 ki_1 ?_
        refine pm_isub dX4_passWord_149 ?_
        refine pm_iald (y := zX4_passWord) dX4_passWord_150 (fun x23 => ?_)
        refine pm_iload_n dX4_passWord_151 rfl rfl ?_
        refine pm_icmp_ne (tgt := 218) dX4_passWord_152 rfl ?_ ?_
        · refine pm_drop (ls2 := [.ref l0, .ref l1, .int l2, pmU, .int l4, .int s17.1, pmU, pmU, pmU, pmU, pmU, pmU, pmU, pmU]) (Nat.le_refl _) (pm_le_spec (pm_le_v (pm_le_v (pm_le_v (pm_le_u (pm_le_v (pm_le_v (pm_le_u (pm_le_u (pm_le_u (pm_le_u (pm_le_u (pm_le_u (pm_le_u (pm_le_u (pm_le_n)))))))))))))))) ?_
          exact gX4_passWord_j218 hfl again17 l0 l1 l2 l4 s17.1 m20 hag17
        · refine pm_iconst (v := 1) dX4_passWord_155 ki_1 ?_
          refine pm_iload dX4_passWord_156 rfl ?_
          refine pm_isub dX4_passWord_158 ?_
          refine pm_bIn (fun x24 => ?_)
          refine pm_istore (ls2 := [.ref l0, .ref l1, .int l2, pmU, .int l4, .int s17.1, .int x2, .int x4, .long x6, pmU, .int x8, .long x10, pmU, .int x24]) dX4_passWord_159 rfl (Nat.le_of_ble_eq_true rfl) rfl ?_
          refine pm_aload_n dX4_passWord_161 rfl rfl ?_
          refine pm_iload dX4_passWord_162 rfl ?_
          refine pm_iload dX4_passWord_164 rfl ?_
          refine pm_iadd dX4_passWord_166 ?_
          refine pm_aload_n dX4_passWord_167 rfl rfl ?_
          refine fg_4_3 (y := zX4_passWord) (Or.inl tw_422) dX4_passWord_168 (fun r25 => ?_)
          refine pm_iload dX4_passWord_171 rfl ?_
          refine pm_iconst (v := 2) dX4_passWord_173 ki_2 ?_
          refine pm_isub dX4_passWord_174 ?_
          refine pm_iald (y := zX4_passWord) dX4_passWord_175 (fun x26 => ?_)
          refine pm_iload dX4_passWord_176 rfl ?_
          refine pm_iadd dX4_passWord_178 ?_
          refine pm_aload_n dX4_passWord_179 rfl rfl ?_
          refine fg_4_4 (y := zX4_passWord) (Or.inl tw_423) dX4_passWord_180 (fun r27 => ?_)
          refine pm_iload dX4_passWord_183 rfl ?_
          refine pm_iconst (v := 2) dX4_passWord_185 ki_2 ?_
          refine pm_isub dX4_passWord_186 ?_
          refine pm_lald (y := zX4_passWord) dX4_passWord_187 (fun x28 => ?_)
          refine pm_rcv (fun hb9 hc9 => ?_)
          refine pm_kV (d := d + 0) rfl (pm_V (y := zX4_passWord) (z := zX4_join) (As := [.int (x2 + x24), .int (x26 + x24), .long x28]) zkX4_join pm_q4 (by decide) tw_644 tw_646 tw_25 dX4_passWord_188 rfl rfl (Nat.le_of_ble_eq_true rfl) hb9 hc9) (kcX4_join (d := d + 0) hfl l0 (x2 + x24) (x26 + x24) x28 m20) (fun m29 => ?_)
          refine pm_aload_n dX4_passWord_191 rfl rfl ?_
          refine pm_iload dX4_passWord_192 rfl ?_
          refine pm_iload dX4_passWord_194 rfl ?_
          refine pm_iadd dX4_passWord_196 ?_
          refine pm_aload_n dX4_passWord_197 rfl rfl ?_
          refine fg_4_3 (y := zX4_passWord) (Or.inl tw_422) dX4_passWord_198 (fun r30 => ?_)
          refine pm_iload dX4_passWord_201 rfl ?_
          refine pm_iconst (v := 1) dX4_passWord_203 ki_1 ?_
          refine pm_isub dX4_passWord_204 ?_
          refine pm_iald (y := zX4_passWord) dX4_passWord_205 (fun x31 => ?_)
          refine pm_aload_n dX4_passWord_206 rfl rfl ?_
          refine fg_4_4 (y := zX4_passWord) (Or.inl tw_423) dX4_passWord_207 (fun r32 => ?_)
          refine pm_iload dX4_passWord_210 rfl ?_
          refine pm_iconst (v := 1) dX4_passWord_212 ki_1 ?_
          refine pm_isub dX4_passWord_213 ?_
          refine pm_lald (y := zX4_passWord) dX4_passWord_214 (fun x33 => ?_)
          refine pm_rcv (fun hb9 hc9 => ?_)
          refine pm_kV (d := d + 0) rfl (pm_V (y := zX4_passWord) (z := zX4_join) (As := [.int (x2 + x24), .int x31, .long x33]) zkX4_join pm_q4 (by decide) tw_644 tw_646 tw_25 dX4_passWord_215 rfl rfl (Nat.le_of_ble_eq_true rfl) hb9 hc9) (kcX4_join (d := d + 0) hfl l0 (x2 + x24) x31 x33 m29) (fun m34 => ?_)
          refine pm_drop (ls2 := [.ref l0, .ref l1, .int l2, pmU, .int l4, .int s17.1, pmU, pmU, pmU, pmU, pmU, pmU, pmU, pmU]) (Nat.le_refl _) (pm_le_spec (pm_le_v (pm_le_v (pm_le_v (pm_le_u (pm_le_v (pm_le_v (pm_le_u (pm_le_u (pm_le_u (pm_le_u (pm_le_u (pm_le_u (pm_le_u (pm_le_u (pm_le_n)))))))))))))))) ?_
          exact gX4_passWord_j218 hfl again17 l0 l1 l2 l4 s17.1 m34 hag17)
set_option maxRecDepth 100000 in
set_option maxHeartbeats 4000000 in
theorem gX4_passWord_j9 (hfl : l.flags = flags0) (l0 : Nat) (l1 : Nat) (l2 : Int32) (t0 : Int32) (m : pmM) : pm_G l Γ zX4_passWord (d + 1) 9 [.ref l0, .ref l1, .int l2, pmU, pmU, pmU, pmU, pmU, pmU, pmU, pmU, pmU, pmU, pmU] [.int t0] m (X4_passWord_j9 l0 l1 l2 t0 m) := by
  unfold X4_passWord_j9
  refine pm_istore (ls2 := [.ref l0, .ref l1, .int l2, pmU, .int t0, pmU, pmU, pmU, pmU, pmU, pmU, pmU, pmU, pmU]) dX4_passWord_9 rfl (Nat.le_of_ble_eq_true rfl) rfl ?_
  refine pm_aload_n dX4_passWord_11 rfl rfl ?_
  refine fg_3_1 (y := zX4_passWord) (Or.inr tw_304) dX4_passWord_12 (fun x1 => ?_)
  refine pm_istore (ls2 := [.ref l0, .ref l1, .int l2, pmU, .int t0, .int x1, pmU, pmU, pmU, pmU, pmU, pmU, pmU, pmU]) dX4_passWord_15 rfl (Nat.le_of_ble_eq_true rfl) rfl ?_
  exact gX4_passWord_L17 hfl l0 l1 l2 t0 pm_N (x1, m)
set_option maxRecDepth 100000 in
set_option maxHeartbeats 4000000 in
theorem kcX4_passWord (hfl : l.flags = flags0) (a0 : Nat) (a1 : Nat) (a2 : Int32) (a3 : Int32) (m : pmM) : pm_C l Γ zX4_passWord (d + 1) [.ref a0, .ref a1, .int a2, .int a3] m (X4_passWord a0 a1 a2 a3 m) := by
  refine pm_enter (ls := [.ref a0, .ref a1, .int a2, .int a3, pmU, pmU, pmU, pmU, pmU, pmU, pmU, pmU, pmU, pmU]) hfl (by decide +kernel) rfl (Nat.le_of_ble_eq_true rfl) rfl (Nat.le_of_ble_eq_true rfl) ?_
  unfold X4_passWord
  refine pm_iload_n dX4_passWord_0 rfl rfl ?_
  refine pm_if_eq (tgt := 8) dX4_passWord_1 rfl ?_ ?_
  · refine pm_iconst (v := 0) dX4_passWord_8 ki_0 ?_
    refine pm_drop (ls2 := [.ref a0, .ref a1, .int a2, pmU, pmU, pmU, pmU, pmU, pmU, pmU, pmU, pmU, pmU, pmU]) (Nat.le_refl _) (pm_le_spec (pm_le_v (pm_le_v (pm_le_v (pm_le_u (pm_le_u (pm_le_u (pm_le_u (pm_le_u (pm_le_u (pm_le_u (pm_le_u (pm_le_u (pm_le_u (pm_le_u (pm_le_n)))))))))))))))) ?_
    exact gX4_passWord_j9 hfl a0 a1 a2 0 m
  · refine pm_iconst (v := 1) dX4_passWord_4 ki_1 ?_
    refine pm_goto (tgt := 9) dX4_passWord_5 rfl ?_
    refine pm_drop (ls2 := [.ref a0, .ref a1, .int a2, pmU, pmU, pmU, pmU, pmU, pmU, pmU, pmU, pmU, pmU, pmU]) (Nat.le_refl _) (pm_le_spec (pm_le_v (pm_le_v (pm_le_v (pm_le_u (pm_le_u (pm_le_u (pm_le_u (pm_le_u (pm_le_u (pm_le_u (pm_le_u (pm_le_u (pm_le_u (pm_le_u (pm_le_n)))))))))))))))) ?_
    exact gX4_passWord_j9 hfl a0 a1 a2 1 m
-- StruckPage$Search.endStrokes(I)V
def X4_endStrokes_L2 (l0 : Nat) (l1 : Int32) (again2 : (Int32 × pmM) → pmR) (s2 : Int32 × pmM) : pmR := if l1 < s2.1 then (pm_oV s2.2) else (pm_gR 4 l0 3 s2.2 fun r1 => pm_ld 100 r1 (((2 : Int32) * s2.1) + 1) s2.2 fun x2 => pm_gR 4 l0 4 s2.2 fun r3 => pm_ldL r3 (((2 : Int32) * s2.1) + 1) s2.2 fun x4 => pm_rc 4 l0 s2.2 <| pm_cV (X4_join l0 ((2 : Int32) * s2.1) x2 x4 s2.2) fun m5 => pm_gR 4 l0 3 m5 fun r6 => pm_st 100 r6 (((2 : Int32) * s2.1) + 1) 1000 m5 fun m7 => pm_gR 4 l0 4 m7 fun r8 => pm_stL r8 (((2 : Int32) * s2.1) + 1) 0 m7 fun m9 => pm_bI (s2.1 + 1) fun x10 => again2 (x10, m9))
def X4_endStrokes (a0 : Nat) (a1 : Int32) (m : pmM) : pmR := pm_lp pm_N (X4_endStrokes_L2 a0 a1) (0, m)
set_option maxRecDepth 100000 in
set_option maxHeartbeats 4000000 in
theorem gX4_endStrokes_L2 (hfl : l.flags = flags0) (l0 : Nat) (l1 : Int32) : ∀ (n : Nat) (s : Int32 × pmM), pm_G l Γ zX4_endStrokes (d + 1) 2 [.ref l0, .int l1, .int s.1] [] s.2 (pm_lp n (X4_endStrokes_L2 l0 l1) s) :=
  pm_loop (lsf := fun s : Int32 × pmM => [.ref l0, .int l1, .int s.1]) (mf := fun s : Int32 × pmM => s.2) (fun again2 hag2 s2 => by
    unfold X4_endStrokes_L2
    refine pm_iload_n dX4_endStrokes_2 rfl rfl ?_
    refine pm_iload_n dX4_endStrokes_3 rfl rfl ?_
    refine pm_icmp_gt (tgt := 64) dX4_endStrokes_4 rfl ?_ ?_
    · exact pm_vret rfl dX4_endStrokes_64
    · refine pm_aload_n dX4_endStrokes_7 rfl rfl ?_
      refine pm_iconst (v := 2) dX4_endStrokes_8 ki_2 ?_
      refine pm_iload_n dX4_endStrokes_9 rfl rfl ?_
      refine pm_imul dX4_endStrokes_10 ?_
      refine pm_aload_n dX4_endStrokes_11 rfl rfl ?_
      refine fg_4_3 (y := zX4_endStrokes) (Or.inl tw_422) dX4_endStrokes_12 (fun r1 => ?_)
      refine pm_iconst (v := 2) dX4_endStrokes_15 ki_2 ?_
      refine pm_iload_n dX4_endStrokes_16 rfl rfl ?_
      refine pm_imul dX4_endStrokes_17 ?_
      refine pm_iconst (v := 1) dX4_endStrokes_18 ki_1 ?_
      refine pm_iadd dX4_endStrokes_19 ?_
      refine pm_iald (y := zX4_endStrokes) dX4_endStrokes_20 (fun x2 => ?_)
      refine pm_aload_n dX4_endStrokes_21 rfl rfl ?_
      refine fg_4_4 (y := zX4_endStrokes) (Or.inl tw_423) dX4_endStrokes_22 (fun r3 => ?_)
      refine pm_iconst (v := 2) dX4_endStrokes_25 ki_2 ?_
      refine pm_iload_n dX4_endStrokes_26 rfl rfl ?_
      refine pm_imul dX4_endStrokes_27 ?_
      refine pm_iconst (v := 1) dX4_endStrokes_28 ki_1 ?_
      refine pm_iadd dX4_endStrokes_29 ?_
      refine pm_lald (y := zX4_endStrokes) dX4_endStrokes_30 (fun x4 => ?_)
      refine pm_rcv (fun hb9 hc9 => ?_)
      refine pm_kV (d := d + 0) rfl (pm_V (y := zX4_endStrokes) (z := zX4_join) (As := [.int ((2 : Int32) * s2.1), .int x2, .long x4]) zkX4_join pm_q4 (by decide) tw_644 tw_646 tw_25 dX4_endStrokes_31 rfl rfl (Nat.le_of_ble_eq_true rfl) hb9 hc9) (kcX4_join (d := d + 0) hfl l0 ((2 : Int32) * s2.1) x2 x4 s2.2) (fun m5 => ?_)
      refine pm_aload_n dX4_endStrokes_34 rfl rfl ?_
      refine fg_4_3 (y := zX4_endStrokes) (Or.inl tw_422) dX4_endStrokes_35 (fun r6 => ?_)
      refine pm_iconst (v := 2) dX4_endStrokes_38 ki_2 ?_
      refine pm_iload_n dX4_endStrokes_39 rfl rfl ?_
      refine pm_imul dX4_endStrokes_40 ?_
      refine pm_iconst (v := 1) dX4_endStrokes_41 ki_1 ?_
      refine pm_iadd dX4_endStrokes_42 ?_
      refine pm_sipush (v := 1000) dX4_endStrokes_43 ks_1000 ?_
      refine pm_iast (y := zX4_endStrokes) dX4_endStrokes_46 (fun m7 => ?_)
      refine pm_aload_n dX4_endStrokes_47 rfl rfl ?_
      refine fg_4_4 (y := zX4_endStrokes) (Or.inl tw_423) dX4_endStrokes_48 (fun r8 => ?_)
      refine pm_iconst (v := 2) dX4_endStrokes_51 ki_2 ?_
      refine pm_iload_n dX4_endStrokes_52 rfl rfl ?_
      refine pm_imul dX4_endStrokes_53 ?_
      refine pm_iconst (v := 1) dX4_endStrokes_54 ki_1 ?_
      refine pm_iadd dX4_endStrokes_55 ?_
      refine pm_lconst (v := 0) dX4_endStrokes_56 kl_0 ?_
      refine pm_last (y := zX4_endStrokes) dX4_endStrokes_57 (fun m9 => ?_)
      refine pm_iincn (y := zX4_endStrokes) dX4_endStrokes_58 rfl ki_1 rfl (Nat.le_of_ble_eq_true rfl) (fun x10 => ?_)
      refine pm_eqls (ls2 := [.ref l0, .int l1, .int x10]) rfl ?_
      refine pm_goto (tgt := 2) dX4_endStrokes_61 rfl ?_
      exact hag2 (x10, m9))
set_option maxRecDepth 100000 in
set_option maxHeartbeats 4000000 in
theorem kcX4_endStrokes (hfl : l.flags = flags0) (a0 : Nat) (a1 : Int32) (m : pmM) : pm_C l Γ zX4_endStrokes (d + 1) [.ref a0, .int a1] m (X4_endStrokes a0 a1 m) := by
  refine pm_enter (ls := [.ref a0, .int a1, pmU]) hfl (by decide +kernel) rfl (Nat.le_of_ble_eq_true rfl) rfl (Nat.le_of_ble_eq_true rfl) ?_
  unfold X4_endStrokes
  refine pm_iconst (v := 0) dX4_endStrokes_0 ki_0 ?_
  refine pm_istore_n (ls2 := [.ref a0, .int a1, .int 0]) dX4_endStrokes_1 rfl rfl (Nat.le_of_ble_eq_true rfl) rfl ?_
  exact gX4_endStrokes_L2 hfl a0 a1 pm_N (0, m)
-- StruckPage$Search.seekFewest(LStruckPage$Desk;LStruckPage$Saying;)V
def X4_seekFewest_L60 (again46 : (Int32 × pmM) → pmR) (l0 : Nat) (l1 : Nat) (l2 : Nat) (l3 : Int32) (again60 : (Int32 × pmM) → pmR) (s60 : Int32 × pmM) : pmR := pm_gR 4 l0 0 s60.2 fun r7 => pm_gR 2 r7 0 s60.2 fun r8 => pm_ld 100 r8 l3 s60.2 fun x9 => if x9 ≤ s60.1 then (pm_gI 3 l2 1 s60.2 fun x10 => pm_rc 4 l0 s60.2 <| pm_cV (X4_endStrokes l0 x10 s60.2) fun m11 => pm_bI (l3 + 1) fun x12 => again46 (x12, m11)) else (pm_gR 4 l0 0 s60.2 fun r13 => pm_rc 2 r13 s60.2 <| pm_cI (X2_wordAt r13 l3 s60.1 s60.2) fun x15 m14 => pm_rc 0 l1 m14 <| pm_cI (X0_isLeft l1 l3 s60.1 m14) fun x17 m16 => pm_rc 4 l0 m16 <| pm_cV (X4_passWord l0 l2 x15 x17 m16) fun m18 => pm_bI (s60.1 + 1) fun x19 => again60 (x19, m18))
def X4_seekFewest_L46 (l0 : Nat) (l1 : Nat) (l2 : Nat) (again46 : (Int32 × pmM) → pmR) (s46 : Int32 × pmM) : pmR := pm_gR 4 l0 0 s46.2 fun r5 => pm_gI 2 r5 3 s46.2 fun x6 => if x6 ≤ s46.1 then (pm_oV s46.2) else (pm_lp pm_N (X4_seekFewest_L60 again46 l0 l1 l2 s46.1) (0, s46.2))
def X4_seekFewest_L2 (l0 : Nat) (l1 : Nat) (l2 : Nat) (again2 : (Int32 × pmM) → pmR) (s2 : Int32 × pmM) : pmR := if (26 : Int32) ≤ s2.1 then (pm_gR 4 l0 3 s2.2 fun r1 => pm_st 100 r1 0 0 s2.2 fun m2 => pm_gR 4 l0 4 m2 fun r3 => pm_stL r3 0 1 m2 fun m4 => pm_lp pm_N (X4_seekFewest_L46 l0 l1 l2) (0, m4)) else (pm_gR 4 l0 3 s2.2 fun r20 => pm_st 100 r20 s2.1 1000 s2.2 fun m21 => pm_gR 4 l0 4 m21 fun r22 => pm_stL r22 s2.1 0 m21 fun m23 => pm_bI (s2.1 + 1) fun x24 => again2 (x24, m23))
def X4_seekFewest (a0 : Nat) (a1 : Nat) (a2 : Nat) (m : pmM) : pmR := pm_lp pm_N (X4_seekFewest_L2 a0 a1 a2) (0, m)
set_option maxRecDepth 100000 in
set_option maxHeartbeats 4000000 in
theorem gX4_seekFewest_L60 (hfl : l.flags = flags0) (again46 : (Int32 × pmM) → pmR) (l0 : Nat) (l1 : Nat) (l2 : Nat) (l3 : Int32) (hag46 : ∀ s : Int32 × pmM, pm_G l Γ zX4_seekFewest (d + 2) 46 [.ref l0, .ref l1, .ref l2, .int s.1, pmU] [] s.2 (again46 s)) : ∀ (n : Nat) (s : Int32 × pmM), pm_G l Γ zX4_seekFewest (d + 2) 60 [.ref l0, .ref l1, .ref l2, .int l3, .int s.1] [] s.2 (pm_lp n (X4_seekFewest_L60 again46 l0 l1 l2 l3) s) :=
  pm_loop (lsf := fun s : Int32 × pmM => [.ref l0, .ref l1, .ref l2, .int l3, .int s.1]) (mf := fun s : Int32 × pmM => s.2) (fun again60 hag60 s60 => by
    unfold X4_seekFewest_L60
    refine pm_iload dX4_seekFewest_60 rfl ?_
    refine pm_aload_n dX4_seekFewest_62 rfl rfl ?_
    refine fg_4_0 (y := zX4_seekFewest) (Or.inl tw_419) dX4_seekFewest_63 (fun r7 => ?_)
    refine fg_2_0 (y := zX4_seekFewest) (Or.inr tw_238) dX4_seekFewest_66 (fun r8 => ?_)
    refine pm_iload_n dX4_seekFewest_69 rfl rfl ?_
    refine pm_iald (y := zX4_seekFewest) dX4_seekFewest_70 (fun x9 => ?_)
    refine pm_icmp_ge (tgt := 102) dX4_seekFewest_71 rfl ?_ ?_
    · refine pm_aload_n dX4_seekFewest_102 rfl rfl ?_
      refine pm_aload_n dX4_seekFewest_103 rfl rfl ?_
      refine fg_3_1 (y := zX4_seekFewest) (Or.inr tw_304) dX4_seekFewest_104 (fun x10 => ?_)
      refine pm_rcv (fun hb9 hc9 => ?_)
      refine pm_kV (d := d + 1) rfl (pm_V (y := zX4_seekFewest) (z := zX4_endStrokes) (As := [.int x10]) zkX4_endStrokes pm_q4 (by decide) tw_648 tw_650 tw_26 dX4_seekFewest_107 rfl rfl (Nat.le_of_ble_eq_true rfl) hb9 hc9) (kcX4_endStrokes (d := d + 0) hfl l0 x10 s60.2) (fun m11 => ?_)
      refine pm_iincn (y := zX4_seekFewest) dX4_seekFewest_110 rfl ki_1 rfl (Nat.le_of_ble_eq_true rfl) (fun x12 => ?_)
      refine pm_eqls (ls2 := [.ref l0, .ref l1, .ref l2, .int x12, .int s60.1]) rfl ?_
      refine pm_goto (tgt := 46) dX4_seekFewest_113 rfl ?_
      refine pm_drop (ls2 := [.ref l0, .ref l1, .ref l2, .int x12, pmU]) (Nat.le_refl _) (pm_le_spec (pm_le_v (pm_le_v (pm_le_v (pm_le_v (pm_le_u (pm_le_n))))))) ?_
      exact hag46 (x12, m11)
    · refine pm_aload_n dX4_seekFewest_74 rfl rfl ?_
      refine pm_aload_n dX4_seekFewest_75 rfl rfl ?_
      refine pm_aload_n dX4_seekFewest_76 rfl rfl ?_
      refine fg_4_0 (y := zX4_seekFewest) (Or.inl tw_419) dX4_seekFewest_77 (fun r13 => ?_)
      refine pm_iload_n dX4_seekFewest_80 rfl rfl ?_
      refine pm_iload dX4_seekFewest_81 rfl ?_
      refine pm_rcv (fun hb9 hc9 => ?_)
      refine pm_kI (d := d + 1) rfl (pm_VN (y := zX4_seekFewest) (z := zX2_wordAt) (As := [.int l3, .int s60.1]) zkX2_wordAt pm_q2 (by decide) tw_627 tw_579 tw_13 dX4_seekFewest_83 rfl rfl (Nat.le_of_ble_eq_true rfl) hb9 hc9) (kcX2_wordAt (d := d + 1) hfl r13 l3 s60.1 s60.2) (fun x15 m14 => ?_)
      refine pm_aload_n dX4_seekFewest_86 rfl rfl ?_
      refine pm_iload_n dX4_seekFewest_87 rfl rfl ?_
      refine pm_iload dX4_seekFewest_88 rfl ?_
      refine pm_rcv (fun hb9 hc9 => ?_)
      refine pm_kI (d := d + 1) rfl (pm_VN (y := zX4_seekFewest) (z := zX0_isLeft) (As := [.int l3, .int s60.1]) zkX0_isLeft pm_q0 (by decide) tw_636 tw_638 tw_23 dX4_seekFewest_90 rfl rfl (Nat.le_of_ble_eq_true rfl) hb9 hc9) (kcX0_isLeft (d := d + 0) hfl l1 l3 s60.1 m14) (fun x17 m16 => ?_)
      refine pm_rcv (fun hb9 hc9 => ?_)
      refine pm_kV (d := d + 1) rfl (pm_V (y := zX4_seekFewest) (z := zX4_passWord) (As := [.ref l2, .int x15, .int x17]) zkX4_passWord pm_q4 (by decide) tw_640 tw_642 tw_24 dX4_seekFewest_93 rfl rfl (Nat.le_of_ble_eq_true rfl) hb9 hc9) (kcX4_passWord (d := d + 0) hfl l0 l2 x15 x17 m16) (fun m18 => ?_)
      refine pm_iincn (y := zX4_seekFewest) dX4_seekFewest_96 rfl ki_1 rfl (Nat.le_of_ble_eq_true rfl) (fun x19 => ?_)
      refine pm_eqls (ls2 := [.ref l0, .ref l1, .ref l2, .int l3, .int x19]) rfl ?_
      refine pm_goto (tgt := 60) dX4_seekFewest_99 rfl ?_
      exact hag60 (x19, m18))
set_option maxRecDepth 100000 in
set_option maxHeartbeats 4000000 in
theorem gX4_seekFewest_L46 (hfl : l.flags = flags0) (l0 : Nat) (l1 : Nat) (l2 : Nat) : ∀ (n : Nat) (s : Int32 × pmM), pm_G l Γ zX4_seekFewest (d + 2) 46 [.ref l0, .ref l1, .ref l2, .int s.1, pmU] [] s.2 (pm_lp n (X4_seekFewest_L46 l0 l1 l2) s) :=
  pm_loop (lsf := fun s : Int32 × pmM => [.ref l0, .ref l1, .ref l2, .int s.1, pmU]) (mf := fun s : Int32 × pmM => s.2) (fun again46 hag46 s46 => by
    unfold X4_seekFewest_L46
    refine pm_iload_n dX4_seekFewest_46 rfl rfl ?_
    refine pm_aload_n dX4_seekFewest_47 rfl rfl ?_
    refine fg_4_0 (y := zX4_seekFewest) (Or.inl tw_419) dX4_seekFewest_48 (fun r5 => ?_)
    refine fg_2_3 (y := zX4_seekFewest) (Or.inr tw_245) dX4_seekFewest_51 (fun x6 => ?_)
    refine pm_icmp_ge (tgt := 116) dX4_seekFewest_54 rfl ?_ ?_
    · exact pm_vret rfl dX4_seekFewest_116
    · refine pm_iconst (v := 0) dX4_seekFewest_57 ki_0 ?_
      refine pm_istore (ls2 := [.ref l0, .ref l1, .ref l2, .int s46.1, .int 0]) dX4_seekFewest_58 rfl (Nat.le_of_ble_eq_true rfl) rfl ?_
      exact gX4_seekFewest_L60 hfl again46 l0 l1 l2 s46.1 hag46 pm_N (0, s46.2))
set_option maxRecDepth 100000 in
set_option maxHeartbeats 4000000 in
theorem gX4_seekFewest_L2 (hfl : l.flags = flags0) (l0 : Nat) (l1 : Nat) (l2 : Nat) : ∀ (n : Nat) (s : Int32 × pmM), pm_G l Γ zX4_seekFewest (d + 2) 2 [.ref l0, .ref l1, .ref l2, .int s.1, pmU] [] s.2 (pm_lp n (X4_seekFewest_L2 l0 l1 l2) s) :=
  pm_loop (lsf := fun s : Int32 × pmM => [.ref l0, .ref l1, .ref l2, .int s.1, pmU]) (mf := fun s : Int32 × pmM => s.2) (fun again2 hag2 s2 => by
    unfold X4_seekFewest_L2
    refine pm_iload_n dX4_seekFewest_2 rfl rfl ?_
    refine pm_bipush (v := 26) dX4_seekFewest_3 kb_26 ?_
    refine pm_icmp_ge (tgt := 30) dX4_seekFewest_5 rfl ?_ ?_
    · refine pm_aload_n dX4_seekFewest_30 rfl rfl ?_
      refine fg_4_3 (y := zX4_seekFewest) (Or.inl tw_422) dX4_seekFewest_31 (fun r1 => ?_)
      refine pm_iconst (v := 0) dX4_seekFewest_34 ki_0 ?_
      refine pm_iconst (v := 0) dX4_seekFewest_35 ki_0 ?_
      refine pm_iast (y := zX4_seekFewest) dX4_seekFewest_36 (fun m2 => ?_)
      refine pm_aload_n dX4_seekFewest_37 rfl rfl ?_
      refine fg_4_4 (y := zX4_seekFewest) (Or.inl tw_423) dX4_seekFewest_38 (fun r3 => ?_)
      refine pm_iconst (v := 0) dX4_seekFewest_41 ki_0 ?_
      refine pm_lconst (v := 1) dX4_seekFewest_42 kl_1 ?_
      refine pm_last (y := zX4_seekFewest) dX4_seekFewest_43 (fun m4 => ?_)
      refine pm_iconst (v := 0) dX4_seekFewest_44 ki_0 ?_
      refine pm_istore_n (ls2 := [.ref l0, .ref l1, .ref l2, .int 0, pmU]) dX4_seekFewest_45 rfl rfl (Nat.le_of_ble_eq_true rfl) rfl ?_
      exact gX4_seekFewest_L46 hfl l0 l1 l2 pm_N (0, m4)
    · refine pm_aload_n dX4_seekFewest_8 rfl rfl ?_
      refine fg_4_3 (y := zX4_seekFewest) (Or.inl tw_422) dX4_seekFewest_9 (fun r20 => ?_)
      refine pm_iload_n dX4_seekFewest_12 rfl rfl ?_
      refine pm_sipush (v := 1000) dX4_seekFewest_13 ks_1000 ?_
      refine pm_iast (y := zX4_seekFewest) dX4_seekFewest_16 (fun m21 => ?_)
      refine pm_aload_n dX4_seekFewest_17 rfl rfl ?_
      refine fg_4_4 (y := zX4_seekFewest) (Or.inl tw_423) dX4_seekFewest_18 (fun r22 => ?_)
      refine pm_iload_n dX4_seekFewest_21 rfl rfl ?_
      refine pm_lconst (v := 0) dX4_seekFewest_22 kl_0 ?_
      refine pm_last (y := zX4_seekFewest) dX4_seekFewest_23 (fun m23 => ?_)
      refine pm_iincn (y := zX4_seekFewest) dX4_seekFewest_24 rfl ki_1 rfl (Nat.le_of_ble_eq_true rfl) (fun x24 => ?_)
      refine pm_eqls (ls2 := [.ref l0, .ref l1, .ref l2, .int x24, pmU]) rfl ?_
      refine pm_goto (tgt := 2) dX4_seekFewest_27 rfl ?_
      exact hag2 (x24, m23))
set_option maxRecDepth 100000 in
set_option maxHeartbeats 4000000 in
theorem kcX4_seekFewest (hfl : l.flags = flags0) (a0 : Nat) (a1 : Nat) (a2 : Nat) (m : pmM) : pm_C l Γ zX4_seekFewest (d + 2) [.ref a0, .ref a1, .ref a2] m (X4_seekFewest a0 a1 a2 m) := by
  refine pm_enter (ls := [.ref a0, .ref a1, .ref a2, pmU, pmU]) hfl (by decide +kernel) rfl (Nat.le_of_ble_eq_true rfl) rfl (Nat.le_of_ble_eq_true rfl) ?_
  unfold X4_seekFewest
  refine pm_iconst (v := 0) dX4_seekFewest_0 ki_0 ?_
  refine pm_istore_n (ls2 := [.ref a0, .ref a1, .ref a2, .int 0, pmU]) dX4_seekFewest_1 rfl rfl (Nat.le_of_ble_eq_true rfl) rfl ?_
  exact gX4_seekFewest_L2 hfl a0 a1 a2 pm_N (0, m)
-- StruckPage$Search.foundFewest(I)I
def X4_foundFewest_j26 (t0 : Int32) (m : pmM) : pmR := pm_oI t0 m
def X4_foundFewest (a0 : Nat) (a1 : Int32) (m : pmM) : pmR := pm_gR 4 a0 3 m fun r1 => pm_ld 100 r1 ((2 : Int32) * a1) m fun x2 => if (1000 : Int32) ≤ x2 then (X4_foundFewest_j26 (-1) m) else (pm_gR 4 a0 3 m fun r3 => pm_ld 100 r3 ((2 : Int32) * a1) m fun x4 => X4_foundFewest_j26 x4 m)
set_option maxRecDepth 100000 in
set_option maxHeartbeats 4000000 in
theorem gX4_foundFewest_j26 (hfl : l.flags = flags0) (t0 : Int32) (m : pmM) : pm_G l Γ zX4_foundFewest (d + 0) 26 [pmU, pmU] [.int t0] m (X4_foundFewest_j26 t0 m) := by
  unfold X4_foundFewest_j26
  exact pm_iret rfl dX4_foundFewest_26
set_option maxRecDepth 100000 in
set_option maxHeartbeats 4000000 in
theorem kcX4_foundFewest (hfl : l.flags = flags0) (a0 : Nat) (a1 : Int32) (m : pmM) : pm_C l Γ zX4_foundFewest (d + 0) [.ref a0, .int a1] m (X4_foundFewest a0 a1 m) := by
  refine pm_enter (ls := [.ref a0, .int a1]) hfl (by decide +kernel) rfl (Nat.le_of_ble_eq_true rfl) rfl (Nat.le_of_ble_eq_true rfl) ?_
  unfold X4_foundFewest
  refine pm_aload_n dX4_foundFewest_0 rfl rfl ?_
  refine fg_4_3 (y := zX4_foundFewest) (Or.inl tw_422) dX4_foundFewest_1 (fun r1 => ?_)
  refine pm_iconst (v := 2) dX4_foundFewest_4 ki_2 ?_
  refine pm_iload_n dX4_foundFewest_5 rfl rfl ?_
  refine pm_imul dX4_foundFewest_6 ?_
  refine pm_iald (y := zX4_foundFewest) dX4_foundFewest_7 (fun x2 => ?_)
  refine pm_sipush (v := 1000) dX4_foundFewest_8 ks_1000 ?_
  refine pm_icmp_ge (tgt := 25) dX4_foundFewest_11 rfl ?_ ?_
  · refine pm_iconst (v := (-1)) dX4_foundFewest_25 ki_n1 ?_
    refine pm_drop (ls2 := [pmU, pmU]) (Nat.le_refl _) (pm_le_spec (pm_le_u (pm_le_u (pm_le_n)))) ?_
    exact gX4_foundFewest_j26 hfl (-1) m
  · refine pm_aload_n dX4_foundFewest_14 rfl rfl ?_
    refine fg_4_3 (y := zX4_foundFewest) (Or.inl tw_422) dX4_foundFewest_15 (fun r3 => ?_)
    refine pm_iconst (v := 2) dX4_foundFewest_18 ki_2 ?_
    refine pm_iload_n dX4_foundFewest_19 rfl rfl ?_
    refine pm_imul dX4_foundFewest_20 ?_
    refine pm_iald (y := zX4_foundFewest) dX4_foundFewest_21 (fun x4 => ?_)
    refine pm_goto (tgt := 26) dX4_foundFewest_22 rfl ?_
    refine pm_drop (ls2 := [pmU, pmU]) (Nat.le_refl _) (pm_le_spec (pm_le_u (pm_le_u (pm_le_n)))) ?_
    exact gX4_foundFewest_j26 hfl x4 m
-- StruckPage$Search.foundMany(I)J
def X4_foundMany_j26 (t0 : Int64) (m : pmM) : pmR := pm_oL t0 m
def X4_foundMany (a0 : Nat) (a1 : Int32) (m : pmM) : pmR := pm_gR 4 a0 3 m fun r1 => pm_ld 100 r1 ((2 : Int32) * a1) m fun x2 => if (1000 : Int32) ≤ x2 then (X4_foundMany_j26 0 m) else (pm_gR 4 a0 4 m fun r3 => pm_ldL r3 ((2 : Int32) * a1) m fun x4 => X4_foundMany_j26 x4 m)
set_option maxRecDepth 100000 in
set_option maxHeartbeats 4000000 in
theorem gX4_foundMany_j26 (hfl : l.flags = flags0) (t0 : Int64) (m : pmM) : pm_G l Γ zX4_foundMany (d + 0) 26 [pmU, pmU] [.long t0] m (X4_foundMany_j26 t0 m) := by
  unfold X4_foundMany_j26
  exact pm_lret rfl dX4_foundMany_26
set_option maxRecDepth 100000 in
set_option maxHeartbeats 4000000 in
theorem kcX4_foundMany (hfl : l.flags = flags0) (a0 : Nat) (a1 : Int32) (m : pmM) : pm_C l Γ zX4_foundMany (d + 0) [.ref a0, .int a1] m (X4_foundMany a0 a1 m) := by
  refine pm_enter (ls := [.ref a0, .int a1]) hfl (by decide +kernel) rfl (Nat.le_of_ble_eq_true rfl) rfl (Nat.le_of_ble_eq_true rfl) ?_
  unfold X4_foundMany
  refine pm_aload_n dX4_foundMany_0 rfl rfl ?_
  refine fg_4_3 (y := zX4_foundMany) (Or.inl tw_422) dX4_foundMany_1 (fun r1 => ?_)
  refine pm_iconst (v := 2) dX4_foundMany_4 ki_2 ?_
  refine pm_iload_n dX4_foundMany_5 rfl rfl ?_
  refine pm_imul dX4_foundMany_6 ?_
  refine pm_iald (y := zX4_foundMany) dX4_foundMany_7 (fun x2 => ?_)
  refine pm_sipush (v := 1000) dX4_foundMany_8 ks_1000 ?_
  refine pm_icmp_ge (tgt := 25) dX4_foundMany_11 rfl ?_ ?_
  · refine pm_lconst (v := 0) dX4_foundMany_25 kl_0 ?_
    refine pm_drop (ls2 := [pmU, pmU]) (Nat.le_refl _) (pm_le_spec (pm_le_u (pm_le_u (pm_le_n)))) ?_
    exact gX4_foundMany_j26 hfl 0 m
  · refine pm_aload_n dX4_foundMany_14 rfl rfl ?_
    refine fg_4_4 (y := zX4_foundMany) (Or.inl tw_423) dX4_foundMany_15 (fun r3 => ?_)
    refine pm_iconst (v := 2) dX4_foundMany_18 ki_2 ?_
    refine pm_iload_n dX4_foundMany_19 rfl rfl ?_
    refine pm_imul dX4_foundMany_20 ?_
    refine pm_lald (y := zX4_foundMany) dX4_foundMany_21 (fun x4 => ?_)
    refine pm_goto (tgt := 26) dX4_foundMany_22 rfl ?_
    refine pm_drop (ls2 := [pmU, pmU]) (Nat.le_refl _) (pm_le_spec (pm_le_u (pm_le_u (pm_le_n)))) ?_
    exact gX4_foundMany_j26 hfl x4 m
-- StruckPage$Search.passInBoth(LStruckPage$Desk;II)V
def X4_passInBoth_j56 (again6 : (Int32 × Int32 × pmM) → pmR) (l0 : Nat) (l1 : Nat) (l2 : Int32) (l3 : Int32) (l5 : Int32) (l6 : Int32) (t0 : Int32) (m : pmM) : pmR := pm_gR 4 l0 5 m fun r5 => pm_gR 4 l0 5 m fun r6 => pm_ld 100 r6 l5 m fun x7 => pm_st 100 r5 (l5 + 1) (if t0 < (if l6 < x7 then x7 else l6) then (if l6 < x7 then x7 else l6) else t0) m fun m8 => pm_bI (l5 + 1) fun x9 => again6 (l6, x9, m8)
def X4_passInBoth_j55 (again6 : (Int32 × Int32 × pmM) → pmR) (l0 : Nat) (l1 : Nat) (l2 : Int32) (l3 : Int32) (l5 : Int32) (l6 : Int32) (m : pmM) : pmR := X4_passInBoth_j56 again6 l0 l1 l2 l3 l5 l6 0 m
def X4_passInBoth_L6 (l0 : Nat) (l1 : Nat) (l2 : Int32) (l3 : Int32) (again6 : (Int32 × Int32 × pmM) → pmR) (s6 : Int32 × Int32 × pmM) : pmR := if (8 : Int32) ≤ s6.2.1 then (pm_oV s6.2.2) else (pm_gR 4 l0 5 s6.2.2 fun r1 => pm_ld 100 r1 (s6.2.1 + 1) s6.2.2 fun x2 => pm_rc 0 l1 s6.2.2 <| pm_cI (X0_isLeft l1 l3 s6.2.1 s6.2.2) fun x4 m3 => if x4 = 0 then (X4_passInBoth_j55 again6 l0 l1 l2 l3 s6.2.1 x2 m3) else (pm_gR 4 l0 0 m3 fun r10 => pm_rc 2 r10 m3 <| pm_cI (X2_wordAt r10 l3 s6.2.1 m3) fun x12 m11 => if x12 = l2 then (X4_passInBoth_j56 again6 l0 l1 l2 l3 s6.2.1 x2 (s6.1 + 1) m11) else (X4_passInBoth_j55 again6 l0 l1 l2 l3 s6.2.1 x2 m11)))
def X4_passInBoth (a0 : Nat) (a1 : Nat) (a2 : Int32) (a3 : Int32) (m : pmM) : pmR := pm_lp pm_N (X4_passInBoth_L6 a0 a1 a2 a3) (0, 0, m)
set_option maxRecDepth 100000 in
set_option maxHeartbeats 4000000 in
theorem gX4_passInBoth_j56 (hfl : l.flags = flags0) (again6 : (Int32 × Int32 × pmM) → pmR) (l0 : Nat) (l1 : Nat) (l2 : Int32) (l3 : Int32) (l5 : Int32) (l6 : Int32) (t0 : Int32) (m : pmM) (hag6 : ∀ s : Int32 × Int32 × pmM, pm_G l Γ zX4_passInBoth (d + 2) 6 [.ref l0, .ref l1, .int l2, .int l3, .int s.1, .int s.2.1, pmU, pmU] [] s.2.2 (again6 s)) : pm_G l Γ zX4_passInBoth (d + 2) 56 [.ref l0, .ref l1, .int l2, .int l3, pmU, .int l5, .int l6, pmU] [.int t0] m (X4_passInBoth_j56 again6 l0 l1 l2 l3 l5 l6 t0 m) := by
  unfold X4_passInBoth_j56
  refine pm_istore (ls2 := [.ref l0, .ref l1, .int l2, .int l3, pmU, .int l5, .int l6, .int t0]) dX4_passInBoth_56 rfl (Nat.le_of_ble_eq_true rfl) rfl ?_
  refine pm_aload_n dX4_passInBoth_58 rfl rfl ?_
  refine fg_4_5 (y := zX4_passInBoth) (Or.inl tw_424) dX4_passInBoth_59 (fun r5 => ?_)
  refine pm_iload dX4_passInBoth_62 rfl ?_
  refine pm_iconst (v := 1) dX4_passInBoth_64 ki_1 ?_
  refine pm_iadd dX4_passInBoth_65 ?_
  refine pm_iload dX4_passInBoth_66 rfl ?_
  refine pm_iload dX4_passInBoth_68 rfl ?_
  refine pm_aload_n dX4_passInBoth_70 rfl rfl ?_
  refine fg_4_5 (y := zX4_passInBoth) (Or.inl tw_424) dX4_passInBoth_71 (fun r6 => ?_)
  refine pm_iload dX4_passInBoth_74 rfl ?_
  refine pm_iald (y := zX4_passInBoth) dX4_passInBoth_76 (fun x7 => ?_)
  refine pm_max (y := zX4_passInBoth) tw_1252 tw_593 tw_171 tw_594 dX4_passInBoth_77 (Nat.le_of_ble_eq_true rfl) ?_
  refine pm_max (y := zX4_passInBoth) tw_1252 tw_593 tw_171 tw_594 dX4_passInBoth_80 (Nat.le_of_ble_eq_true rfl) ?_
  refine pm_iast (y := zX4_passInBoth) dX4_passInBoth_83 (fun m8 => ?_)
  refine pm_iload dX4_passInBoth_84 rfl ?_
  refine pm_istore (ls2 := [.ref l0, .ref l1, .int l2, .int l3, .int l6, .int l5, .int l6, .int t0]) dX4_passInBoth_86 rfl (Nat.le_of_ble_eq_true rfl) rfl ?_
  refine pm_iincn (y := zX4_passInBoth) dX4_passInBoth_88 rfl ki_1 rfl (Nat.le_of_ble_eq_true rfl) (fun x9 => ?_)
  refine pm_eqls (ls2 := [.ref l0, .ref l1, .int l2, .int l3, .int l6, .int x9, .int l6, .int t0]) rfl ?_
  refine pm_goto (tgt := 6) dX4_passInBoth_91 rfl ?_
  refine pm_drop (ls2 := [.ref l0, .ref l1, .int l2, .int l3, .int l6, .int x9, pmU, pmU]) (Nat.le_refl _) (pm_le_spec (pm_le_v (pm_le_v (pm_le_v (pm_le_v (pm_le_v (pm_le_v (pm_le_u (pm_le_u (pm_le_n)))))))))) ?_
  exact hag6 (l6, x9, m8)
set_option maxRecDepth 100000 in
set_option maxHeartbeats 4000000 in
theorem gX4_passInBoth_j55 (hfl : l.flags = flags0) (again6 : (Int32 × Int32 × pmM) → pmR) (l0 : Nat) (l1 : Nat) (l2 : Int32) (l3 : Int32) (l5 : Int32) (l6 : Int32) (m : pmM) (hag6 : ∀ s : Int32 × Int32 × pmM, pm_G l Γ zX4_passInBoth (d + 2) 6 [.ref l0, .ref l1, .int l2, .int l3, .int s.1, .int s.2.1, pmU, pmU] [] s.2.2 (again6 s)) : pm_G l Γ zX4_passInBoth (d + 2) 55 [.ref l0, .ref l1, .int l2, .int l3, pmU, .int l5, .int l6, pmU] [] m (X4_passInBoth_j55 again6 l0 l1 l2 l3 l5 l6 m) := by
  unfold X4_passInBoth_j55
  refine pm_iconst (v := 0) dX4_passInBoth_55 ki_0 ?_
  exact gX4_passInBoth_j56 hfl again6 l0 l1 l2 l3 l5 l6 0 m hag6
set_option maxRecDepth 100000 in
set_option maxHeartbeats 4000000 in
theorem gX4_passInBoth_L6 (hfl : l.flags = flags0) (l0 : Nat) (l1 : Nat) (l2 : Int32) (l3 : Int32) : ∀ (n : Nat) (s : Int32 × Int32 × pmM), pm_G l Γ zX4_passInBoth (d + 2) 6 [.ref l0, .ref l1, .int l2, .int l3, .int s.1, .int s.2.1, pmU, pmU] [] s.2.2 (pm_lp n (X4_passInBoth_L6 l0 l1 l2 l3) s) :=
  pm_loop (lsf := fun s : Int32 × Int32 × pmM => [.ref l0, .ref l1, .int l2, .int l3, .int s.1, .int s.2.1, pmU, pmU]) (mf := fun s : Int32 × Int32 × pmM => s.2.2) (fun again6 hag6 s6 => by
    unfold X4_passInBoth_L6
    refine pm_iload dX4_passInBoth_6 rfl ?_
    refine pm_bipush (v := 8) dX4_passInBoth_8 kb_8 ?_
    refine pm_icmp_ge (tgt := 94) dX4_passInBoth_10 rfl ?_ ?_
    · exact pm_vret rfl dX4_passInBoth_94
    · refine pm_aload_n dX4_passInBoth_13 rfl rfl ?_
      refine fg_4_5 (y := zX4_passInBoth) (Or.inl tw_424) dX4_passInBoth_14 (fun r1 => ?_)
      refine pm_iload dX4_passInBoth_17 rfl ?_
      refine pm_iconst (v := 1) dX4_passInBoth_19 ki_1 ?_
      refine pm_iadd dX4_passInBoth_20 ?_
      refine pm_iald (y := zX4_passInBoth) dX4_passInBoth_21 (fun x2 => ?_)
      refine pm_istore (ls2 := [.ref l0, .ref l1, .int l2, .int l3, .int s6.1, .int s6.2.1, .int x2, pmU]) dX4_passInBoth_22 rfl (Nat.le_of_ble_eq_true rfl) rfl ?_
      refine pm_aload_n dX4_passInBoth_24 rfl rfl ?_
      refine pm_iload_n dX4_passInBoth_25 rfl rfl ?_
      refine pm_iload dX4_passInBoth_26 rfl ?_
      refine pm_rcv (fun hb9 hc9 => ?_)
      refine pm_kI (d := d + 1) rfl (pm_VN (y := zX4_passInBoth) (z := zX0_isLeft) (As := [.int l3, .int s6.2.1]) zkX0_isLeft pm_q0 (by decide) tw_636 tw_638 tw_23 dX4_passInBoth_28 rfl rfl (Nat.le_of_ble_eq_true rfl) hb9 hc9) (kcX0_isLeft (d := d + 0) hfl l1 l3 s6.2.1 s6.2.2) (fun x4 m3 => ?_)
      refine pm_if_eq (tgt := 55) dX4_passInBoth_31 rfl ?_ ?_
      · refine pm_drop (ls2 := [.ref l0, .ref l1, .int l2, .int l3, pmU, .int s6.2.1, .int x2, pmU]) (Nat.le_refl _) (pm_le_spec (pm_le_v (pm_le_v (pm_le_v (pm_le_v (pm_le_u (pm_le_v (pm_le_v (pm_le_u (pm_le_n)))))))))) ?_
        exact gX4_passInBoth_j55 hfl again6 l0 l1 l2 l3 s6.2.1 x2 m3 hag6
      · refine pm_aload_n dX4_passInBoth_34 rfl rfl ?_
        refine fg_4_0 (y := zX4_passInBoth) (Or.inl tw_419) dX4_passInBoth_35 (fun r10 => ?_)
        refine pm_iload_n dX4_passInBoth_38 rfl rfl ?_
        refine pm_iload dX4_passInBoth_39 rfl ?_
        refine pm_rcv (fun hb9 hc9 => ?_)
        refine pm_kI (d := d + 1) rfl (pm_VN (y := zX4_passInBoth) (z := zX2_wordAt) (As := [.int l3, .int s6.2.1]) zkX2_wordAt pm_q2 (by decide) tw_627 tw_579 tw_13 dX4_passInBoth_41 rfl rfl (Nat.le_of_ble_eq_true rfl) hb9 hc9) (kcX2_wordAt (d := d + 1) hfl r10 l3 s6.2.1 m3) (fun x12 m11 => ?_)
        refine pm_iload_n dX4_passInBoth_44 rfl rfl ?_
        refine pm_icmp_ne (tgt := 55) dX4_passInBoth_45 rfl ?_ ?_
        · refine pm_drop (ls2 := [.ref l0, .ref l1, .int l2, .int l3, pmU, .int s6.2.1, .int x2, pmU]) (Nat.le_refl _) (pm_le_spec (pm_le_v (pm_le_v (pm_le_v (pm_le_v (pm_le_u (pm_le_v (pm_le_v (pm_le_u (pm_le_n)))))))))) ?_
          exact gX4_passInBoth_j55 hfl again6 l0 l1 l2 l3 s6.2.1 x2 m11 hag6
        · refine pm_iload dX4_passInBoth_48 rfl ?_
          refine pm_iconst (v := 1) dX4_passInBoth_50 ki_1 ?_
          refine pm_iadd dX4_passInBoth_51 ?_
          refine pm_goto (tgt := 56) dX4_passInBoth_52 rfl ?_
          refine pm_drop (ls2 := [.ref l0, .ref l1, .int l2, .int l3, pmU, .int s6.2.1, .int x2, pmU]) (Nat.le_refl _) (pm_le_spec (pm_le_v (pm_le_v (pm_le_v (pm_le_v (pm_le_u (pm_le_v (pm_le_v (pm_le_u (pm_le_n)))))))))) ?_
          exact gX4_passInBoth_j56 hfl again6 l0 l1 l2 l3 s6.2.1 x2 (s6.1 + 1) m11 hag6)
set_option maxRecDepth 100000 in
set_option maxHeartbeats 4000000 in
theorem kcX4_passInBoth (hfl : l.flags = flags0) (a0 : Nat) (a1 : Nat) (a2 : Int32) (a3 : Int32) (m : pmM) : pm_C l Γ zX4_passInBoth (d + 2) [.ref a0, .ref a1, .int a2, .int a3] m (X4_passInBoth a0 a1 a2 a3 m) := by
  refine pm_enter (ls := [.ref a0, .ref a1, .int a2, .int a3, pmU, pmU, pmU, pmU]) hfl (by decide +kernel) rfl (Nat.le_of_ble_eq_true rfl) rfl (Nat.le_of_ble_eq_true rfl) ?_
  unfold X4_passInBoth
  refine pm_iconst (v := 0) dX4_passInBoth_0 ki_0 ?_
  refine pm_istore (ls2 := [.ref a0, .ref a1, .int a2, .int a3, .int 0, pmU, pmU, pmU]) dX4_passInBoth_1 rfl (Nat.le_of_ble_eq_true rfl) rfl ?_
  refine pm_iconst (v := 0) dX4_passInBoth_3 ki_0 ?_
  refine pm_istore (ls2 := [.ref a0, .ref a1, .int a2, .int a3, .int 0, .int 0, pmU, pmU]) dX4_passInBoth_4 rfl (Nat.le_of_ble_eq_true rfl) rfl ?_
  exact gX4_passInBoth_L6 hfl a0 a1 a2 a3 pm_N (0, 0, m)
-- StruckPage$Search.longestInBoth(LStruckPage$Desk;II)I
def X4_longestInBoth_j60 (again27 : (Int32 × pmM) → pmR) (l0 : Nat) (l1 : Nat) (l2 : Int32) (l3 : Int32) (l4 : Int32) (m : pmM) : pmR := pm_bI (l4 + 1) fun x5 => again27 (x5, m)
def X4_longestInBoth_L27 (l0 : Nat) (l1 : Nat) (l2 : Int32) (l3 : Int32) (again27 : (Int32 × pmM) → pmR) (s27 : Int32 × pmM) : pmR := if (8 : Int32) ≤ s27.1 then (pm_gR 4 l0 5 s27.2 fun r1 => pm_ld 100 r1 8 s27.2 fun x2 => pm_oI x2 s27.2) else (pm_rc 0 l1 s27.2 <| pm_cI (X0_isLeft l1 l2 s27.1 s27.2) fun x4 m3 => if x4 = 0 then (X4_longestInBoth_j60 again27 l0 l1 l2 l3 s27.1 m3) else (pm_gR 4 l0 0 m3 fun r6 => pm_rc 2 r6 m3 <| pm_cI (X2_wordAt r6 l2 s27.1 m3) fun x8 m7 => pm_rc 4 l0 m7 <| pm_cV (X4_passInBoth l0 l1 x8 l3 m7) fun m9 => X4_longestInBoth_j60 again27 l0 l1 l2 l3 s27.1 m9))
def X4_longestInBoth_L3 (l0 : Nat) (l1 : Nat) (l2 : Int32) (l3 : Int32) (again3 : (Int32 × pmM) → pmR) (s3 : Int32 × pmM) : pmR := if (8 : Int32) < s3.1 then (pm_lp pm_N (X4_longestInBoth_L27 l0 l1 l2 l3) (0, s3.2)) else (pm_gR 4 l0 5 s3.2 fun r10 => pm_st 100 r10 s3.1 0 s3.2 fun m11 => pm_bI (s3.1 + 1) fun x12 => again3 (x12, m11))
def X4_longestInBoth (a0 : Nat) (a1 : Nat) (a2 : Int32) (a3 : Int32) (m : pmM) : pmR := pm_lp pm_N (X4_longestInBoth_L3 a0 a1 a2 a3) (0, m)
set_option maxRecDepth 100000 in
set_option maxHeartbeats 4000000 in
theorem gX4_longestInBoth_j60 (hfl : l.flags = flags0) (again27 : (Int32 × pmM) → pmR) (l0 : Nat) (l1 : Nat) (l2 : Int32) (l3 : Int32) (l4 : Int32) (m : pmM) (hag27 : ∀ s : Int32 × pmM, pm_G l Γ zX4_longestInBoth (d + 3) 27 [.ref l0, .ref l1, .int l2, .int l3, .int s.1] [] s.2 (again27 s)) : pm_G l Γ zX4_longestInBoth (d + 3) 60 [.ref l0, .ref l1, .int l2, .int l3, .int l4] [] m (X4_longestInBoth_j60 again27 l0 l1 l2 l3 l4 m) := by
  unfold X4_longestInBoth_j60
  refine pm_iincn (y := zX4_longestInBoth) dX4_longestInBoth_60 rfl ki_1 rfl (Nat.le_of_ble_eq_true rfl) (fun x5 => ?_)
  refine pm_eqls (ls2 := [.ref l0, .ref l1, .int l2, .int l3, .int x5]) rfl ?_
  refine pm_goto (tgt := 27) dX4_longestInBoth_63 rfl ?_
  exact hag27 (x5, m)
set_option maxRecDepth 100000 in
set_option maxHeartbeats 4000000 in
theorem gX4_longestInBoth_L27 (hfl : l.flags = flags0) (l0 : Nat) (l1 : Nat) (l2 : Int32) (l3 : Int32) : ∀ (n : Nat) (s : Int32 × pmM), pm_G l Γ zX4_longestInBoth (d + 3) 27 [.ref l0, .ref l1, .int l2, .int l3, .int s.1] [] s.2 (pm_lp n (X4_longestInBoth_L27 l0 l1 l2 l3) s) :=
  pm_loop (lsf := fun s : Int32 × pmM => [.ref l0, .ref l1, .int l2, .int l3, .int s.1]) (mf := fun s : Int32 × pmM => s.2) (fun again27 hag27 s27 => by
    unfold X4_longestInBoth_L27
    refine pm_iload dX4_longestInBoth_27 rfl ?_
    refine pm_bipush (v := 8) dX4_longestInBoth_29 kb_8 ?_
    refine pm_icmp_ge (tgt := 66) dX4_longestInBoth_31 rfl ?_ ?_
    · refine pm_aload_n dX4_longestInBoth_66 rfl rfl ?_
      refine fg_4_5 (y := zX4_longestInBoth) (Or.inl tw_424) dX4_longestInBoth_67 (fun r1 => ?_)
      refine pm_bipush (v := 8) dX4_longestInBoth_70 kb_8 ?_
      refine pm_iald (y := zX4_longestInBoth) dX4_longestInBoth_72 (fun x2 => ?_)
      exact pm_iret rfl dX4_longestInBoth_73
    · refine pm_aload_n dX4_longestInBoth_34 rfl rfl ?_
      refine pm_iload_n dX4_longestInBoth_35 rfl rfl ?_
      refine pm_iload dX4_longestInBoth_36 rfl ?_
      refine pm_rcv (fun hb9 hc9 => ?_)
      refine pm_kI (d := d + 2) rfl (pm_VN (y := zX4_longestInBoth) (z := zX0_isLeft) (As := [.int l2, .int s27.1]) zkX0_isLeft pm_q0 (by decide) tw_636 tw_638 tw_23 dX4_longestInBoth_38 rfl rfl (Nat.le_of_ble_eq_true rfl) hb9 hc9) (kcX0_isLeft (d := d + 1) hfl l1 l2 s27.1 s27.2) (fun x4 m3 => ?_)
      refine pm_if_eq (tgt := 60) dX4_longestInBoth_41 rfl ?_ ?_
      · exact gX4_longestInBoth_j60 hfl again27 l0 l1 l2 l3 s27.1 m3 hag27
      · refine pm_aload_n dX4_longestInBoth_44 rfl rfl ?_
        refine pm_aload_n dX4_longestInBoth_45 rfl rfl ?_
        refine pm_aload_n dX4_longestInBoth_46 rfl rfl ?_
        refine fg_4_0 (y := zX4_longestInBoth) (Or.inl tw_419) dX4_longestInBoth_47 (fun r6 => ?_)
        refine pm_iload_n dX4_longestInBoth_50 rfl rfl ?_
        refine pm_iload dX4_longestInBoth_51 rfl ?_
        refine pm_rcv (fun hb9 hc9 => ?_)
        refine pm_kI (d := d + 2) rfl (pm_VN (y := zX4_longestInBoth) (z := zX2_wordAt) (As := [.int l2, .int s27.1]) zkX2_wordAt pm_q2 (by decide) tw_627 tw_579 tw_13 dX4_longestInBoth_53 rfl rfl (Nat.le_of_ble_eq_true rfl) hb9 hc9) (kcX2_wordAt (d := d + 2) hfl r6 l2 s27.1 m3) (fun x8 m7 => ?_)
        refine pm_iload_n dX4_longestInBoth_56 rfl rfl ?_
        refine pm_rcv (fun hb9 hc9 => ?_)
        refine pm_kV (d := d + 2) rfl (pm_V (y := zX4_longestInBoth) (z := zX4_passInBoth) (As := [.ref l1, .int x8, .int l3]) zkX4_passInBoth pm_q4 (by decide) tw_1248 tw_1250 tw_91 dX4_longestInBoth_57 rfl rfl (Nat.le_of_ble_eq_true rfl) hb9 hc9) (kcX4_passInBoth (d := d + 0) hfl l0 l1 x8 l3 m7) (fun m9 => ?_)
        exact gX4_longestInBoth_j60 hfl again27 l0 l1 l2 l3 s27.1 m9 hag27)
set_option maxRecDepth 100000 in
set_option maxHeartbeats 4000000 in
theorem gX4_longestInBoth_L3 (hfl : l.flags = flags0) (l0 : Nat) (l1 : Nat) (l2 : Int32) (l3 : Int32) : ∀ (n : Nat) (s : Int32 × pmM), pm_G l Γ zX4_longestInBoth (d + 3) 3 [.ref l0, .ref l1, .int l2, .int l3, .int s.1] [] s.2 (pm_lp n (X4_longestInBoth_L3 l0 l1 l2 l3) s) :=
  pm_loop (lsf := fun s : Int32 × pmM => [.ref l0, .ref l1, .int l2, .int l3, .int s.1]) (mf := fun s : Int32 × pmM => s.2) (fun again3 hag3 s3 => by
    unfold X4_longestInBoth_L3
    refine pm_iload dX4_longestInBoth_3 rfl ?_
    refine pm_bipush (v := 8) dX4_longestInBoth_5 kb_8 ?_
    refine pm_icmp_gt (tgt := 24) dX4_longestInBoth_7 rfl ?_ ?_
    · refine pm_iconst (v := 0) dX4_longestInBoth_24 ki_0 ?_
      refine pm_istore (ls2 := [.ref l0, .ref l1, .int l2, .int l3, .int 0]) dX4_longestInBoth_25 rfl (Nat.le_of_ble_eq_true rfl) rfl ?_
      exact gX4_longestInBoth_L27 hfl l0 l1 l2 l3 pm_N (0, s3.2)
    · refine pm_aload_n dX4_longestInBoth_10 rfl rfl ?_
      refine fg_4_5 (y := zX4_longestInBoth) (Or.inl tw_424) dX4_longestInBoth_11 (fun r10 => ?_)
      refine pm_iload dX4_longestInBoth_14 rfl ?_
      refine pm_iconst (v := 0) dX4_longestInBoth_16 ki_0 ?_
      refine pm_iast (y := zX4_longestInBoth) dX4_longestInBoth_17 (fun m11 => ?_)
      refine pm_iincn (y := zX4_longestInBoth) dX4_longestInBoth_18 rfl ki_1 rfl (Nat.le_of_ble_eq_true rfl) (fun x12 => ?_)
      refine pm_eqls (ls2 := [.ref l0, .ref l1, .int l2, .int l3, .int x12]) rfl ?_
      refine pm_goto (tgt := 3) dX4_longestInBoth_21 rfl ?_
      exact hag3 (x12, m11))
set_option maxRecDepth 100000 in
set_option maxHeartbeats 4000000 in
theorem kcX4_longestInBoth (hfl : l.flags = flags0) (a0 : Nat) (a1 : Nat) (a2 : Int32) (a3 : Int32) (m : pmM) : pm_C l Γ zX4_longestInBoth (d + 3) [.ref a0, .ref a1, .int a2, .int a3] m (X4_longestInBoth a0 a1 a2 a3 m) := by
  refine pm_enter (ls := [.ref a0, .ref a1, .int a2, .int a3, pmU]) hfl (by decide +kernel) rfl (Nat.le_of_ble_eq_true rfl) rfl (Nat.le_of_ble_eq_true rfl) ?_
  unfold X4_longestInBoth
  refine pm_iconst (v := 0) dX4_longestInBoth_0 ki_0 ?_
  refine pm_istore (ls2 := [.ref a0, .ref a1, .int a2, .int a3, .int 0]) dX4_longestInBoth_1 rfl (Nat.le_of_ble_eq_true rfl) rfl ?_
  exact gX4_longestInBoth_L3 hfl a0 a1 a2 a3 pm_N (0, m)
end GEN6
