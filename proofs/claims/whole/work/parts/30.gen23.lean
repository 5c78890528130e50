section GEN23
variable {l : Launch} {Γ : pmG} {d : Nat}
-- StruckPageModel.laysStrokes()V
def X9_laysStrokes_L160 (again53 : (Int32 × pmM) → pmR) (l0 : Nat) (l1 : Int32) (l2 : Int32) (again160 : (Int32 × pmM) → pmR) (s160 : Int32 × pmM) : pmR := if (26 : Int32) ≤ s160.1 then (pm_bI (l2 + 1) fun x3 => again53 (x3, s160.2)) else (pm_gR 9 l0 43 s160.2 fun r4 => pm_gR 9 l0 44 s160.2 fun r5 => pm_ld 100 r5 s160.1 s160.2 fun x6 => pm_st 100 r4 s160.1 x6 s160.2 fun m7 => pm_gR 9 l0 45 m7 fun r8 => pm_gR 9 l0 46 m7 fun r9 => pm_ldL r9 s160.1 m7 fun x10 => pm_stL r8 s160.1 x10 m7 fun m11 => pm_bI (s160.1 + 1) fun x12 => again160 (x12, m11))
def X9_laysStrokes_j152 (again53 : (Int32 × pmM) → pmR) (again90 : (Int32 × pmM) → pmR) (l0 : Nat) (l1 : Int32) (l2 : Int32) (l3 : Int32) (m : pmM) : pmR := pm_bI (l3 + 1) fun x17 => again90 (x17, m)
def X9_laysStrokes_L90 (again53 : (Int32 × pmM) → pmR) (l0 : Nat) (l1 : Int32) (l2 : Int32) (again90 : (Int32 × pmM) → pmR) (s90 : Int32 × pmM) : pmR := if (26 : Int32) ≤ s90.1 then (pm_lp pm_N (X9_laysStrokes_L160 again53 l0 l1 l2) (0, s90.2)) else (pm_gR 9 l0 43 s90.2 fun r13 => pm_ld 100 r13 s90.1 s90.2 fun x14 => if x14 = 9999 then (X9_laysStrokes_j152 again53 again90 l0 l1 l2 s90.1 s90.2) else (pm_rc 9 l0 s90.2 <| pm_cV (X9_goesOver l0 l2 s90.1 0 s90.2) fun m15 => if (2 : Int32) = 0 then none else pm_gI 9 l0 33 m15 fun x16 => if x16 ≤ (s90.1 / 2) then (X9_laysStrokes_j152 again53 again90 l0 l1 l2 s90.1 m15) else (pm_gR 9 l0 25 m15 fun r18 => if (2 : Int32) = 0 then none else pm_ld 100 r18 (s90.1 / 2) m15 fun x19 => pm_gR 9 l0 40 m15 fun r20 => pm_ld 100 r20 l2 m15 fun x21 => if x19 = x21 then (pm_rc 9 l0 m15 <| pm_cV (X9_goesOver l0 l2 s90.1 1 m15) fun m22 => X9_laysStrokes_j152 again53 again90 l0 l1 l2 s90.1 m22) else (X9_laysStrokes_j152 again53 again90 l0 l1 l2 s90.1 m15))))
def X9_laysStrokes_L60 (again53 : (Int32 × pmM) → pmR) (l0 : Nat) (l1 : Int32) (l2 : Int32) (again60 : (Int32 × pmM) → pmR) (s60 : Int32 × pmM) : pmR := if (26 : Int32) ≤ s60.1 then (pm_lp pm_N (X9_laysStrokes_L90 again53 l0 l1 l2) (0, s60.2)) else (pm_gR 9 l0 44 s60.2 fun r23 => pm_st 100 r23 s60.1 9999 s60.2 fun m24 => pm_gR 9 l0 46 m24 fun r25 => pm_stL r25 s60.1 0 m24 fun m26 => pm_bI (s60.1 + 1) fun x27 => again60 (x27, m26))
def X9_laysStrokes_L53 (l0 : Nat) (l1 : Int32) (again53 : (Int32 × pmM) → pmR) (s53 : Int32 × pmM) : pmR := if l1 ≤ s53.1 then (pm_oV s53.2) else (pm_lp pm_N (X9_laysStrokes_L60 again53 l0 l1 s53.1) (0, s53.2))
def X9_laysStrokes_j44 (again7 : (Int32 × pmM) → pmR) (l0 : Nat) (l1 : Int32) (l2 : Int32) (t0 : Int64) (t1 : Int32) (t2 : Nat) (m : pmM) : pmR := pm_stL t2 t1 t0 m fun m31 => pm_bI (l2 + 1) fun x32 => again7 (x32, m31)
def X9_laysStrokes_j29 (again7 : (Int32 × pmM) → pmR) (l0 : Nat) (l1 : Int32) (l2 : Int32) (t0 : Int32) (t1 : Int32) (t2 : Nat) (m : pmM) : pmR := pm_st 100 t2 t1 t0 m fun m29 => pm_gR 9 l0 45 m29 fun r30 => if l2 = 0 then (X9_laysStrokes_j44 again7 l0 l1 l2 1 l2 r30 m29) else (X9_laysStrokes_j44 again7 l0 l1 l2 0 l2 r30 m29)
def X9_laysStrokes_L7 (l0 : Nat) (l1 : Int32) (again7 : (Int32 × pmM) → pmR) (s7 : Int32 × pmM) : pmR := if (26 : Int32) ≤ s7.1 then (pm_lp pm_N (X9_laysStrokes_L53 l0 l1) (0, s7.2)) else (pm_gR 9 l0 43 s7.2 fun r28 => if s7.1 = 0 then (X9_laysStrokes_j29 again7 l0 l1 s7.1 0 s7.1 r28 s7.2) else (X9_laysStrokes_j29 again7 l0 l1 s7.1 9999 s7.1 r28 s7.2))
def X9_laysStrokes (a0 : Nat) (m : pmM) : pmR := pm_rc 9 a0 m <| pm_cI (X9_laysPage a0 m) fun x2 m1 => pm_lp pm_N (X9_laysStrokes_L7 a0 x2) (0, m1)
set_option maxRecDepth 100000 in
set_option maxHeartbeats 4000000 in
theorem gX9_laysStrokes_L160 (hfl : l.flags = flags0) (again53 : (Int32 × pmM) → pmR) (l0 : Nat) (l1 : Int32) (l2 : Int32) (hag53 : ∀ s : Int32 × pmM, pm_G l Γ zX9_laysStrokes (d + 2) 53 [.ref l0, .int l1, .int s.1, pmU] [] s.2 (again53 s)) : ∀ (n : Nat) (s : Int32 × pmM), pm_G l Γ zX9_laysStrokes (d + 2) 160 [.ref l0, .int l1, .int l2, .int s.1] [] s.2 (pm_lp n (X9_laysStrokes_L160 again53 l0 l1 l2) s) :=
  pm_loop (lsf := fun s : Int32 × pmM => [.ref l0, .int l1, .int l2, .int s.1]) (mf := fun s : Int32 × pmM => s.2) (fun again160 hag160 s160 => by
    unfold X9_laysStrokes_L160
    refine pm_iload_n dX9_laysStrokes_160 rfl rfl ?_
    refine pm_bipush (v := 26) dX9_laysStrokes_161 kb_26 ?_
    refine pm_icmp_ge (tgt := 196) dX9_laysStrokes_163 rfl ?_ ?_
    · refine pm_iincn (y := zX9_laysStrokes) dX9_laysStrokes_196 rfl ki_1 rfl (Nat.le_of_ble_eq_true rfl) (fun x3 => ?_)
      refine pm_eqls (ls2 := [.ref l0, .int l1, .int x3, .int s160.1]) rfl ?_
      refine pm_goto (tgt := 53) dX9_laysStrokes_199 rfl ?_
      refine pm_drop (ls2 := [.ref l0, .int l1, .int x3, pmU]) (Nat.le_refl _) (pm_le_spec (pm_le_v (pm_le_v (pm_le_v (pm_le_u (pm_le_n)))))) ?_
      exact hag53 (x3, s160.2)
    · refine pm_aload_n dX9_laysStrokes_166 rfl rfl ?_
      refine fg_9_43 (y := zX9_laysStrokes) (Or.inl tw_1409) dX9_laysStrokes_167 (fun r4 => ?_)
      refine pm_iload_n dX9_laysStrokes_170 rfl rfl ?_
      refine pm_aload_n dX9_laysStrokes_171 rfl rfl ?_
      refine fg_9_44 (y := zX9_laysStrokes) (Or.inl tw_1410) dX9_laysStrokes_172 (fun r5 => ?_)
      refine pm_iload_n dX9_laysStrokes_175 rfl rfl ?_
      refine pm_iald (y := zX9_laysStrokes) dX9_laysStrokes_176 (fun x6 => ?_)
      refine pm_iast (y := zX9_laysStrokes) dX9_laysStrokes_177 (fun m7 => ?_)
      refine pm_aload_n dX9_laysStrokes_178 rfl rfl ?_
      refine fg_9_45 (y := zX9_laysStrokes) (Or.inl tw_1411) dX9_laysStrokes_179 (fun r8 => ?_)
      refine pm_iload_n dX9_laysStrokes_182 rfl rfl ?_
      refine pm_aload_n dX9_laysStrokes_183 rfl rfl ?_
      refine fg_9_46 (y := zX9_laysStrokes) (Or.inl tw_1412) dX9_laysStrokes_184 (fun r9 => ?_)
      refine pm_iload_n dX9_laysStrokes_187 rfl rfl ?_
      refine pm_lald (y := zX9_laysStrokes) dX9_laysStrokes_188 (fun x10 => ?_)
      refine pm_last (y := zX9_laysStrokes) dX9_laysStrokes_189 (fun m11 => ?_)
      refine pm_iincn (y := zX9_laysStrokes) dX9_laysStrokes_190 rfl ki_1 rfl (Nat.le_of_ble_eq_true rfl) (fun x12 => ?_)
      refine pm_eqls (ls2 := [.ref l0, .int l1, .int l2, .int x12]) rfl ?_
      refine pm_goto (tgt := 160) dX9_laysStrokes_193 rfl ?_
      exact hag160 (x12, m11))
set_option maxRecDepth 100000 in
set_option maxHeartbeats 4000000 in
theorem gX9_laysStrokes_j152 (hfl : l.flags = flags0) (again53 : (Int32 × pmM) → pmR) (again90 : (Int32 × pmM) → pmR) (l0 : Nat) (l1 : Int32) (l2 : Int32) (l3 : Int32) (m : pmM) (hag53 : ∀ s : Int32 × pmM, pm_G l Γ zX9_laysStrokes (d + 2) 53 [.ref l0, .int l1, .int s.1, pmU] [] s.2 (again53 s)) (hag90 : ∀ s : Int32 × pmM, pm_G l Γ zX9_laysStrokes (d + 2) 90 [.ref l0, .int l1, .int l2, .int s.1] [] s.2 (again90 s)) : pm_G l Γ zX9_laysStrokes (d + 2) 152 [.ref l0, .int l1, .int l2, .int l3] [] m (X9_laysStrokes_j152 again53 again90 l0 l1 l2 l3 m) := by
  unfold X9_laysStrokes_j152
  refine pm_iincn (y := zX9_laysStrokes) dX9_laysStrokes_152 rfl ki_1 rfl (Nat.le_of_ble_eq_true rfl) (fun x17 => ?_)
  refine pm_eqls (ls2 := [.ref l0, .int l1, .int l2, .int x17]) rfl ?_
  refine pm_goto (tgt := 90) dX9_laysStrokes_155 rfl ?_
  exact hag90 (x17, m)
set_option maxRecDepth 100000 in
set_option maxHeartbeats 4000000 in
theorem gX9_laysStrokes_L90 (hfl : l.flags = flags0) (again53 : (Int32 × pmM) → pmR) (l0 : Nat) (l1 : Int32) (l2 : Int32) (hag53 : ∀ s : Int32 × pmM, pm_G l Γ zX9_laysStrokes (d + 2) 53 [.ref l0, .int l1, .int s.1, pmU] [] s.2 (again53 s)) : ∀ (n : Nat) (s : Int32 × pmM), pm_G l Γ zX9_laysStrokes (d + 2) 90 [.ref l0, .int l1, .int l2, .int s.1] [] s.2 (pm_lp n (X9_laysStrokes_L90 again53 l0 l1 l2) s) :=
  pm_loop (lsf := fun s : Int32 × pmM => [.ref l0, .int l1, .int l2, .int s.1]) (mf := fun s : Int32 × pmM => s.2) (fun again90 hag90 s90 => by
    unfold X9_laysStrokes_L90
    refine pm_iload_n dX9_laysStrokes_90 rfl rfl ?_
    refine pm_bipush (v := 26) dX9_laysStrokes_91 kb_26 ?_
    refine pm_icmp_ge (tgt := 158) dX9_laysStrokes_93 rfl ?_ ?_
    · refine pm_iconst (v := 0) dX9_laysStrokes_158 ki_0 ?_
      refine pm_istore_n (ls2 := [.ref l0, .int l1, .int l2, .int 0]) dX9_laysStrokes_159 rfl rfl (Nat.le_of_ble_eq_true rfl) rfl ?_
      exact gX9_laysStrokes_L160 hfl again53 l0 l1 l2 hag53 pm_N (0, s90.2)
    · refine pm_aload_n dX9_laysStrokes_96 rfl rfl ?_
      refine fg_9_43 (y := zX9_laysStrokes) (Or.inl tw_1409) dX9_laysStrokes_97 (fun r13 => ?_)
      refine pm_iload_n dX9_laysStrokes_100 rfl rfl ?_
      refine pm_iald (y := zX9_laysStrokes) dX9_laysStrokes_101 (fun x14 => ?_)
      refine pm_sipush (v := 9999) dX9_laysStrokes_102 ks_9999 ?_
      refine pm_icmp_ne (tgt := 111) dX9_laysStrokes_105 rfl ?_ ?_
      · refine pm_aload_n dX9_laysStrokes_111 rfl rfl ?_
        refine pm_iload_n dX9_laysStrokes_112 rfl rfl ?_
        refine pm_iload_n dX9_laysStrokes_113 rfl rfl ?_
        refine pm_iconst (v := 0) dX9_laysStrokes_114 ki_0 ?_
        refine pm_rcv (fun hb9 hc9 => ?_)
        refine pm_kV (d := d + 1) rfl (pm_V (y := zX9_laysStrokes) (z := zX9_goesOver) (As := [.int l2, .int s90.1, .int 0]) zkX9_goesOver pm_q9 (by decide) tw_1829 tw_1831 tw_144 dX9_laysStrokes_115 rfl rfl (Nat.le_of_ble_eq_true rfl) hb9 hc9) (kcX9_goesOver (d := d + 0) hfl l0 l2 s90.1 0 s90.2) (fun m15 => ?_)
        refine pm_iload_n dX9_laysStrokes_118 rfl rfl ?_
        refine pm_iconst (v := 2) dX9_laysStrokes_119 ki_2 ?_
        refine pm_idiv dX9_laysStrokes_120 ?_
        refine pm_aload_n dX9_laysStrokes_121 rfl rfl ?_
        refine fg_9_33 (y := zX9_laysStrokes) (Or.inl tw_1399) dX9_laysStrokes_122 (fun x16 => ?_)
        refine pm_icmp_ge (tgt := 152) dX9_laysStrokes_125 rfl ?_ ?_
        · exact gX9_laysStrokes_j152 hfl again53 again90 l0 l1 l2 s90.1 m15 hag53 hag90
        · refine pm_aload_n dX9_laysStrokes_128 rfl rfl ?_
          refine fg_9_25 (y := zX9_laysStrokes) (Or.inl tw_1391) dX9_laysStrokes_129 (fun r18 => ?_)
          refine pm_iload_n dX9_laysStrokes_132 rfl rfl ?_
          refine pm_iconst (v := 2) dX9_laysStrokes_133 ki_2 ?_
          refine pm_idiv dX9_laysStrokes_134 ?_
          refine pm_iald (y := zX9_laysStrokes) dX9_laysStrokes_135 (fun x19 => ?_)
          refine pm_aload_n dX9_laysStrokes_136 rfl rfl ?_
          refine fg_9_40 (y := zX9_laysStrokes) (Or.inl tw_1406) dX9_laysStrokes_137 (fun r20 => ?_)
          refine pm_iload_n dX9_laysStrokes_140 rfl rfl ?_
          refine pm_iald (y := zX9_laysStrokes) dX9_laysStrokes_141 (fun x21 => ?_)
          refine pm_icmp_ne (tgt := 152) dX9_laysStrokes_142 rfl ?_ ?_
          · exact gX9_laysStrokes_j152 hfl again53 again90 l0 l1 l2 s90.1 m15 hag53 hag90
          · refine pm_aload_n dX9_laysStrokes_145 rfl rfl ?_
            refine pm_iload_n dX9_laysStrokes_146 rfl rfl ?_
            refine pm_iload_n dX9_laysStrokes_147 rfl rfl ?_
            refine pm_iconst (v := 1) dX9_laysStrokes_148 ki_1 ?_
            refine pm_rcv (fun hb9 hc9 => ?_)
            refine pm_kV (d := d + 1) rfl (pm_V (y := zX9_laysStrokes) (z := zX9_goesOver) (As := [.int l2, .int s90.1, .int 1]) zkX9_goesOver pm_q9 (by decide) tw_1829 tw_1831 tw_144 dX9_laysStrokes_149 rfl rfl (Nat.le_of_ble_eq_true rfl) hb9 hc9) (kcX9_goesOver (d := d + 0) hfl l0 l2 s90.1 1 m15) (fun m22 => ?_)
            exact gX9_laysStrokes_j152 hfl again53 again90 l0 l1 l2 s90.1 m22 hag53 hag90
      · refine pm_goto (tgt := 152) dX9_laysStrokes_108 rfl ?_
        exact gX9_laysStrokes_j152 hfl again53 again90 l0 l1 l2 s90.1 s90.2 hag53 hag90)
set_option maxRecDepth 100000 in
set_option maxHeartbeats 4000000 in
theorem gX9_laysStrokes_L60 (hfl : l.flags = flags0) (again53 : (Int32 × pmM) → pmR) (l0 : Nat) (l1 : Int32) (l2 : Int32) (hag53 : ∀ s : Int32 × pmM, pm_G l Γ zX9_laysStrokes (d + 2) 53 [.ref l0, .int l1, .int s.1, pmU] [] s.2 (again53 s)) : ∀ (n : Nat) (s : Int32 × pmM), pm_G l Γ zX9_laysStrokes (d + 2) 60 [.ref l0, .int l1, .int l2, .int s.1] [] s.2 (pm_lp n (X9_laysStrokes_L60 again53 l0 l1 l2) s) :=
  pm_loop (lsf := fun s : Int32 × pmM => [.ref l0, .int l1, .int l2, .int s.1]) (mf := fun s : Int32 × pmM => s.2) (fun again60 hag60 s60 => by
    unfold X9_laysStrokes_L60
    refine pm_iload_n dX9_laysStrokes_60 rfl rfl ?_
    refine pm_bipush (v := 26) dX9_laysStrokes_61 kb_26 ?_
    refine pm_icmp_ge (tgt := 88) dX9_laysStrokes_63 rfl ?_ ?_
    · refine pm_iconst (v := 0) dX9_laysStrokes_88 ki_0 ?_
      refine pm_istore_n (ls2 := [.ref l0, .int l1, .int l2, .int 0]) dX9_laysStrokes_89 rfl rfl (Nat.le_of_ble_eq_true rfl) rfl ?_
      exact gX9_laysStrokes_L90 hfl again53 l0 l1 l2 hag53 pm_N (0, s60.2)
    · refine pm_aload_n dX9_laysStrokes_66 rfl rfl ?_
      refine fg_9_44 (y := zX9_laysStrokes) (Or.inl tw_1410) dX9_laysStrokes_67 (fun r23 => ?_)
      refine pm_iload_n dX9_laysStrokes_70 rfl rfl ?_
      refine pm_sipush (v := 9999) dX9_laysStrokes_71 ks_9999 ?_
      refine pm_iast (y := zX9_laysStrokes) dX9_laysStrokes_74 (fun m24 => ?_)
      refine pm_aload_n dX9_laysStrokes_75 rfl rfl ?_
      refine fg_9_46 (y := zX9_laysStrokes) (Or.inl tw_1412) dX9_laysStrokes_76 (fun r25 => ?_)
      refine pm_iload_n dX9_laysStrokes_79 rfl rfl ?_
      refine pm_lconst (v := 0) dX9_laysStrokes_80 kl_0 ?_
      refine pm_last (y := zX9_laysStrokes) dX9_laysStrokes_81 (fun m26 => ?_)
      refine pm_iincn (y := zX9_laysStrokes) dX9_laysStrokes_82 rfl ki_1 rfl (Nat.le_of_ble_eq_true rfl) (fun x27 => ?_)
      refine pm_eqls (ls2 := [.ref l0, .int l1, .int l2, .int x27]) rfl ?_
      refine pm_goto (tgt := 60) dX9_laysStrokes_85 rfl ?_
      exact hag60 (x27, m26))
set_option maxRecDepth 100000 in
set_option maxHeartbeats 4000000 in
theorem gX9_laysStrokes_L53 (hfl : l.flags = flags0) (l0 : Nat) (l1 : Int32) : ∀ (n : Nat) (s : Int32 × pmM), pm_G l Γ zX9_laysStrokes (d + 2) 53 [.ref l0, .int l1, .int s.1, pmU] [] s.2 (pm_lp n (X9_laysStrokes_L53 l0 l1) s) :=
  pm_loop (lsf := fun s : Int32 × pmM => [.ref l0, .int l1, .int s.1, pmU]) (mf := fun s : Int32 × pmM => s.2) (fun again53 hag53 s53 => by
    unfold X9_laysStrokes_L53
    refine pm_iload_n dX9_laysStrokes_53 rfl rfl ?_
    refine pm_iload_n dX9_laysStrokes_54 rfl rfl ?_
    refine pm_icmp_ge (tgt := 202) dX9_laysStrokes_55 rfl ?_ ?_
    · exact pm_vret rfl dX9_laysStrokes_202
    · refine pm_iconst (v := 0) dX9_laysStrokes_58 ki_0 ?_
      refine pm_istore_n (ls2 := [.ref l0, .int l1, .int s53.1, .int 0]) dX9_laysStrokes_59 rfl rfl (Nat.le_of_ble_eq_true rfl) rfl ?_
      exact gX9_laysStrokes_L60 hfl again53 l0 l1 s53.1 hag53 pm_N (0, s53.2))
set_option maxRecDepth 100000 in
set_option maxHeartbeats 4000000 in
theorem gX9_laysStrokes_j44 (hfl : l.flags = flags0) (again7 : (Int32 × pmM) → pmR) (l0 : Nat) (l1 : Int32) (l2 : Int32) (t0 : Int64) (t1 : Int32) (t2 : Nat) (m : pmM) (hag7 : ∀ s : Int32 × pmM, pm_G l Γ zX9_laysStrokes (d + 2) 7 [.ref l0, .int l1, .int s.1, pmU] [] s.2 (again7 s)) : pm_G l Γ zX9_laysStrokes (d + 2) 44 [.ref l0, .int l1, .int l2, pmU] [.long t0, .int t1, .ref t2] m (X9_laysStrokes_j44 again7 l0 l1 l2 t0 t1 t2 m) := by
  unfold X9_laysStrokes_j44
  refine pm_last (y := zX9_laysStrokes) dX9_laysStrokes_44 (fun m31 => ?_)
  refine pm_iincn (y := zX9_laysStrokes) dX9_laysStrokes_45 rfl ki_1 rfl (Nat.le_of_ble_eq_true rfl) (fun x32 => ?_)
  refine pm_eqls (ls2 := [.ref l0, .int l1, .int x32, pmU]) rfl ?_
  refine pm_goto (tgt := 7) dX9_laysStrokes_48 rfl ?_
  exact hag7 (x32, m31)
set_option maxRecDepth 100000 in
set_option maxHeartbeats 4000000 in
theorem gX9_laysStrokes_j29 (hfl : l.flags = flags0) (again7 : (Int32 × pmM) → pmR) (l0 : Nat) (l1 : Int32) (l2 : Int32) (t0 : Int32) (t1 : Int32) (t2 : Nat) (m : pmM) (hag7 : ∀ s : Int32 × pmM, pm_G l Γ zX9_laysStrokes (d + 2) 7 [.ref l0, .int l1, .int s.1, pmU] [] s.2 (again7 s)) : pm_G l Γ zX9_laysStrokes (d + 2) 29 [.ref l0, .int l1, .int l2, pmU] [.int t0, .int t1, .ref t2] m (X9_laysStrokes_j29 again7 l0 l1 l2 t0 t1 t2 m) := by
  unfold X9_laysStrokes_j29
  refine pm_iast (y := zX9_laysStrokes) dX9_laysStrokes_29 (fun m29 => ?_)
  refine pm_aload_n dX9_laysStrokes_30 rfl rfl ?_
  refine fg_9_45 (y := zX9_laysStrokes) (Or.inl tw_1411) dX9_laysStrokes_31 (fun r30 => ?_)
  refine pm_iload_n dX9_laysStrokes_34 rfl rfl ?_
  refine pm_iload_n dX9_laysStrokes_35 rfl rfl ?_
  refine pm_if_ne (tgt := 43) dX9_laysStrokes_36 rfl ?_ ?_
  · refine pm_lconst (v := 0) dX9_laysStrokes_43 kl_0 ?_
    exact gX9_laysStrokes_j44 hfl again7 l0 l1 l2 0 l2 r30 m29 hag7
  · refine pm_lconst (v := 1) dX9_laysStrokes_39 kl_1 ?_
    refine pm_goto (tgt := 44) dX9_laysStrokes_40 rfl ?_
    exact gX9_laysStrokes_j44 hfl again7 l0 l1 l2 1 l2 r30 m29 hag7
set_option maxRecDepth 100000 in
set_option maxHeartbeats 4000000 in
theorem gX9_laysStrokes_L7 (hfl : l.flags = flags0) (l0 : Nat) (l1 : Int32) : ∀ (n : Nat) (s : Int32 × pmM), pm_G l Γ zX9_laysStrokes (d + 2) 7 [.ref l0, .int l1, .int s.1, pmU] [] s.2 (pm_lp n (X9_laysStrokes_L7 l0 l1) s) :=
  pm_loop (lsf := fun s : Int32 × pmM => [.ref l0, .int l1, .int s.1, pmU]) (mf := fun s : Int32 × pmM => s.2) (fun again7 hag7 s7 => by
    unfold X9_laysStrokes_L7
    refine pm_iload_n dX9_laysStrokes_7 rfl rfl ?_
    refine pm_bipush (v := 26) dX9_laysStrokes_8 kb_26 ?_
    refine pm_icmp_ge (tgt := 51) dX9_laysStrokes_10 rfl ?_ ?_
    · refine pm_iconst (v := 0) dX9_laysStrokes_51 ki_0 ?_
      refine pm_istore_n (ls2 := [.ref l0, .int l1, .int 0, pmU]) dX9_laysStrokes_52 rfl rfl (Nat.le_of_ble_eq_true rfl) rfl ?_
      exact gX9_laysStrokes_L53 hfl l0 l1 pm_N (0, s7.2)
    · refine pm_aload_n dX9_laysStrokes_13 rfl rfl ?_
      refine fg_9_43 (y := zX9_laysStrokes) (Or.inl tw_1409) dX9_laysStrokes_14 (fun r28 => ?_)
      refine pm_iload_n dX9_laysStrokes_17 rfl rfl ?_
      refine pm_iload_n dX9_laysStrokes_18 rfl rfl ?_
      refine pm_if_ne (tgt := 26) dX9_laysStrokes_19 rfl ?_ ?_
      · refine pm_sipush (v := 9999) dX9_laysStrokes_26 ks_9999 ?_
        exact gX9_laysStrokes_j29 hfl again7 l0 l1 s7.1 9999 s7.1 r28 s7.2 hag7
      · refine pm_iconst (v := 0) dX9_laysStrokes_22 ki_0 ?_
        refine pm_goto (tgt := 29) dX9_laysStrokes_23 rfl ?_
        exact gX9_laysStrokes_j29 hfl again7 l0 l1 s7.1 0 s7.1 r28 s7.2 hag7)
set_option maxRecDepth 100000 in
set_option maxHeartbeats 4000000 in
theorem kcX9_laysStrokes (hfl : l.flags = flags0) (a0 : Nat) (m : pmM) : pm_C l Γ zX9_laysStrokes (d + 2) [.ref a0] m (X9_laysStrokes a0 m) := by
  refine pm_enter (ls := [.ref a0, pmU, pmU, pmU]) hfl (by decide +kernel) rfl (Nat.le_of_ble_eq_true rfl) rfl (Nat.le_of_ble_eq_true rfl) ?_
  unfold X9_laysStrokes
  refine pm_aload_n dX9_laysStrokes_0 rfl rfl ?_
  refine pm_rcv (fun hb9 hc9 => ?_)
  refine pm_kI (d := d + 1) rfl (pm_V (y := zX9_laysStrokes) (z := zX9_laysPage) (As := []) zkX9_laysPage pm_q9 (by decide) tw_1817 tw_1819 tw_142 dX9_laysStrokes_1 rfl rfl (Nat.le_of_ble_eq_true rfl) hb9 hc9) (kcX9_laysPage (d := d + 1) hfl a0 m) (fun x2 m1 => ?_)
  refine pm_istore_n (ls2 := [.ref a0, .int x2, pmU, pmU]) dX9_laysStrokes_4 rfl rfl (Nat.le_of_ble_eq_true rfl) rfl ?_
  refine pm_iconst (v := 0) dX9_laysStrokes_5 ki_0 ?_
  refine pm_istore_n (ls2 := [.ref a0, .int x2, .int 0, pmU]) dX9_laysStrokes_6 rfl rfl (Nat.le_of_ble_eq_true rfl) rfl ?_
  exact gX9_laysStrokes_L7 hfl a0 x2 pm_N (0, m1)
-- StruckPageModel.strokes()I
def X9_strokes_j49 (t0 : Int32) (m : pmM) : pmR := pm_oI t0 m
def X9_strokes (a0 : Nat) (m : pmM) : pmR := pm_pI 9 a0 0 0 m fun m1 => pm_rc 9 a0 m1 <| pm_cV (X9_laysStrokes a0 m1) fun m2 => pm_gR 9 a0 43 m2 fun r3 => pm_gI 9 a0 33 m2 fun x4 => pm_ld 100 r3 ((2 : Int32) * x4) m2 fun x5 => pm_gR 9 a0 43 m2 fun r6 => pm_gI 9 a0 33 m2 fun x7 => pm_ld 100 r6 (((2 : Int32) * x7) + 1) m2 fun x8 => pm_cI (X9_less x5 x8 m2) fun x10 m9 => if x10 = 9999 then (X9_strokes_j49 (-1) m9) else (X9_strokes_j49 x10 m9)
set_option maxRecDepth 100000 in
set_option maxHeartbeats 4000000 in
theorem gX9_strokes_j49 (hfl : l.flags = flags0) (t0 : Int32) (m : pmM) : pm_G l Γ zX9_strokes (d + 3) 49 [pmU, pmU] [.int t0] m (X9_strokes_j49 t0 m) := by
  unfold X9_strokes_j49
  exact pm_iret rfl dX9_strokes_49
set_option maxRecDepth 100000 in
set_option maxHeartbeats 4000000 in
theorem kcX9_strokes (hfl : l.flags = flags0) (a0 : Nat) (m : pmM) : pm_C l Γ zX9_strokes (d + 3) [.ref a0] m (X9_strokes a0 m) := by
  refine pm_enter (ls := [.ref a0, pmU]) hfl (by decide +kernel) rfl (Nat.le_of_ble_eq_true rfl) rfl (Nat.le_of_ble_eq_true rfl) ?_
  unfold X9_strokes
  refine pm_aload_n dX9_strokes_0 rfl rfl ?_
  refine pm_iconst (v := 0) dX9_strokes_1 ki_0 ?_
  refine fp_9_0 (y := zX9_strokes) (Or.inl tw_1366) dX9_strokes_2 (fun m1 => ?_)
  refine pm_aload_n dX9_strokes_5 rfl rfl ?_
  refine pm_rcv (fun hb9 hc9 => ?_)
  refine pm_kV (d := d + 2) rfl (pm_V (y := zX9_strokes) (z := zX9_laysStrokes) (As := []) zkX9_laysStrokes pm_q9 (by decide) tw_1825 tw_1827 tw_143 dX9_strokes_6 rfl rfl (Nat.le_of_ble_eq_true rfl) hb9 hc9) (kcX9_laysStrokes (d := d + 0) hfl a0 m1) (fun m2 => ?_)
  refine pm_aload_n dX9_strokes_9 rfl rfl ?_
  refine fg_9_43 (y := zX9_strokes) (Or.inl tw_1409) dX9_strokes_10 (fun r3 => ?_)
  refine pm_iconst (v := 2) dX9_strokes_13 ki_2 ?_
  refine pm_aload_n dX9_strokes_14 rfl rfl ?_
  refine fg_9_33 (y := zX9_strokes) (Or.inl tw_1399) dX9_strokes_15 (fun x4 => ?_)
  refine pm_imul dX9_strokes_18 ?_
  refine pm_iald (y := zX9_strokes) dX9_strokes_19 (fun x5 => ?_)
  refine pm_aload_n dX9_strokes_20 rfl rfl ?_
  refine fg_9_43 (y := zX9_strokes) (Or.inl tw_1409) dX9_strokes_21 (fun r6 => ?_)
  refine pm_iconst (v := 2) dX9_strokes_24 ki_2 ?_
  refine pm_aload_n dX9_strokes_25 rfl rfl ?_
  refine fg_9_33 (y := zX9_strokes) (Or.inl tw_1399) dX9_strokes_26 (fun x7 => ?_)
  refine pm_imul dX9_strokes_29 ?_
  refine pm_iconst (v := 1) dX9_strokes_30 ki_1 ?_
  refine pm_iadd dX9_strokes_31 ?_
  refine pm_iald (y := zX9_strokes) dX9_strokes_32 (fun x8 => ?_)
  refine pm_kI (d := d + 2) rfl (pm_S (y := zX9_strokes) (z := zX9_less) (As := [.int x5, .int x8]) zkX9_less tw_1722 tw_1723 dX9_strokes_33 rfl rfl (Nat.le_of_ble_eq_true rfl)) (kcX9_less (d := d + 2) hfl x5 x8 m2) (fun x10 m9 => ?_)
  refine pm_istore_n (ls2 := [.ref a0, .int x10]) dX9_strokes_36 rfl rfl (Nat.le_of_ble_eq_true rfl) rfl ?_
  refine pm_iload_n dX9_strokes_37 rfl rfl ?_
  refine pm_sipush (v := 9999) dX9_strokes_38 ks_9999 ?_
  refine pm_icmp_ne (tgt := 48) dX9_strokes_41 rfl ?_ ?_
  · refine pm_iload_n dX9_strokes_48 rfl rfl ?_
    refine pm_drop (ls2 := [pmU, pmU]) (Nat.le_refl _) (pm_le_spec (pm_le_u (pm_le_u (pm_le_n)))) ?_
    exact gX9_strokes_j49 hfl x10 m9
  · refine pm_iconst (v := (-1)) dX9_strokes_44 ki_n1 ?_
    refine pm_goto (tgt := 49) dX9_strokes_45 rfl ?_
    refine pm_drop (ls2 := [pmU, pmU]) (Nat.le_refl _) (pm_le_spec (pm_le_u (pm_le_u (pm_le_n)))) ?_
    exact gX9_strokes_j49 hfl (-1) m9
-- StruckPageModel.best()J
def X9_best_j110 (t0 : Int64) (t1 : Int64) (m : pmM) : pmR := pm_oL (t1 + t0) m
def X9_best_j76 (l0 : Nat) (l1 : Int32) (t0 : Int64) (m : pmM) : pmR := pm_gR 9 l0 43 m fun r14 => pm_gI 9 l0 33 m fun x15 => pm_ld 100 r14 (((2 : Int32) * x15) + 1) m fun x16 => if x16 = l1 then (pm_gR 9 l0 45 m fun r17 => pm_gI 9 l0 33 m fun x18 => pm_ldL r17 (((2 : Int32) * x18) + 1) m fun x19 => X9_best_j110 x19 t0 m) else (X9_best_j110 0 t0 m)
def X9_best (a0 : Nat) (m : pmM) : pmR := pm_pI 9 a0 0 0 m fun m1 => pm_rc 9 a0 m1 <| pm_cV (X9_laysStrokes a0 m1) fun m2 => pm_gR 9 a0 43 m2 fun r3 => pm_gI 9 a0 33 m2 fun x4 => pm_ld 100 r3 ((2 : Int32) * x4) m2 fun x5 => pm_gR 9 a0 43 m2 fun r6 => pm_gI 9 a0 33 m2 fun x7 => pm_ld 100 r6 (((2 : Int32) * x7) + 1) m2 fun x8 => pm_cI (X9_less x5 x8 m2) fun x10 m9 => if x10 = 9999 then (pm_oL 0 m9) else (pm_gR 9 a0 43 m9 fun r11 => pm_gI 9 a0 33 m9 fun x12 => pm_ld 100 r11 ((2 : Int32) * x12) m9 fun x13 => if x13 = x10 then (pm_gR 9 a0 45 m9 fun r20 => pm_gI 9 a0 33 m9 fun x21 => pm_ldL r20 ((2 : Int32) * x21) m9 fun x22 => X9_best_j76 a0 x10 x22 m9) else (X9_best_j76 a0 x10 0 m9))
set_option maxRecDepth 100000 in
set_option maxHeartbeats 4000000 in
theorem gX9_best_j110 (hfl : l.flags = flags0) (t0 : Int64) (t1 : Int64) (m : pmM) : pm_G l Γ zX9_best (d + 3) 110 [pmU, pmU] [.long t0, .long t1] m (X9_best_j110 t0 t1 m) := by
  unfold X9_best_j110
  refine pm_ladd dX9_best_110 ?_
  exact pm_lret rfl dX9_best_111
set_option maxRecDepth 100000 in
set_option maxHeartbeats 4000000 in
theorem gX9_best_j76 (hfl : l.flags = flags0) (l0 : Nat) (l1 : Int32) (t0 : Int64) (m : pmM) : pm_G l Γ zX9_best (d + 3) 76 [.ref l0, .int l1] [.long t0] m (X9_best_j76 l0 l1 t0 m) := by
  unfold X9_best_j76
  refine pm_aload_n dX9_best_76 rfl rfl ?_
  refine fg_9_43 (y := zX9_best) (Or.inl tw_1409) dX9_best_77 (fun r14 => ?_)
  refine pm_iconst (v := 2) dX9_best_80 ki_2 ?_
  refine pm_aload_n dX9_best_81 rfl rfl ?_
  refine fg_9_33 (y := zX9_best) (Or.inl tw_1399) dX9_best_82 (fun x15 => ?_)
  refine pm_imul dX9_best_85 ?_
  refine pm_iconst (v := 1) dX9_best_86 ki_1 ?_
  refine pm_iadd dX9_best_87 ?_
  refine pm_iald (y := zX9_best) dX9_best_88 (fun x16 => ?_)
  refine pm_iload_n dX9_best_89 rfl rfl ?_
  refine pm_icmp_ne (tgt := 109) dX9_best_90 rfl ?_ ?_
  · refine pm_lconst (v := 0) dX9_best_109 kl_0 ?_
    refine pm_drop (ls2 := [pmU, pmU]) (Nat.le_refl _) (pm_le_spec (pm_le_u (pm_le_u (pm_le_n)))) ?_
    exact gX9_best_j110 hfl 0 t0 m
  · refine pm_aload_n dX9_best_93 rfl rfl ?_
    refine fg_9_45 (y := zX9_best) (Or.inl tw_1411) dX9_best_94 (fun r17 => ?_)
    refine pm_iconst (v := 2) dX9_best_97 ki_2 ?_
    refine pm_aload_n dX9_best_98 rfl rfl ?_
    refine fg_9_33 (y := zX9_best) (Or.inl tw_1399) dX9_best_99 (fun x18 => ?_)
    refine pm_imul dX9_best_102 ?_
    refine pm_iconst (v := 1) dX9_best_103 ki_1 ?_
    refine pm_iadd dX9_best_104 ?_
    refine pm_lald (y := zX9_best) dX9_best_105 (fun x19 => ?_)
    refine pm_goto (tgt := 110) dX9_best_106 rfl ?_
    refine pm_drop (ls2 := [pmU, pmU]) (Nat.le_refl _) (pm_le_spec (pm_le_u (pm_le_u (pm_le_n)))) ?_
    exact gX9_best_j110 hfl x19 t0 m
set_option maxRecDepth 100000 in
set_option maxHeartbeats 4000000 in
theorem kcX9_best (hfl : l.flags = flags0) (a0 : Nat) (m : pmM) : pm_C l Γ zX9_best (d + 3) [.ref a0] m (X9_best a0 m) := by
  refine pm_enter (ls := [.ref a0, pmU]) hfl (by decide +kernel) rfl (Nat.le_of_ble_eq_true rfl) rfl (Nat.le_of_ble_eq_true rfl) ?_
  unfold X9_best
  refine pm_aload_n dX9_best_0 rfl rfl ?_
  refine pm_iconst (v := 0) dX9_best_1 ki_0 ?_
  refine fp_9_0 (y := zX9_best) (Or.inl tw_1366) dX9_best_2 (fun m1 => ?_)
  refine pm_aload_n dX9_best_5 rfl rfl ?_
  refine pm_rcv (fun hb9 hc9 => ?_)
  refine pm_kV (d := d + 2) rfl (pm_V (y := zX9_best) (z := zX9_laysStrokes) (As := []) zkX9_laysStrokes pm_q9 (by decide) tw_1825 tw_1827 tw_143 dX9_best_6 rfl rfl (Nat.le_of_ble_eq_true rfl) hb9 hc9) (kcX9_laysStrokes (d := d + 0) hfl a0 m1) (fun m2 => ?_)
  refine pm_aload_n dX9_best_9 rfl rfl ?_
  refine fg_9_43 (y := zX9_best) (Or.inl tw_1409) dX9_best_10 (fun r3 => ?_)
  refine pm_iconst (v := 2) dX9_best_13 ki_2 ?_
  refine pm_aload_n dX9_best_14 rfl rfl ?_
  refine fg_9_33 (y := zX9_best) (Or.inl tw_1399) dX9_best_15 (fun x4 => ?_)
  refine pm_imul dX9_best_18 ?_
  refine pm_iald (y := zX9_best) dX9_best_19 (fun x5 => ?_)
  refine pm_aload_n dX9_best_20 rfl rfl ?_
  refine fg_9_43 (y := zX9_best) (Or.inl tw_1409) dX9_best_21 (fun r6 => ?_)
  refine pm_iconst (v := 2) dX9_best_24 ki_2 ?_
  refine pm_aload_n dX9_best_25 rfl rfl ?_
  refine fg_9_33 (y := zX9_best) (Or.inl tw_1399) dX9_best_26 (fun x7 => ?_)
  refine pm_imul dX9_best_29 ?_
  refine pm_iconst (v := 1) dX9_best_30 ki_1 ?_
  refine pm_iadd dX9_best_31 ?_
  refine pm_iald (y := zX9_best) dX9_best_32 (fun x8 => ?_)
  refine pm_kI (d := d + 2) rfl (pm_S (y := zX9_best) (z := zX9_less) (As := [.int x5, .int x8]) zkX9_less tw_1722 tw_1723 dX9_best_33 rfl rfl (Nat.le_of_ble_eq_true rfl)) (kcX9_less (d := d + 2) hfl x5 x8 m2) (fun x10 m9 => ?_)
  refine pm_istore_n (ls2 := [.ref a0, .int x10]) dX9_best_36 rfl rfl (Nat.le_of_ble_eq_true rfl) rfl ?_
  refine pm_iload_n dX9_best_37 rfl rfl ?_
  refine pm_sipush (v := 9999) dX9_best_38 ks_9999 ?_
  refine pm_icmp_ne (tgt := 46) dX9_best_41 rfl ?_ ?_
  · refine pm_aload_n dX9_best_46 rfl rfl ?_
    refine fg_9_43 (y := zX9_best) (Or.inl tw_1409) dX9_best_47 (fun r11 => ?_)
    refine pm_iconst (v := 2) dX9_best_50 ki_2 ?_
    refine pm_aload_n dX9_best_51 rfl rfl ?_
    refine fg_9_33 (y := zX9_best) (Or.inl tw_1399) dX9_best_52 (fun x12 => ?_)
    refine pm_imul dX9_best_55 ?_
    refine pm_iald (y := zX9_best) dX9_best_56 (fun x13 => ?_)
    refine pm_iload_n dX9_best_57 rfl rfl ?_
    refine pm_icmp_ne (tgt := 75) dX9_best_58 rfl ?_ ?_
    · refine pm_lconst (v := 0) dX9_best_75 kl_0 ?_
      exact gX9_best_j76 hfl a0 x10 0 m9
    · refine pm_aload_n dX9_best_61 rfl rfl ?_
      refine fg_9_45 (y := zX9_best) (Or.inl tw_1411) dX9_best_62 (fun r20 => ?_)
      refine pm_iconst (v := 2) dX9_best_65 ki_2 ?_
      refine pm_aload_n dX9_best_66 rfl rfl ?_
      refine fg_9_33 (y := zX9_best) (Or.inl tw_1399) dX9_best_67 (fun x21 => ?_)
      refine pm_imul dX9_best_70 ?_
      refine pm_lald (y := zX9_best) dX9_best_71 (fun x22 => ?_)
      refine pm_goto (tgt := 76) dX9_best_72 rfl ?_
      exact gX9_best_j76 hfl a0 x10 x22 m9
  · refine pm_lconst (v := 0) dX9_best_44 kl_0 ?_
    exact pm_lret rfl dX9_best_45
-- StruckPageModel.ways()J
def X9_ways_j91 (again41 : (Int32 × pmM) → pmR) (again51 : (Int32 × pmM) → pmR) (l0 : Nat) (l1 : Int32) (l2 : Int32) (l3 : Int32) (t0 : Int64) (t1 : Int64) (t2 : Int32) (t3 : Nat) (m : pmM) : pmR := pm_stL t3 t2 (t1 + t0) m fun m15 => pm_bI (l3 + (-1)) fun x16 => again51 (x16, m15)
def X9_ways_L51 (again41 : (Int32 × pmM) → pmR) (l0 : Nat) (l1 : Int32) (l2 : Int32) (again51 : (Int32 × pmM) → pmR) (s51 : Int32 × pmM) : pmR := if s51.1 ≤ 0 then (pm_bI (l2 + 1) fun x8 => again41 (x8, s51.2)) else (pm_gR 9 l0 47 s51.2 fun r9 => pm_ldL r9 s51.1 s51.2 fun x10 => pm_gR 9 l0 25 s51.2 fun r11 => pm_ld 100 r11 (s51.1 - 1) s51.2 fun x12 => pm_gR 9 l0 40 s51.2 fun r13 => pm_ld 100 r13 l2 s51.2 fun x14 => if x12 = x14 then (pm_gR 9 l0 47 s51.2 fun r17 => pm_ldL r17 (s51.1 - 1) s51.2 fun x18 => X9_ways_j91 again41 again51 l0 l1 l2 s51.1 x18 x10 s51.1 r9 s51.2) else (X9_ways_j91 again41 again51 l0 l1 l2 s51.1 0 x10 s51.1 r9 s51.2))
def X9_ways_L41 (l0 : Nat) (l1 : Int32) (again41 : (Int32 × pmM) → pmR) (s41 : Int32 × pmM) : pmR := if l1 ≤ s41.1 then (pm_gR 9 l0 47 s41.2 fun r4 => pm_gI 9 l0 33 s41.2 fun x5 => pm_ldL r4 x5 s41.2 fun x6 => pm_oL x6 s41.2) else (pm_gI 9 l0 33 s41.2 fun x7 => pm_lp pm_N (X9_ways_L51 again41 l0 l1 s41.1) (x7, s41.2))
def X9_ways_j32 (again12 : (Int32 × pmM) → pmR) (l0 : Nat) (l1 : Int32) (l2 : Int32) (t0 : Int64) (t1 : Int32) (t2 : Nat) (m : pmM) : pmR := pm_stL t2 t1 t0 m fun m20 => pm_bI (l2 + 1) fun x21 => again12 (x21, m20)
def X9_ways_L12 (l0 : Nat) (l1 : Int32) (again12 : (Int32 × pmM) → pmR) (s12 : Int32 × pmM) : pmR := if (12 : Int32) < s12.1 then (pm_lp pm_N (X9_ways_L41 l0 l1) (0, s12.2)) else (pm_gR 9 l0 47 s12.2 fun r19 => if s12.1 = 0 then (X9_ways_j32 again12 l0 l1 s12.1 1 s12.1 r19 s12.2) else (X9_ways_j32 again12 l0 l1 s12.1 0 s12.1 r19 s12.2))
def X9_ways (a0 : Nat) (m : pmM) : pmR := pm_pI 9 a0 0 0 m fun m1 => pm_rc 9 a0 m1 <| pm_cI (X9_laysPage a0 m1) fun x3 m2 => pm_lp pm_N (X9_ways_L12 a0 x3) (0, m2)
set_option maxRecDepth 100000 in
set_option maxHeartbeats 4000000 in
theorem gX9_ways_j91 (hfl : l.flags = flags0) (again41 : (Int32 × pmM) → pmR) (again51 : (Int32 × pmM) → pmR) (l0 : Nat) (l1 : Int32) (l2 : Int32) (l3 : Int32) (t0 : Int64) (t1 : Int64) (t2 : Int32) (t3 : Nat) (m : pmM) (hag41 : ∀ s : Int32 × pmM, pm_G l Γ zX9_ways (d + 1) 41 [.ref l0, .int l1, .int s.1, pmU] [] s.2 (again41 s)) (hag51 : ∀ s : Int32 × pmM, pm_G l Γ zX9_ways (d + 1) 51 [.ref l0, .int l1, .int l2, .int s.1] [] s.2 (again51 s)) : pm_G l Γ zX9_ways (d + 1) 91 [.ref l0, .int l1, .int l2, .int l3] [.long t0, .long t1, .int t2, .ref t3] m (X9_ways_j91 again41 again51 l0 l1 l2 l3 t0 t1 t2 t3 m) := by
  unfold X9_ways_j91
  refine pm_ladd dX9_ways_91 ?_
  refine pm_last (y := zX9_ways) dX9_ways_92 (fun m15 => ?_)
  refine pm_iincn (y := zX9_ways) dX9_ways_93 rfl ki_n1 rfl (Nat.le_of_ble_eq_true rfl) (fun x16 => ?_)
  refine pm_eqls (ls2 := [.ref l0, .int l1, .int l2, .int x16]) rfl ?_
  refine pm_goto (tgt := 51) dX9_ways_96 rfl ?_
  exact hag51 (x16, m15)
set_option maxRecDepth 100000 in
set_option maxHeartbeats 4000000 in
theorem gX9_ways_L51 (hfl : l.flags = flags0) (again41 : (Int32 × pmM) → pmR) (l0 : Nat) (l1 : Int32) (l2 : Int32) (hag41 : ∀ s : Int32 × pmM, pm_G l Γ zX9_ways (d + 1) 41 [.ref l0, .int l1, .int s.1, pmU] [] s.2 (again41 s)) : ∀ (n : Nat) (s : Int32 × pmM), pm_G l Γ zX9_ways (d + 1) 51 [.ref l0, .int l1, .int l2, .int s.1] [] s.2 (pm_lp n (X9_ways_L51 again41 l0 l1 l2) s) :=
  pm_loop (lsf := fun s : Int32 × pmM => [.ref l0, .int l1, .int l2, .int s.1]) (mf := fun s : Int32 × pmM => s.2) (fun again51 hag51 s51 => by
    unfold X9_ways_L51
    refine pm_iload_n dX9_ways_51 rfl rfl ?_
    refine pm_if_le (tgt := 99) dX9_ways_52 rfl ?_ ?_
    · refine pm_iincn (y := zX9_ways) dX9_ways_99 rfl ki_1 rfl (Nat.le_of_ble_eq_true rfl) (fun x8 => ?_)
      refine pm_eqls (ls2 := [.ref l0, .int l1, .int x8, .int s51.1]) rfl ?_
      refine pm_goto (tgt := 41) dX9_ways_102 rfl ?_
      refine pm_drop (ls2 := [.ref l0, .int l1, .int x8, pmU]) (Nat.le_refl _) (pm_le_spec (pm_le_v (pm_le_v (pm_le_v (pm_le_u (pm_le_n)))))) ?_
      exact hag41 (x8, s51.2)
    · refine pm_aload_n dX9_ways_55 rfl rfl ?_
      refine fg_9_47 (y := zX9_ways) (Or.inl tw_1413) dX9_ways_56 (fun r9 => ?_)
      refine pm_iload_n dX9_ways_59 rfl rfl ?_
      refine pm_dup2 dX9_ways_60 rfl rfl ?_
      refine pm_lald (y := zX9_ways) dX9_ways_61 (fun x10 => ?_)
      refine pm_aload_n dX9_ways_62 rfl rfl ?_
      refine fg_9_25 (y := zX9_ways) (Or.inl tw_1391) dX9_ways_63 (fun r11 => ?_)
      refine pm_iload_n dX9_ways_66 rfl rfl ?_
      refine pm_iconst (v := 1) dX9_ways_67 ki_1 ?_
      refine pm_isub dX9_ways_68 ?_
      refine pm_iald (y := zX9_ways) dX9_ways_69 (fun x12 => ?_)
      refine pm_aload_n dX9_ways_70 rfl rfl ?_
      refine fg_9_40 (y := zX9_ways) (Or.inl tw_1406) dX9_ways_71 (fun r13 => ?_)
      refine pm_iload_n dX9_ways_74 rfl rfl ?_
      refine pm_iald (y := zX9_ways) dX9_ways_75 (fun x14 => ?_)
      refine pm_icmp_ne (tgt := 90) dX9_ways_76 rfl ?_ ?_
      · refine pm_lconst (v := 0) dX9_ways_90 kl_0 ?_
        exact gX9_ways_j91 hfl again41 again51 l0 l1 l2 s51.1 0 x10 s51.1 r9 s51.2 hag41 hag51
      · refine pm_aload_n dX9_ways_79 rfl rfl ?_
        refine fg_9_47 (y := zX9_ways) (Or.inl tw_1413) dX9_ways_80 (fun r17 => ?_)
        refine pm_iload_n dX9_ways_83 rfl rfl ?_
        refine pm_iconst (v := 1) dX9_ways_84 ki_1 ?_
        refine pm_isub dX9_ways_85 ?_
        refine pm_lald (y := zX9_ways) dX9_ways_86 (fun x18 => ?_)
        refine pm_goto (tgt := 91) dX9_ways_87 rfl ?_
        exact gX9_ways_j91 hfl again41 again51 l0 l1 l2 s51.1 x18 x10 s51.1 r9 s51.2 hag41 hag51)
set_option maxRecDepth 100000 in
set_option maxHeartbeats 4000000 in
theorem gX9_ways_L41 (hfl : l.flags = flags0) (l0 : Nat) (l1 : Int32) : ∀ (n : Nat) (s : Int32 × pmM), pm_G l Γ zX9_ways (d + 1) 41 [.ref l0, .int l1, .int s.1, pmU] [] s.2 (pm_lp n (X9_ways_L41 l0 l1) s) :=
  pm_loop (lsf := fun s : Int32 × pmM => [.ref l0, .int l1, .int s.1, pmU]) (mf := fun s : Int32 × pmM => s.2) (fun again41 hag41 s41 => by
    unfold X9_ways_L41
    refine pm_iload_n dX9_ways_41 rfl rfl ?_
    refine pm_iload_n dX9_ways_42 rfl rfl ?_
    refine pm_icmp_ge (tgt := 105) dX9_ways_43 rfl ?_ ?_
    · refine pm_aload_n dX9_ways_105 rfl rfl ?_
      refine fg_9_47 (y := zX9_ways) (Or.inl tw_1413) dX9_ways_106 (fun r4 => ?_)
      refine pm_aload_n dX9_ways_109 rfl rfl ?_
      refine fg_9_33 (y := zX9_ways) (Or.inl tw_1399) dX9_ways_110 (fun x5 => ?_)
      refine pm_lald (y := zX9_ways) dX9_ways_113 (fun x6 => ?_)
      exact pm_lret rfl dX9_ways_114
    · refine pm_aload_n dX9_ways_46 rfl rfl ?_
      refine fg_9_33 (y := zX9_ways) (Or.inl tw_1399) dX9_ways_47 (fun x7 => ?_)
      refine pm_istore_n (ls2 := [.ref l0, .int l1, .int s41.1, .int x7]) dX9_ways_50 rfl rfl (Nat.le_of_ble_eq_true rfl) rfl ?_
      exact gX9_ways_L51 hfl again41 l0 l1 s41.1 hag41 pm_N (x7, s41.2))
set_option maxRecDepth 100000 in
set_option maxHeartbeats 4000000 in
theorem gX9_ways_j32 (hfl : l.flags = flags0) (again12 : (Int32 × pmM) → pmR) (l0 : Nat) (l1 : Int32) (l2 : Int32) (t0 : Int64) (t1 : Int32) (t2 : Nat) (m : pmM) (hag12 : ∀ s : Int32 × pmM, pm_G l Γ zX9_ways (d + 1) 12 [.ref l0, .int l1, .int s.1, pmU] [] s.2 (again12 s)) : pm_G l Γ zX9_ways (d + 1) 32 [.ref l0, .int l1, .int l2, pmU] [.long t0, .int t1, .ref t2] m (X9_ways_j32 again12 l0 l1 l2 t0 t1 t2 m) := by
  unfold X9_ways_j32
  refine pm_last (y := zX9_ways) dX9_ways_32 (fun m20 => ?_)
  refine pm_iincn (y := zX9_ways) dX9_ways_33 rfl ki_1 rfl (Nat.le_of_ble_eq_true rfl) (fun x21 => ?_)
  refine pm_eqls (ls2 := [.ref l0, .int l1, .int x21, pmU]) rfl ?_
  refine pm_goto (tgt := 12) dX9_ways_36 rfl ?_
  exact hag12 (x21, m20)
set_option maxRecDepth 100000 in
set_option maxHeartbeats 4000000 in
theorem gX9_ways_L12 (hfl : l.flags = flags0) (l0 : Nat) (l1 : Int32) : ∀ (n : Nat) (s : Int32 × pmM), pm_G l Γ zX9_ways (d + 1) 12 [.ref l0, .int l1, .int s.1, pmU] [] s.2 (pm_lp n (X9_ways_L12 l0 l1) s) :=
  pm_loop (lsf := fun s : Int32 × pmM => [.ref l0, .int l1, .int s.1, pmU]) (mf := fun s : Int32 × pmM => s.2) (fun again12 hag12 s12 => by
    unfold X9_ways_L12
    refine pm_iload_n dX9_ways_12 rfl rfl ?_
    refine pm_bipush (v := 12) dX9_ways_13 kb_12 ?_
    refine pm_icmp_gt (tgt := 39) dX9_ways_15 rfl ?_ ?_
    · refine pm_iconst (v := 0) dX9_ways_39 ki_0 ?_
      refine pm_istore_n (ls2 := [.ref l0, .int l1, .int 0, pmU]) dX9_ways_40 rfl rfl (Nat.le_of_ble_eq_true rfl) rfl ?_
      exact gX9_ways_L41 hfl l0 l1 pm_N (0, s12.2)
    · refine pm_aload_n dX9_ways_18 rfl rfl ?_
      refine fg_9_47 (y := zX9_ways) (Or.inl tw_1413) dX9_ways_19 (fun r19 => ?_)
      refine pm_iload_n dX9_ways_22 rfl rfl ?_
      refine pm_iload_n dX9_ways_23 rfl rfl ?_
      refine pm_if_ne (tgt := 31) dX9_ways_24 rfl ?_ ?_
      · refine pm_lconst (v := 0) dX9_ways_31 kl_0 ?_
        exact gX9_ways_j32 hfl again12 l0 l1 s12.1 0 s12.1 r19 s12.2 hag12
      · refine pm_lconst (v := 1) dX9_ways_27 kl_1 ?_
        refine pm_goto (tgt := 32) dX9_ways_28 rfl ?_
        exact gX9_ways_j32 hfl again12 l0 l1 s12.1 1 s12.1 r19 s12.2 hag12)
set_option maxRecDepth 100000 in
set_option maxHeartbeats 4000000 in
theorem kcX9_ways (hfl : l.flags = flags0) (a0 : Nat) (m : pmM) : pm_C l Γ zX9_ways (d + 1) [.ref a0] m (X9_ways a0 m) := by
  refine pm_enter (ls := [.ref a0, pmU, pmU, pmU]) hfl (by decide +kernel) rfl (Nat.le_of_ble_eq_true rfl) rfl (Nat.le_of_ble_eq_true rfl) ?_
  unfold X9_ways
  refine pm_aload_n dX9_ways_0 rfl rfl ?_
  refine pm_iconst (v := 0) dX9_ways_1 ki_0 ?_
  refine fp_9_0 (y := zX9_ways) (Or.inl tw_1366) dX9_ways_2 (fun m1 => ?_)
  refine pm_aload_n dX9_ways_5 rfl rfl ?_
  refine pm_rcv (fun hb9 hc9 => ?_)
  refine pm_kI (d := d + 0) rfl (pm_V (y := zX9_ways) (z := zX9_laysPage) (As := []) zkX9_laysPage pm_q9 (by decide) tw_1817 tw_1819 tw_142 dX9_ways_6 rfl rfl (Nat.le_of_ble_eq_true rfl) hb9 hc9) (kcX9_laysPage (d := d + 0) hfl a0 m1) (fun x3 m2 => ?_)
  refine pm_istore_n (ls2 := [.ref a0, .int x3, pmU, pmU]) dX9_ways_9 rfl rfl (Nat.le_of_ble_eq_true rfl) rfl ?_
  refine pm_iconst (v := 0) dX9_ways_10 ki_0 ?_
  refine pm_istore_n (ls2 := [.ref a0, .int x3, .int 0, pmU]) dX9_ways_11 rfl rfl (Nat.le_of_ble_eq_true rfl) rfl ?_
  exact gX9_ways_L12 hfl a0 x3 pm_N (0, m2)
end GEN23
