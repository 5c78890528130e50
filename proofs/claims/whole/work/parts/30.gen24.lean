section GEN24
variable {l : Launch} {Γ : pmG} {d : Nat}
-- StruckPageModel.unlike(I)J
def X9_unlike_L184 (l0 : Nat) (l1 : Int32) (again184 : (Int64 × Int32 × pmM) → pmR) (s184 : Int64 × Int32 × pmM) : pmR := if (16 : Int32) ≤ s184.2.1 then (pm_oL s184.1 s184.2.2) else (pm_gR 9 l0 48 s184.2.2 fun r8 => pm_ldR 104 r8 l1 s184.2.2 fun r9 => pm_ldL r9 s184.2.1 s184.2.2 fun x10 => pm_bL (s184.1 + x10) fun x11 => pm_bI (s184.2.1 + 1) fun x12 => again184 (x11, x12, s184.2.2))
def X9_unlike_j180 (l0 : Nat) (l1 : Int32) (t0 : Int64) (m : pmM) : pmR := pm_lp pm_N (X9_unlike_L184 l0 l1) (t0, 0, m)
def X9_unlike_j143 (again78 : (Int32 × pmM) → pmR) (again86 : (Int32 × pmM) → pmR) (l0 : Nat) (l1 : Int32) (l2 : Int32) (l3 : Int32) (l4 : Int32) (l5 : Int64) (m : pmM) : pmR := pm_gR 9 l0 48 m fun r14 => pm_ldR 104 r14 l4 m fun r15 => pm_gR 9 l0 40 m fun r16 => pm_ld 100 r16 l3 m fun x17 => pm_stL r15 x17 l5 m fun m18 => pm_bI (l4 + (-1)) fun x19 => again86 (x19, m18)
def X9_unlike_L107 (again78 : (Int32 × pmM) → pmR) (again86 : (Int32 × pmM) → pmR) (l0 : Nat) (l1 : Int32) (l2 : Int32) (l3 : Int32) (l4 : Int32) (again107 : (Int64 × Int32 × pmM) → pmR) (s107 : Int64 × Int32 × pmM) : pmR := if (16 : Int32) ≤ s107.2.1 then (X9_unlike_j143 again78 again86 l0 l1 l2 l3 l4 s107.1 s107.2.2) else (if l4 ≤ 1 then (X9_unlike_j143 again78 again86 l0 l1 l2 l3 l4 s107.1 s107.2.2) else (pm_gR 9 l0 48 s107.2.2 fun r20 => pm_ldR 104 r20 (l4 - 1) s107.2.2 fun r21 => pm_ldL r21 s107.2.1 s107.2.2 fun x22 => pm_bL (s107.1 + x22) fun x23 => pm_bI (s107.2.1 + 1) fun x24 => again107 (x23, x24, s107.2.2)))
def X9_unlike_j102 (again78 : (Int32 × pmM) → pmR) (again86 : (Int32 × pmM) → pmR) (l0 : Nat) (l1 : Int32) (l2 : Int32) (l3 : Int32) (l4 : Int32) (t0 : Int64) (m : pmM) : pmR := pm_lp pm_N (X9_unlike_L107 again78 again86 l0 l1 l2 l3 l4) (t0, 0, m)
def X9_unlike_L86 (again78 : (Int32 × pmM) → pmR) (l0 : Nat) (l1 : Int32) (l2 : Int32) (l3 : Int32) (again86 : (Int32 × pmM) → pmR) (s86 : Int32 × pmM) : pmR := if s86.1 ≤ 0 then (pm_bI (l3 + 1) fun x13 => again78 (x13, s86.2)) else (if s86.1 = 1 then (X9_unlike_j102 again78 again86 l0 l1 l2 l3 s86.1 1 s86.2) else (X9_unlike_j102 again78 again86 l0 l1 l2 l3 s86.1 0 s86.2))
def X9_unlike_L78 (l0 : Nat) (l1 : Int32) (l2 : Int32) (again78 : (Int32 × pmM) → pmR) (s78 : Int32 × pmM) : pmR := if l2 ≤ s78.1 then (if l1 = 0 then (X9_unlike_j180 l0 l1 1 s78.2) else (X9_unlike_j180 l0 l1 0 s78.2)) else (pm_lp pm_N (X9_unlike_L86 again78 l0 l1 l2 s78.1) (l1, s78.2))
def X9_unlike_L47 (again38 : (Int32 × pmM) → pmR) (l0 : Nat) (l1 : Int32) (l2 : Int32) (l3 : Int32) (again47 : (Int32 × pmM) → pmR) (s47 : Int32 × pmM) : pmR := if (16 : Int32) ≤ s47.1 then (pm_bI (l3 + 1) fun x25 => again38 (x25, s47.2)) else (pm_gR 9 l0 48 s47.2 fun r26 => pm_ldR 104 r26 l3 s47.2 fun r27 => pm_stL r27 s47.1 0 s47.2 fun m28 => pm_bI (s47.1 + 1) fun x29 => again47 (x29, m28))
def X9_unlike_L38 (l0 : Nat) (l1 : Int32) (l2 : Int32) (again38 : (Int32 × pmM) → pmR) (s38 : Int32 × pmM) : pmR := if (12 : Int32) < s38.1 then (pm_lp pm_N (X9_unlike_L78 l0 l1 l2) (0, s38.2)) else (pm_lp pm_N (X9_unlike_L47 again38 l0 l1 l2 s38.1) (0, s38.2))
def X9_unlike_j21 (l0 : Nat) (l1 : Int32) (t0 : Int32) (t1 : Nat) (m : pmM) : pmR := pm_rc 9 t1 m <| pm_cI (X9_bad t1 t0 1 1 m) fun x5 m4 => if x5 = 0 then (pm_rc 9 l0 m4 <| pm_cI (X9_laysPage l0 m4) fun x7 m6 => pm_lp pm_N (X9_unlike_L38 l0 l1 x7) (0, m6)) else (pm_oL 0 m4)
def X9_unlike (a0 : Nat) (a1 : Int32) (m : pmM) : pmR := pm_pI 9 a0 0 0 m fun m1 => pm_cI (X9_in a1 0 12 m1) fun x3 m2 => if x3 = 0 then (X9_unlike_j21 a0 a1 1 a0 m2) else (X9_unlike_j21 a0 a1 0 a0 m2)
set_option maxRecDepth 100000 in
set_option maxHeartbeats 4000000 in
theorem gX9_unlike_L184 (hfl : l.flags = flags0) (l0 : Nat) (l1 : Int32) : ∀ (n : Nat) (s : Int64 × Int32 × pmM), pm_G l Γ zX9_unlike (d + 1) 184 [.ref l0, .int l1, pmU, .long s.1, pmU, .int s.2.1, pmU, pmU] [] s.2.2 (pm_lp n (X9_unlike_L184 l0 l1) s) :=
  pm_loop (lsf := fun s : Int64 × Int32 × pmM => [.ref l0, .int l1, pmU, .long s.1, pmU, .int s.2.1, pmU, pmU]) (mf := fun s : Int64 × Int32 × pmM => s.2.2) (fun again184 hag184 s184 => by
    unfold X9_unlike_L184
    refine pm_iload dX9_unlike_184 rfl ?_
    refine pm_bipush (v := 16) dX9_unlike_186 kb_16 ?_
    refine pm_icmp_ge (tgt := 209) dX9_unlike_188 rfl ?_ ?_
    · refine pm_lload_n dX9_unlike_209 rfl rfl ?_
      exact pm_lret rfl dX9_unlike_210
    · refine pm_lload_n dX9_unlike_191 rfl rfl ?_
      refine pm_aload_n dX9_unlike_192 rfl rfl ?_
      refine fg_9_48 (y := zX9_unlike) (Or.inl tw_1414) dX9_unlike_193 (fun r8 => ?_)
      refine pm_iload_n dX9_unlike_196 rfl rfl ?_
      refine pm_aaldL (y := zX9_unlike) dX9_unlike_197 (fun r9 => ?_)
      refine pm_iload dX9_unlike_198 rfl ?_
      refine pm_lald (y := zX9_unlike) dX9_unlike_200 (fun x10 => ?_)
      refine pm_ladd dX9_unlike_201 ?_
      refine pm_bLn (fun x11 => ?_)
      refine pm_lstore_n (ls2 := [.ref l0, .int l1, pmU, .long x11, pmU, .int s184.2.1, pmU, pmU]) dX9_unlike_202 rfl rfl (Nat.le_of_ble_eq_true rfl) rfl ?_
      refine pm_iincn (y := zX9_unlike) dX9_unlike_203 rfl ki_1 rfl (Nat.le_of_ble_eq_true rfl) (fun x12 => ?_)
      refine pm_eqls (ls2 := [.ref l0, .int l1, pmU, .long x11, pmU, .int x12, pmU, pmU]) rfl ?_
      refine pm_goto (tgt := 184) dX9_unlike_206 rfl ?_
      exact hag184 (x11, x12, s184.2.2))
set_option maxRecDepth 100000 in
set_option maxHeartbeats 4000000 in
theorem gX9_unlike_j180 (hfl : l.flags = flags0) (l0 : Nat) (l1 : Int32) (t0 : Int64) (m : pmM) : pm_G l Γ zX9_unlike (d + 1) 180 [.ref l0, .int l1, pmU, pmU, pmU, pmU, pmU, pmU] [.long t0] m (X9_unlike_j180 l0 l1 t0 m) := by
  unfold X9_unlike_j180
  refine pm_lstore_n (ls2 := [.ref l0, .int l1, pmU, .long t0, pmU, pmU, pmU, pmU]) dX9_unlike_180 rfl rfl (Nat.le_of_ble_eq_true rfl) rfl ?_
  refine pm_iconst (v := 0) dX9_unlike_181 ki_0 ?_
  refine pm_istore (ls2 := [.ref l0, .int l1, pmU, .long t0, pmU, .int 0, pmU, pmU]) dX9_unlike_182 rfl (Nat.le_of_ble_eq_true rfl) rfl ?_
  exact gX9_unlike_L184 hfl l0 l1 pm_N (t0, 0, m)
set_option maxRecDepth 100000 in
set_option maxHeartbeats 4000000 in
theorem gX9_unlike_j143 (hfl : l.flags = flags0) (again78 : (Int32 × pmM) → pmR) (again86 : (Int32 × pmM) → pmR) (l0 : Nat) (l1 : Int32) (l2 : Int32) (l3 : Int32) (l4 : Int32) (l5 : Int64) (m : pmM) (hag78 : ∀ s : Int32 × pmM, pm_G l Γ zX9_unlike (d + 1) 78 [.ref l0, .int l1, .int l2, .int s.1, pmU, pmU, pmU, pmU] [] s.2 (again78 s)) (hag86 : ∀ s : Int32 × pmM, pm_G l Γ zX9_unlike (d + 1) 86 [.ref l0, .int l1, .int l2, .int l3, .int s.1, pmU, pmU, pmU] [] s.2 (again86 s)) : pm_G l Γ zX9_unlike (d + 1) 143 [.ref l0, .int l1, .int l2, .int l3, .int l4, .long l5, pmU, pmU] [] m (X9_unlike_j143 again78 again86 l0 l1 l2 l3 l4 l5 m) := by
  unfold X9_unlike_j143
  refine pm_aload_n dX9_unlike_143 rfl rfl ?_
  refine fg_9_48 (y := zX9_unlike) (Or.inl tw_1414) dX9_unlike_144 (fun r14 => ?_)
  refine pm_iload dX9_unlike_147 rfl ?_
  refine pm_aaldL (y := zX9_unlike) dX9_unlike_149 (fun r15 => ?_)
  refine pm_aload_n dX9_unlike_150 rfl rfl ?_
  refine fg_9_40 (y := zX9_unlike) (Or.inl tw_1406) dX9_unlike_151 (fun r16 => ?_)
  refine pm_iload_n dX9_unlike_154 rfl rfl ?_
  refine pm_iald (y := zX9_unlike) dX9_unlike_155 (fun x17 => ?_)
  refine pm_lload dX9_unlike_156 rfl ?_
  refine pm_last (y := zX9_unlike) dX9_unlike_158 (fun m18 => ?_)
  refine pm_iincn (y := zX9_unlike) dX9_unlike_159 rfl ki_n1 rfl (Nat.le_of_ble_eq_true rfl) (fun x19 => ?_)
  refine pm_eqls (ls2 := [.ref l0, .int l1, .int l2, .int l3, .int x19, .long l5, pmU, pmU]) rfl ?_
  refine pm_goto (tgt := 86) dX9_unlike_162 rfl ?_
  refine pm_drop (ls2 := [.ref l0, .int l1, .int l2, .int l3, .int x19, pmU, pmU, pmU]) (Nat.le_refl _) (pm_le_spec (pm_le_v (pm_le_v (pm_le_v (pm_le_v (pm_le_v (pm_le_u (pm_le_u (pm_le_u (pm_le_n)))))))))) ?_
  exact hag86 (x19, m18)
set_option maxRecDepth 100000 in
set_option maxHeartbeats 4000000 in
theorem gX9_unlike_L107 (hfl : l.flags = flags0) (again78 : (Int32 × pmM) → pmR) (again86 : (Int32 × pmM) → pmR) (l0 : Nat) (l1 : Int32) (l2 : Int32) (l3 : Int32) (l4 : Int32) (hag78 : ∀ s : Int32 × pmM, pm_G l Γ zX9_unlike (d + 1) 78 [.ref l0, .int l1, .int l2, .int s.1, pmU, pmU, pmU, pmU] [] s.2 (again78 s)) (hag86 : ∀ s : Int32 × pmM, pm_G l Γ zX9_unlike (d + 1) 86 [.ref l0, .int l1, .int l2, .int l3, .int s.1, pmU, pmU, pmU] [] s.2 (again86 s)) : ∀ (n : Nat) (s : Int64 × Int32 × pmM), pm_G l Γ zX9_unlike (d + 1) 107 [.ref l0, .int l1, .int l2, .int l3, .int l4, .long s.1, pmU, .int s.2.1] [] s.2.2 (pm_lp n (X9_unlike_L107 again78 again86 l0 l1 l2 l3 l4) s) :=
  pm_loop (lsf := fun s : Int64 × Int32 × pmM => [.ref l0, .int l1, .int l2, .int l3, .int l4, .long s.1, pmU, .int s.2.1]) (mf := fun s : Int64 × Int32 × pmM => s.2.2) (fun again107 hag107 s107 => by
    unfold X9_unlike_L107
    refine pm_iload dX9_unlike_107 rfl ?_
    refine pm_bipush (v := 16) dX9_unlike_109 kb_16 ?_
    refine pm_icmp_ge (tgt := 143) dX9_unlike_111 rfl ?_ ?_
    · refine pm_drop (ls2 := [.ref l0, .int l1, .int l2, .int l3, .int l4, .long s107.1, pmU, pmU]) (Nat.le_refl _) (pm_le_spec (pm_le_v (pm_le_v (pm_le_v (pm_le_v (pm_le_v (pm_le_v (pm_le_u (pm_le_u (pm_le_n)))))))))) ?_
      exact gX9_unlike_j143 hfl again78 again86 l0 l1 l2 l3 l4 s107.1 s107.2.2 hag78 hag86
    · refine pm_iload dX9_unlike_114 rfl ?_
      refine pm_iconst (v := 1) dX9_unlike_116 ki_1 ?_
      refine pm_icmp_le (tgt := 143) dX9_unlike_117 rfl ?_ ?_
      · refine pm_drop (ls2 := [.ref l0, .int l1, .int l2, .int l3, .int l4, .long s107.1, pmU, pmU]) (Nat.le_refl _) (pm_le_spec (pm_le_v (pm_le_v (pm_le_v (pm_le_v (pm_le_v (pm_le_v (pm_le_u (pm_le_u (pm_le_n)))))))))) ?_
        exact gX9_unlike_j143 hfl again78 again86 l0 l1 l2 l3 l4 s107.1 s107.2.2 hag78 hag86
      · refine pm_lload dX9_unlike_120 rfl ?_
        refine pm_aload_n dX9_unlike_122 rfl rfl ?_
        refine fg_9_48 (y := zX9_unlike) (Or.inl tw_1414) dX9_unlike_123 (fun r20 => ?_)
        refine pm_iload dX9_unlike_126 rfl ?_
        refine pm_iconst (v := 1) dX9_unlike_128 ki_1 ?_
        refine pm_isub dX9_unlike_129 ?_
        refine pm_aaldL (y := zX9_unlike) dX9_unlike_130 (fun r21 => ?_)
        refine pm_iload dX9_unlike_131 rfl ?_
        refine pm_lald (y := zX9_unlike) dX9_unlike_133 (fun x22 => ?_)
        refine pm_ladd dX9_unlike_134 ?_
        refine pm_bLn (fun x23 => ?_)
        refine pm_lstore (ls2 := [.ref l0, .int l1, .int l2, .int l3, .int l4, .long x23, pmU, .int s107.2.1]) dX9_unlike_135 rfl (Nat.le_of_ble_eq_true rfl) rfl ?_
        refine pm_iincn (y := zX9_unlike) dX9_unlike_137 rfl ki_1 rfl (Nat.le_of_ble_eq_true rfl) (fun x24 => ?_)
        refine pm_eqls (ls2 := [.ref l0, .int l1, .int l2, .int l3, .int l4, .long x23, pmU, .int x24]) rfl ?_
        refine pm_goto (tgt := 107) dX9_unlike_140 rfl ?_
        exact hag107 (x23, x24, s107.2.2))
set_option maxRecDepth 100000 in
set_option maxHeartbeats 4000000 in
theorem gX9_unlike_j102 (hfl : l.flags = flags0) (again78 : (Int32 × pmM) → pmR) (again86 : (Int32 × pmM) → pmR) (l0 : Nat) (l1 : Int32) (l2 : Int32) (l3 : Int32) (l4 : Int32) (t0 : Int64) (m : pmM) (hag78 : ∀ s : Int32 × pmM, pm_G l Γ zX9_unlike (d + 1) 78 [.ref l0, .int l1, .int l2, .int s.1, pmU, pmU, pmU, pmU] [] s.2 (again78 s)) (hag86 : ∀ s : Int32 × pmM, pm_G l Γ zX9_unlike (d + 1) 86 [.ref l0, .int l1, .int l2, .int l3, .int s.1, pmU, pmU, pmU] [] s.2 (again86 s)) : pm_G l Γ zX9_unlike (d + 1) 102 [.ref l0, .int l1, .int l2, .int l3, .int l4, pmU, pmU, pmU] [.long t0] m (X9_unlike_j102 again78 again86 l0 l1 l2 l3 l4 t0 m) := by
  unfold X9_unlike_j102
  refine pm_lstore (ls2 := [.ref l0, .int l1, .int l2, .int l3, .int l4, .long t0, pmU, pmU]) dX9_unlike_102 rfl (Nat.le_of_ble_eq_true rfl) rfl ?_
  refine pm_iconst (v := 0) dX9_unlike_104 ki_0 ?_
  refine pm_istore (ls2 := [.ref l0, .int l1, .int l2, .int l3, .int l4, .long t0, pmU, .int 0]) dX9_unlike_105 rfl (Nat.le_of_ble_eq_true rfl) rfl ?_
  exact gX9_unlike_L107 hfl again78 again86 l0 l1 l2 l3 l4 hag78 hag86 pm_N (t0, 0, m)
set_option maxRecDepth 100000 in
set_option maxHeartbeats 4000000 in
theorem gX9_unlike_L86 (hfl : l.flags = flags0) (again78 : (Int32 × pmM) → pmR) (l0 : Nat) (l1 : Int32) (l2 : Int32) (l3 : Int32) (hag78 : ∀ s : Int32 × pmM, pm_G l Γ zX9_unlike (d + 1) 78 [.ref l0, .int l1, .int l2, .int s.1, pmU, pmU, pmU, pmU] [] s.2 (again78 s)) : ∀ (n : Nat) (s : Int32 × pmM), pm_G l Γ zX9_unlike (d + 1) 86 [.ref l0, .int l1, .int l2, .int l3, .int s.1, pmU, pmU, pmU] [] s.2 (pm_lp n (X9_unlike_L86 again78 l0 l1 l2 l3) s) :=
  pm_loop (lsf := fun s : Int32 × pmM => [.ref l0, .int l1, .int l2, .int l3, .int s.1, pmU, pmU, pmU]) (mf := fun s : Int32 × pmM => s.2) (fun again86 hag86 s86 => by
    unfold X9_unlike_L86
    refine pm_iload dX9_unlike_86 rfl ?_
    refine pm_if_le (tgt := 165) dX9_unlike_88 rfl ?_ ?_
    · refine pm_iincn (y := zX9_unlike) dX9_unlike_165 rfl ki_1 rfl (Nat.le_of_ble_eq_true rfl) (fun x13 => ?_)
      refine pm_eqls (ls2 := [.ref l0, .int l1, .int l2, .int x13, .int s86.1, pmU, pmU, pmU]) rfl ?_
      refine pm_goto (tgt := 78) dX9_unlike_168 rfl ?_
      refine pm_drop (ls2 := [.ref l0, .int l1, .int l2, .int x13, pmU, pmU, pmU, pmU]) (Nat.le_refl _) (pm_le_spec (pm_le_v (pm_le_v (pm_le_v (pm_le_v (pm_le_u (pm_le_u (pm_le_u (pm_le_u (pm_le_n)))))))))) ?_
      exact hag78 (x13, s86.2)
    · refine pm_iload dX9_unlike_91 rfl ?_
      refine pm_iconst (v := 1) dX9_unlike_93 ki_1 ?_
      refine pm_icmp_ne (tgt := 101) dX9_unlike_94 rfl ?_ ?_
      · refine pm_lconst (v := 0) dX9_unlike_101 kl_0 ?_
        exact gX9_unlike_j102 hfl again78 again86 l0 l1 l2 l3 s86.1 0 s86.2 hag78 hag86
      · refine pm_lconst (v := 1) dX9_unlike_97 kl_1 ?_
        refine pm_goto (tgt := 102) dX9_unlike_98 rfl ?_
        exact gX9_unlike_j102 hfl again78 again86 l0 l1 l2 l3 s86.1 1 s86.2 hag78 hag86)
set_option maxRecDepth 100000 in
set_option maxHeartbeats 4000000 in
theorem gX9_unlike_L78 (hfl : l.flags = flags0) (l0 : Nat) (l1 : Int32) (l2 : Int32) : ∀ (n : Nat) (s : Int32 × pmM), pm_G l Γ zX9_unlike (d + 1) 78 [.ref l0, .int l1, .int l2, .int s.1, pmU, pmU, pmU, pmU] [] s.2 (pm_lp n (X9_unlike_L78 l0 l1 l2) s) :=
  pm_loop (lsf := fun s : Int32 × pmM => [.ref l0, .int l1, .int l2, .int s.1, pmU, pmU, pmU, pmU]) (mf := fun s : Int32 × pmM => s.2) (fun again78 hag78 s78 => by
    unfold X9_unlike_L78
    refine pm_iload_n dX9_unlike_78 rfl rfl ?_
    refine pm_iload_n dX9_unlike_79 rfl rfl ?_
    refine pm_icmp_ge (tgt := 171) dX9_unlike_80 rfl ?_ ?_
    · refine pm_iload_n dX9_unlike_171 rfl rfl ?_
      refine pm_if_ne (tgt := 179) dX9_unlike_172 rfl ?_ ?_
      · refine pm_lconst (v := 0) dX9_unlike_179 kl_0 ?_
        refine pm_drop (ls2 := [.ref l0, .int l1, pmU, pmU, pmU, pmU, pmU, pmU]) (Nat.le_refl _) (pm_le_spec (pm_le_v (pm_le_v (pm_le_u (pm_le_u (pm_le_u (pm_le_u (pm_le_u (pm_le_u (pm_le_n)))))))))) ?_
        exact gX9_unlike_j180 hfl l0 l1 0 s78.2
      · refine pm_lconst (v := 1) dX9_unlike_175 kl_1 ?_
        refine pm_goto (tgt := 180) dX9_unlike_176 rfl ?_
        refine pm_drop (ls2 := [.ref l0, .int l1, pmU, pmU, pmU, pmU, pmU, pmU]) (Nat.le_refl _) (pm_le_spec (pm_le_v (pm_le_v (pm_le_u (pm_le_u (pm_le_u (pm_le_u (pm_le_u (pm_le_u (pm_le_n)))))))))) ?_
        exact gX9_unlike_j180 hfl l0 l1 1 s78.2
    · refine pm_iload_n dX9_unlike_83 rfl rfl ?_
      refine pm_istore (ls2 := [.ref l0, .int l1, .int l2, .int s78.1, .int l1, pmU, pmU, pmU]) dX9_unlike_84 rfl (Nat.le_of_ble_eq_true rfl) rfl ?_
      exact gX9_unlike_L86 hfl again78 l0 l1 l2 s78.1 hag78 pm_N (l1, s78.2))
set_option maxRecDepth 100000 in
set_option maxHeartbeats 4000000 in
theorem gX9_unlike_L47 (hfl : l.flags = flags0) (again38 : (Int32 × pmM) → pmR) (l0 : Nat) (l1 : Int32) (l2 : Int32) (l3 : Int32) (hag38 : ∀ s : Int32 × pmM, pm_G l Γ zX9_unlike (d + 1) 38 [.ref l0, .int l1, .int l2, .int s.1, pmU, pmU, pmU, pmU] [] s.2 (again38 s)) : ∀ (n : Nat) (s : Int32 × pmM), pm_G l Γ zX9_unlike (d + 1) 47 [.ref l0, .int l1, .int l2, .int l3, .int s.1, pmU, pmU, pmU] [] s.2 (pm_lp n (X9_unlike_L47 again38 l0 l1 l2 l3) s) :=
  pm_loop (lsf := fun s : Int32 × pmM => [.ref l0, .int l1, .int l2, .int l3, .int s.1, pmU, pmU, pmU]) (mf := fun s : Int32 × pmM => s.2) (fun again47 hag47 s47 => by
    unfold X9_unlike_L47
    refine pm_iload dX9_unlike_47 rfl ?_
    refine pm_bipush (v := 16) dX9_unlike_49 kb_16 ?_
    refine pm_icmp_ge (tgt := 70) dX9_unlike_51 rfl ?_ ?_
    · refine pm_iincn (y := zX9_unlike) dX9_unlike_70 rfl ki_1 rfl (Nat.le_of_ble_eq_true rfl) (fun x25 => ?_)
      refine pm_eqls (ls2 := [.ref l0, .int l1, .int l2, .int x25, .int s47.1, pmU, pmU, pmU]) rfl ?_
      refine pm_goto (tgt := 38) dX9_unlike_73 rfl ?_
      refine pm_drop (ls2 := [.ref l0, .int l1, .int l2, .int x25, pmU, pmU, pmU, pmU]) (Nat.le_refl _) (pm_le_spec (pm_le_v (pm_le_v (pm_le_v (pm_le_v (pm_le_u (pm_le_u (pm_le_u (pm_le_u (pm_le_n)))))))))) ?_
      exact hag38 (x25, s47.2)
    · refine pm_aload_n dX9_unlike_54 rfl rfl ?_
      refine fg_9_48 (y := zX9_unlike) (Or.inl tw_1414) dX9_unlike_55 (fun r26 => ?_)
      refine pm_iload_n dX9_unlike_58 rfl rfl ?_
      refine pm_aaldL (y := zX9_unlike) dX9_unlike_59 (fun r27 => ?_)
      refine pm_iload dX9_unlike_60 rfl ?_
      refine pm_lconst (v := 0) dX9_unlike_62 kl_0 ?_
      refine pm_last (y := zX9_unlike) dX9_unlike_63 (fun m28 => ?_)
      refine pm_iincn (y := zX9_unlike) dX9_unlike_64 rfl ki_1 rfl (Nat.le_of_ble_eq_true rfl) (fun x29 => ?_)
      refine pm_eqls (ls2 := [.ref l0, .int l1, .int l2, .int l3, .int x29, pmU, pmU, pmU]) rfl ?_
      refine pm_goto (tgt := 47) dX9_unlike_67 rfl ?_
      exact hag47 (x29, m28))
set_option maxRecDepth 100000 in
set_option maxHeartbeats 4000000 in
theorem gX9_unlike_L38 (hfl : l.flags = flags0) (l0 : Nat) (l1 : Int32) (l2 : Int32) : ∀ (n : Nat) (s : Int32 × pmM), pm_G l Γ zX9_unlike (d + 1) 38 [.ref l0, .int l1, .int l2, .int s.1, pmU, pmU, pmU, pmU] [] s.2 (pm_lp n (X9_unlike_L38 l0 l1 l2) s) :=
  pm_loop (lsf := fun s : Int32 × pmM => [.ref l0, .int l1, .int l2, .int s.1, pmU, pmU, pmU, pmU]) (mf := fun s : Int32 × pmM => s.2) (fun again38 hag38 s38 => by
    unfold X9_unlike_L38
    refine pm_iload_n dX9_unlike_38 rfl rfl ?_
    refine pm_bipush (v := 12) dX9_unlike_39 kb_12 ?_
    refine pm_icmp_gt (tgt := 76) dX9_unlike_41 rfl ?_ ?_
    · refine pm_iconst (v := 0) dX9_unlike_76 ki_0 ?_
      refine pm_istore_n (ls2 := [.ref l0, .int l1, .int l2, .int 0, pmU, pmU, pmU, pmU]) dX9_unlike_77 rfl rfl (Nat.le_of_ble_eq_true rfl) rfl ?_
      exact gX9_unlike_L78 hfl l0 l1 l2 pm_N (0, s38.2)
    · refine pm_iconst (v := 0) dX9_unlike_44 ki_0 ?_
      refine pm_istore (ls2 := [.ref l0, .int l1, .int l2, .int s38.1, .int 0, pmU, pmU, pmU]) dX9_unlike_45 rfl (Nat.le_of_ble_eq_true rfl) rfl ?_
      exact gX9_unlike_L47 hfl again38 l0 l1 l2 s38.1 hag38 pm_N (0, s38.2))
set_option maxRecDepth 100000 in
set_option maxHeartbeats 4000000 in
theorem gX9_unlike_j21 (hfl : l.flags = flags0) (l0 : Nat) (l1 : Int32) (t0 : Int32) (t1 : Nat) (m : pmM) : pm_G l Γ zX9_unlike (d + 1) 21 [.ref l0, .int l1, pmU, pmU, pmU, pmU, pmU, pmU] [.int t0, .ref t1] m (X9_unlike_j21 l0 l1 t0 t1 m) := by
  unfold X9_unlike_j21
  refine pm_iconst (v := 1) dX9_unlike_21 ki_1 ?_
  refine pm_iconst (v := 1) dX9_unlike_22 ki_1 ?_
  refine pm_rcv (fun hb9 hc9 => ?_)
  refine pm_kI (d := d + 0) rfl (pm_V (y := zX9_unlike) (z := zX9_bad) (As := [.int t0, .int 1, .int 1]) zkX9_bad pm_q9 (by decide) tw_1548 tw_1550 tw_99 dX9_unlike_23 rfl rfl (Nat.le_of_ble_eq_true rfl) hb9 hc9) (kcX9_bad (d := d + 0) hfl t1 t0 1 1 m) (fun x5 m4 => ?_)
  refine pm_if_eq (tgt := 31) dX9_unlike_26 rfl ?_ ?_
  · refine pm_aload_n dX9_unlike_31 rfl rfl ?_
    refine pm_rcv (fun hb9 hc9 => ?_)
    refine pm_kI (d := d + 0) rfl (pm_V (y := zX9_unlike) (z := zX9_laysPage) (As := []) zkX9_laysPage pm_q9 (by decide) tw_1817 tw_1819 tw_142 dX9_unlike_32 rfl rfl (Nat.le_of_ble_eq_true rfl) hb9 hc9) (kcX9_laysPage (d := d + 0) hfl l0 m4) (fun x7 m6 => ?_)
    refine pm_istore_n (ls2 := [.ref l0, .int l1, .int x7, pmU, pmU, pmU, pmU, pmU]) dX9_unlike_35 rfl rfl (Nat.le_of_ble_eq_true rfl) rfl ?_
    refine pm_iconst (v := 0) dX9_unlike_36 ki_0 ?_
    refine pm_istore_n (ls2 := [.ref l0, .int l1, .int x7, .int 0, pmU, pmU, pmU, pmU]) dX9_unlike_37 rfl rfl (Nat.le_of_ble_eq_true rfl) rfl ?_
    exact gX9_unlike_L38 hfl l0 l1 x7 pm_N (0, m6)
  · refine pm_lconst (v := 0) dX9_unlike_29 kl_0 ?_
    exact pm_lret rfl dX9_unlike_30
set_option maxRecDepth 100000 in
set_option maxHeartbeats 4000000 in
theorem kcX9_unlike (hfl : l.flags = flags0) (a0 : Nat) (a1 : Int32) (m : pmM) : pm_C l Γ zX9_unlike (d + 1) [.ref a0, .int a1] m (X9_unlike a0 a1 m) := by
  refine pm_enter (ls := [.ref a0, .int a1, pmU, pmU, pmU, pmU, pmU, pmU]) hfl (by decide +kernel) rfl (Nat.le_of_ble_eq_true rfl) rfl (Nat.le_of_ble_eq_true rfl) ?_
  unfold X9_unlike
  refine pm_aload_n dX9_unlike_0 rfl rfl ?_
  refine pm_iconst (v := 0) dX9_unlike_1 ki_0 ?_
  refine fp_9_0 (y := zX9_unlike) (Or.inl tw_1366) dX9_unlike_2 (fun m1 => ?_)
  refine pm_aload_n dX9_unlike_5 rfl rfl ?_
  refine pm_iload_n dX9_unlike_6 rfl rfl ?_
  refine pm_iconst (v := 0) dX9_unlike_7 ki_0 ?_
  refine pm_bipush (v := 12) dX9_unlike_8 kb_12 ?_
  refine pm_kI (d := d + 0) rfl (pm_S (y := zX9_unlike) (z := zX9_in) (As := [.int a1, .int 0, .int 12]) zkX9_in tw_1545 tw_1546 dX9_unlike_10 rfl rfl (Nat.le_of_ble_eq_true rfl)) (kcX9_in (d := d + 0) hfl a1 0 12 m1) (fun x3 m2 => ?_)
  refine pm_if_ne (tgt := 20) dX9_unlike_13 rfl ?_ ?_
  · refine pm_iconst (v := 0) dX9_unlike_20 ki_0 ?_
    exact gX9_unlike_j21 hfl a0 a1 0 a0 m2
  · refine pm_iconst (v := 1) dX9_unlike_16 ki_1 ?_
    refine pm_goto (tgt := 21) dX9_unlike_17 rfl ?_
    exact gX9_unlike_j21 hfl a0 a1 1 a0 m2
-- StruckPageModel.forged(I)I
def X9_forged_j182 (t0 : Int32) (m : pmM) : pmR := pm_oI t0 m
def X9_forged_j155 (again37 : (Int32 × Int32 × Int32 × pmM) → pmR) (again49 : (Int32 × Int32 × Int32 × pmM) → pmR) (again65 : (Int32 × Int32 × Int32 × pmM) → pmR) (l0 : Nat) (l1 : Int32) (l2 : Int32) (l3 : Int32) (l4 : Int32) (l5 : Int32) (l6 : Int32) (m : pmM) : pmR := pm_bI (l6 + 1) fun x28 => again65 (l2, l3, x28, m)
def X9_forged_j151 (again37 : (Int32 × Int32 × Int32 × pmM) → pmR) (again49 : (Int32 × Int32 × Int32 × pmM) → pmR) (again65 : (Int32 × Int32 × Int32 × pmM) → pmR) (l0 : Nat) (l1 : Int32) (l2 : Int32) (l4 : Int32) (l5 : Int32) (l6 : Int32) (t0 : Int32) (m : pmM) : pmR := pm_bI (l2 + 1) fun x27 => X9_forged_j155 again37 again49 again65 l0 l1 x27 t0 l4 l5 l6 m
def X9_forged_L65 (again37 : (Int32 × Int32 × Int32 × pmM) → pmR) (again49 : (Int32 × Int32 × Int32 × pmM) → pmR) (l0 : Nat) (l1 : Int32) (l4 : Int32) (l5 : Int32) (again65 : (Int32 × Int32 × Int32 × pmM) → pmR) (s65 : Int32 × Int32 × Int32 × pmM) : pmR := pm_gR 9 l0 16 s65.2.2.2 fun r10 => pm_ld 100 r10 l4 s65.2.2.2 fun x11 => if x11 ≤ s65.2.2.1 then (pm_bI (l5 + 1) fun x12 => again49 (s65.1, s65.2.1, x12, s65.2.2.2)) else (pm_gR 9 l0 29 s65.2.2.2 fun r13 => pm_bI ((0 : Int32) + l4) fun x14 => pm_ld 100 r13 x14 s65.2.2.2 fun x15 => pm_cI (X9_span2 l5 s65.2.2.1 s65.2.2.2) fun x17 m16 => pm_st 100 r13 x14 (x15 ^^^ x17) m16 fun m18 => pm_rc 9 l0 m18 <| pm_cI (X9_says l0 m18) fun x20 m19 => pm_gR 9 l0 29 m19 fun r21 => pm_bI ((0 : Int32) + l4) fun x22 => pm_ld 100 r21 x22 m19 fun x23 => pm_cI (X9_span2 l5 s65.2.2.1 m19) fun x25 m24 => pm_st 100 r21 x22 (x23 ^^^ x25) m24 fun m26 => if x20 = 0 then (X9_forged_j155 again37 again49 again65 l0 l1 s65.1 s65.2.1 l4 l5 s65.2.2.1 m26) else (if s65.1 = 0 then (X9_forged_j151 again37 again49 again65 l0 l1 s65.1 l4 l5 s65.2.2.1 ((((100 : Int32) * l4) + ((10 : Int32) * l5)) + s65.2.2.1) m26) else (X9_forged_j151 again37 again49 again65 l0 l1 s65.1 l4 l5 s65.2.2.1 s65.2.1 m26)))
def X9_forged_L49 (again37 : (Int32 × Int32 × Int32 × pmM) → pmR) (l0 : Nat) (l1 : Int32) (l4 : Int32) (again49 : (Int32 × Int32 × Int32 × pmM) → pmR) (s49 : Int32 × Int32 × Int32 × pmM) : pmR := pm_gR 9 l0 16 s49.2.2.2 fun r7 => pm_ld 100 r7 l4 s49.2.2.2 fun x8 => if x8 ≤ s49.2.2.1 then (pm_bI (l4 + 1) fun x9 => again37 (s49.1, s49.2.1, x9, s49.2.2.2)) else (pm_lp pm_N (X9_forged_L65 again37 again49 l0 l1 l4 s49.2.2.1) (s49.1, s49.2.1, s49.2.2.1, s49.2.2.2))
def X9_forged_L37 (l0 : Nat) (l1 : Int32) (again37 : (Int32 × Int32 × Int32 × pmM) → pmR) (s37 : Int32 × Int32 × Int32 × pmM) : pmR := pm_gI 9 l0 13 s37.2.2.2 fun x6 => if x6 ≤ s37.2.2.1 then (if l1 = 0 then (X9_forged_j182 s37.1 s37.2.2.2) else (X9_forged_j182 s37.2.1 s37.2.2.2)) else (pm_lp pm_N (X9_forged_L49 again37 l0 l1 s37.2.2.1) (s37.1, s37.2.1, 0, s37.2.2.2))
def X9_forged_j20 (l0 : Nat) (l1 : Int32) (t0 : Int32) (t1 : Nat) (m : pmM) : pmR := pm_rc 9 t1 m <| pm_cI (X9_bad t1 t0 1 1 m) fun x5 m4 => if x5 = 0 then (pm_lp pm_N (X9_forged_L37 l0 l1) (0, (-1), 0, m4)) else (pm_oI 0 m4)
def X9_forged (a0 : Nat) (a1 : Int32) (m : pmM) : pmR := pm_pI 9 a0 0 0 m fun m1 => pm_cI (X9_in a1 0 1 m1) fun x3 m2 => if x3 = 0 then (X9_forged_j20 a0 a1 1 a0 m2) else (X9_forged_j20 a0 a1 0 a0 m2)
set_option maxRecDepth 100000 in
set_option maxHeartbeats 4000000 in
theorem gX9_forged_j182 (hfl : l.flags = flags0) (t0 : Int32) (m : pmM) : pm_G l Γ zX9_forged (d + 2) 182 [pmU, pmU, pmU, pmU, pmU, pmU, pmU, pmU] [.int t0] m (X9_forged_j182 t0 m) := by
  unfold X9_forged_j182
  exact pm_iret rfl dX9_forged_182
set_option maxRecDepth 100000 in
set_option maxHeartbeats 4000000 in
theorem gX9_forged_j155 (hfl : l.flags = flags0) (again37 : (Int32 × Int32 × Int32 × pmM) → pmR) (again49 : (Int32 × Int32 × Int32 × pmM) → pmR) (again65 : (Int32 × Int32 × Int32 × pmM) → pmR) (l0 : Nat) (l1 : Int32) (l2 : Int32) (l3 : Int32) (l4 : Int32) (l5 : Int32) (l6 : Int32) (m : pmM) (hag37 : ∀ s : Int32 × Int32 × Int32 × pmM, pm_G l Γ zX9_forged (d + 2) 37 [.ref l0, .int l1, .int s.1, .int s.2.1, .int s.2.2.1, pmU, pmU, pmU] [] s.2.2.2 (again37 s)) (hag49 : ∀ s : Int32 × Int32 × Int32 × pmM, pm_G l Γ zX9_forged (d + 2) 49 [.ref l0, .int l1, .int s.1, .int s.2.1, .int l4, .int s.2.2.1, pmU, pmU] [] s.2.2.2 (again49 s)) (hag65 : ∀ s : Int32 × Int32 × Int32 × pmM, pm_G l Γ zX9_forged (d + 2) 65 [.ref l0, .int l1, .int s.1, .int s.2.1, .int l4, .int l5, .int s.2.2.1, pmU] [] s.2.2.2 (again65 s)) : pm_G l Γ zX9_forged (d + 2) 155 [.ref l0, .int l1, .int l2, .int l3, .int l4, .int l5, .int l6, pmU] [] m (X9_forged_j155 again37 again49 again65 l0 l1 l2 l3 l4 l5 l6 m) := by
  unfold X9_forged_j155
  refine pm_iincn (y := zX9_forged) dX9_forged_155 rfl ki_1 rfl (Nat.le_of_ble_eq_true rfl) (fun x28 => ?_)
  refine pm_eqls (ls2 := [.ref l0, .int l1, .int l2, .int l3, .int l4, .int l5, .int x28, pmU]) rfl ?_
  refine pm_goto (tgt := 65) dX9_forged_158 rfl ?_
  exact hag65 (l2, l3, x28, m)
set_option maxRecDepth 100000 in
set_option maxHeartbeats 4000000 in
theorem gX9_forged_j151 (hfl : l.flags = flags0) (again37 : (Int32 × Int32 × Int32 × pmM) → pmR) (again49 : (Int32 × Int32 × Int32 × pmM) → pmR) (again65 : (Int32 × Int32 × Int32 × pmM) → pmR) (l0 : Nat) (l1 : Int32) (l2 : Int32) (l4 : Int32) (l5 : Int32) (l6 : Int32) (t0 : Int32) (m : pmM) (hag37 : ∀ s : Int32 × Int32 × Int32 × pmM, pm_G l Γ zX9_forged (d + 2) 37 [.ref l0, .int l1, .int s.1, .int s.2.1, .int s.2.2.1, pmU, pmU, pmU] [] s.2.2.2 (again37 s)) (hag49 : ∀ s : Int32 × Int32 × Int32 × pmM, pm_G l Γ zX9_forged (d + 2) 49 [.ref l0, .int l1, .int s.1, .int s.2.1, .int l4, .int s.2.2.1, pmU, pmU] [] s.2.2.2 (again49 s)) (hag65 : ∀ s : Int32 × Int32 × Int32 × pmM, pm_G l Γ zX9_forged (d + 2) 65 [.ref l0, .int l1, .int s.1, .int s.2.1, .int l4, .int l5, .int s.2.2.1, pmU] [] s.2.2.2 (again65 s)) : pm_G l Γ zX9_forged (d + 2) 151 [.ref l0, .int l1, .int l2, pmU, .int l4, .int l5, .int l6, pmU] [.int t0] m (X9_forged_j151 again37 again49 again65 l0 l1 l2 l4 l5 l6 t0 m) := by
  unfold X9_forged_j151
  refine pm_istore_n (ls2 := [.ref l0, .int l1, .int l2, .int t0, .int l4, .int l5, .int l6, pmU]) dX9_forged_151 rfl rfl (Nat.le_of_ble_eq_true rfl) rfl ?_
  refine pm_iincn (y := zX9_forged) dX9_forged_152 rfl ki_1 rfl (Nat.le_of_ble_eq_true rfl) (fun x27 => ?_)
  refine pm_eqls (ls2 := [.ref l0, .int l1, .int x27, .int t0, .int l4, .int l5, .int l6, pmU]) rfl ?_
  exact gX9_forged_j155 hfl again37 again49 again65 l0 l1 x27 t0 l4 l5 l6 m hag37 hag49 hag65
set_option maxRecDepth 100000 in
set_option maxHeartbeats 4000000 in
theorem gX9_forged_L65 (hfl : l.flags = flags0) (again37 : (Int32 × Int32 × Int32 × pmM) → pmR) (again49 : (Int32 × Int32 × Int32 × pmM) → pmR) (l0 : Nat) (l1 : Int32) (l4 : Int32) (l5 : Int32) (hag37 : ∀ s : Int32 × Int32 × Int32 × pmM, pm_G l Γ zX9_forged (d + 2) 37 [.ref l0, .int l1, .int s.1, .int s.2.1, .int s.2.2.1, pmU, pmU, pmU] [] s.2.2.2 (again37 s)) (hag49 : ∀ s : Int32 × Int32 × Int32 × pmM, pm_G l Γ zX9_forged (d + 2) 49 [.ref l0, .int l1, .int s.1, .int s.2.1, .int l4, .int s.2.2.1, pmU, pmU] [] s.2.2.2 (again49 s)) : ∀ (n : Nat) (s : Int32 × Int32 × Int32 × pmM), pm_G l Γ zX9_forged (d + 2) 65 [.ref l0, .int l1, .int s.1, .int s.2.1, .int l4, .int l5, .int s.2.2.1, pmU] [] s.2.2.2 (pm_lp n (X9_forged_L65 again37 again49 l0 l1 l4 l5) s) :=
  pm_loop (lsf := fun s : Int32 × Int32 × Int32 × pmM => [.ref l0, .int l1, .int s.1, .int s.2.1, .int l4, .int l5, .int s.2.2.1, pmU]) (mf := fun s : Int32 × Int32 × Int32 × pmM => s.2.2.2) (fun again65 hag65 s65 => by
    unfold X9_forged_L65
    refine pm_iload dX9_forged_65 rfl ?_
    refine pm_aload_n dX9_forged_67 rfl rfl ?_
    refine fg_9_16 (y := zX9_forged) (Or.inl tw_1382) dX9_forged_68 (fun r10 => ?_)
    refine pm_iload dX9_forged_71 rfl ?_
    refine pm_iald (y := zX9_forged) dX9_forged_73 (fun x11 => ?_)
    refine pm_icmp_ge (tgt := 161) dX9_forged_74 rfl ?_ ?_
    · refine pm_iincn (y := zX9_forged) dX9_forged_161 rfl ki_1 rfl (Nat.le_of_ble_eq_true rfl) (fun x12 => ?_)
      refine pm_eqls (ls2 := [.ref l0, .int l1, .int s65.1, .int s65.2.1, .int l4, .int x12, .int s65.2.2.1, pmU]) rfl ?_
      refine pm_goto (tgt := 49) dX9_forged_164 rfl ?_
      refine pm_drop (ls2 := [.ref l0, .int l1, .int s65.1, .int s65.2.1, .int l4, .int x12, pmU, pmU]) (Nat.le_refl _) (pm_le_spec (pm_le_v (pm_le_v (pm_le_v (pm_le_v (pm_le_v (pm_le_v (pm_le_u (pm_le_u (pm_le_n)))))))))) ?_
      exact hag49 (s65.1, s65.2.1, x12, s65.2.2.2)
    · refine pm_aload_n dX9_forged_77 rfl rfl ?_
      refine fg_9_29 (y := zX9_forged) (Or.inl tw_1395) dX9_forged_78 (fun r13 => ?_)
      refine pm_iconst (v := 0) dX9_forged_81 ki_0 ?_
      refine pm_iload dX9_forged_82 rfl ?_
      refine pm_iadd dX9_forged_84 ?_
      refine pm_bIn (fun x14 => ?_)
      refine pm_dup2 dX9_forged_85 rfl rfl ?_
      refine pm_iald (y := zX9_forged) dX9_forged_86 (fun x15 => ?_)
      refine pm_iload dX9_forged_87 rfl ?_
      refine pm_iload dX9_forged_89 rfl ?_
      refine pm_kI (d := d + 1) rfl (pm_S (y := zX9_forged) (z := zX9_span2) (As := [.int l5, .int s65.2.2.1]) zkX9_span2 tw_1697 tw_1698 dX9_forged_91 rfl rfl (Nat.le_of_ble_eq_true rfl)) (kcX9_span2 (d := d + 1) hfl l5 s65.2.2.1 s65.2.2.2) (fun x17 m16 => ?_)
      refine pm_ixor dX9_forged_94 ?_
      refine pm_iast (y := zX9_forged) dX9_forged_95 (fun m18 => ?_)
      refine pm_aload_n dX9_forged_96 rfl rfl ?_
      refine pm_rcv (fun hb9 hc9 => ?_)
      refine pm_kI (d := d + 1) rfl (pm_V (y := zX9_forged) (z := zX9_says) (As := []) zkX9_says pm_q9 (by decide) tw_1853 tw_1814 tw_1815 dX9_forged_97 rfl rfl (Nat.le_of_ble_eq_true rfl) hb9 hc9) (kcX9_says (d := d + 0) hfl l0 m18) (fun x20 m19 => ?_)
      refine pm_istore (ls2 := [.ref l0, .int l1, .int s65.1, .int s65.2.1, .int l4, .int l5, .int s65.2.2.1, .int x20]) dX9_forged_100 rfl (Nat.le_of_ble_eq_true rfl) rfl ?_
      refine pm_aload_n dX9_forged_102 rfl rfl ?_
      refine fg_9_29 (y := zX9_forged) (Or.inl tw_1395) dX9_forged_103 (fun r21 => ?_)
      refine pm_iconst (v := 0) dX9_forged_106 ki_0 ?_
      refine pm_iload dX9_forged_107 rfl ?_
      refine pm_iadd dX9_forged_109 ?_
      refine pm_bIn (fun x22 => ?_)
      refine pm_dup2 dX9_forged_110 rfl rfl ?_
      refine pm_iald (y := zX9_forged) dX9_forged_111 (fun x23 => ?_)
      refine pm_iload dX9_forged_112 rfl ?_
      refine pm_iload dX9_forged_114 rfl ?_
      refine pm_kI (d := d + 1) rfl (pm_S (y := zX9_forged) (z := zX9_span2) (As := [.int l5, .int s65.2.2.1]) zkX9_span2 tw_1697 tw_1698 dX9_forged_116 rfl rfl (Nat.le_of_ble_eq_true rfl)) (kcX9_span2 (d := d + 1) hfl l5 s65.2.2.1 m19) (fun x25 m24 => ?_)
      refine pm_ixor dX9_forged_119 ?_
      refine pm_iast (y := zX9_forged) dX9_forged_120 (fun m26 => ?_)
      refine pm_iload dX9_forged_121 rfl ?_
      refine pm_if_ne (tgt := 129) dX9_forged_123 rfl ?_ ?_
      · refine pm_iload_n dX9_forged_129 rfl rfl ?_
        refine pm_if_ne (tgt := 150) dX9_forged_130 rfl ?_ ?_
        · refine pm_iload_n dX9_forged_150 rfl rfl ?_
          refine pm_drop (ls2 := [.ref l0, .int l1, .int s65.1, pmU, .int l4, .int l5, .int s65.2.2.1, pmU]) (Nat.le_refl _) (pm_le_spec (pm_le_v (pm_le_v (pm_le_v (pm_le_u (pm_le_v (pm_le_v (pm_le_v (pm_le_u (pm_le_n)))))))))) ?_
          exact gX9_forged_j151 hfl again37 again49 again65 l0 l1 s65.1 l4 l5 s65.2.2.1 s65.2.1 m26 hag37 hag49 hag65
        · refine pm_bipush (v := 100) dX9_forged_133 kb_100 ?_
          refine pm_iload dX9_forged_135 rfl ?_
          refine pm_imul dX9_forged_137 ?_
          refine pm_bipush (v := 10) dX9_forged_138 kb_10 ?_
          refine pm_iload dX9_forged_140 rfl ?_
          refine pm_imul dX9_forged_142 ?_
          refine pm_iadd dX9_forged_143 ?_
          refine pm_iload dX9_forged_144 rfl ?_
          refine pm_iadd dX9_forged_146 ?_
          refine pm_goto (tgt := 151) dX9_forged_147 rfl ?_
          refine pm_drop (ls2 := [.ref l0, .int l1, .int s65.1, pmU, .int l4, .int l5, .int s65.2.2.1, pmU]) (Nat.le_refl _) (pm_le_spec (pm_le_v (pm_le_v (pm_le_v (pm_le_u (pm_le_v (pm_le_v (pm_le_v (pm_le_u (pm_le_n)))))))))) ?_
          exact gX9_forged_j151 hfl again37 again49 again65 l0 l1 s65.1 l4 l5 s65.2.2.1 ((((100 : Int32) * l4) + ((10 : Int32) * l5)) + s65.2.2.1) m26 hag37 hag49 hag65
      · refine pm_goto (tgt := 155) dX9_forged_126 rfl ?_
        refine pm_drop (ls2 := [.ref l0, .int l1, .int s65.1, .int s65.2.1, .int l4, .int l5, .int s65.2.2.1, pmU]) (Nat.le_refl _) (pm_le_spec (pm_le_v (pm_le_v (pm_le_v (pm_le_v (pm_le_v (pm_le_v (pm_le_v (pm_le_u (pm_le_n)))))))))) ?_
        exact gX9_forged_j155 hfl again37 again49 again65 l0 l1 s65.1 s65.2.1 l4 l5 s65.2.2.1 m26 hag37 hag49 hag65)
set_option maxRecDepth 100000 in
set_option maxHeartbeats 4000000 in
theorem gX9_forged_L49 (hfl : l.flags = flags0) (again37 : (Int32 × Int32 × Int32 × pmM) → pmR) (l0 : Nat) (l1 : Int32) (l4 : Int32) (hag37 : ∀ s : Int32 × Int32 × Int32 × pmM, pm_G l Γ zX9_forged (d + 2) 37 [.ref l0, .int l1, .int s.1, .int s.2.1, .int s.2.2.1, pmU, pmU, pmU] [] s.2.2.2 (again37 s)) : ∀ (n : Nat) (s : Int32 × Int32 × Int32 × pmM), pm_G l Γ zX9_forged (d + 2) 49 [.ref l0, .int l1, .int s.1, .int s.2.1, .int l4, .int s.2.2.1, pmU, pmU] [] s.2.2.2 (pm_lp n (X9_forged_L49 again37 l0 l1 l4) s) :=
  pm_loop (lsf := fun s : Int32 × Int32 × Int32 × pmM => [.ref l0, .int l1, .int s.1, .int s.2.1, .int l4, .int s.2.2.1, pmU, pmU]) (mf := fun s : Int32 × Int32 × Int32 × pmM => s.2.2.2) (fun again49 hag49 s49 => by
    unfold X9_forged_L49
    refine pm_iload dX9_forged_49 rfl ?_
    refine pm_aload_n dX9_forged_51 rfl rfl ?_
    refine fg_9_16 (y := zX9_forged) (Or.inl tw_1382) dX9_forged_52 (fun r7 => ?_)
    refine pm_iload dX9_forged_55 rfl ?_
    refine pm_iald (y := zX9_forged) dX9_forged_57 (fun x8 => ?_)
    refine pm_icmp_ge (tgt := 167) dX9_forged_58 rfl ?_ ?_
    · refine pm_iincn (y := zX9_forged) dX9_forged_167 rfl ki_1 rfl (Nat.le_of_ble_eq_true rfl) (fun x9 => ?_)
      refine pm_eqls (ls2 := [.ref l0, .int l1, .int s49.1, .int s49.2.1, .int x9, .int s49.2.2.1, pmU, pmU]) rfl ?_
      refine pm_goto (tgt := 37) dX9_forged_170 rfl ?_
      refine pm_drop (ls2 := [.ref l0, .int l1, .int s49.1, .int s49.2.1, .int x9, pmU, pmU, pmU]) (Nat.le_refl _) (pm_le_spec (pm_le_v (pm_le_v (pm_le_v (pm_le_v (pm_le_v (pm_le_u (pm_le_u (pm_le_u (pm_le_n)))))))))) ?_
      exact hag37 (s49.1, s49.2.1, x9, s49.2.2.2)
    · refine pm_iload dX9_forged_61 rfl ?_
      refine pm_istore (ls2 := [.ref l0, .int l1, .int s49.1, .int s49.2.1, .int l4, .int s49.2.2.1, .int s49.2.2.1, pmU]) dX9_forged_63 rfl (Nat.le_of_ble_eq_true rfl) rfl ?_
      exact gX9_forged_L65 hfl again37 again49 l0 l1 l4 s49.2.2.1 hag37 hag49 pm_N (s49.1, s49.2.1, s49.2.2.1, s49.2.2.2))
set_option maxRecDepth 100000 in
set_option maxHeartbeats 4000000 in
theorem gX9_forged_L37 (hfl : l.flags = flags0) (l0 : Nat) (l1 : Int32) : ∀ (n : Nat) (s : Int32 × Int32 × Int32 × pmM), pm_G l Γ zX9_forged (d + 2) 37 [.ref l0, .int l1, .int s.1, .int s.2.1, .int s.2.2.1, pmU, pmU, pmU] [] s.2.2.2 (pm_lp n (X9_forged_L37 l0 l1) s) :=
  pm_loop (lsf := fun s : Int32 × Int32 × Int32 × pmM => [.ref l0, .int l1, .int s.1, .int s.2.1, .int s.2.2.1, pmU, pmU, pmU]) (mf := fun s : Int32 × Int32 × Int32 × pmM => s.2.2.2) (fun again37 hag37 s37 => by
    unfold X9_forged_L37
    refine pm_iload dX9_forged_37 rfl ?_
    refine pm_aload_n dX9_forged_39 rfl rfl ?_
    refine fg_9_13 (y := zX9_forged) (Or.inl tw_1379) dX9_forged_40 (fun x6 => ?_)
    refine pm_icmp_ge (tgt := 173) dX9_forged_43 rfl ?_ ?_
    · refine pm_iload_n dX9_forged_173 rfl rfl ?_
      refine pm_if_ne (tgt := 181) dX9_forged_174 rfl ?_ ?_
      · refine pm_iload_n dX9_forged_181 rfl rfl ?_
        refine pm_drop (ls2 := [pmU, pmU, pmU, pmU, pmU, pmU, pmU, pmU]) (Nat.le_refl _) (pm_le_spec (pm_le_u (pm_le_u (pm_le_u (pm_le_u (pm_le_u (pm_le_u (pm_le_u (pm_le_u (pm_le_n)))))))))) ?_
        exact gX9_forged_j182 hfl s37.2.1 s37.2.2.2
      · refine pm_iload_n dX9_forged_177 rfl rfl ?_
        refine pm_goto (tgt := 182) dX9_forged_178 rfl ?_
        refine pm_drop (ls2 := [pmU, pmU, pmU, pmU, pmU, pmU, pmU, pmU]) (Nat.le_refl _) (pm_le_spec (pm_le_u (pm_le_u (pm_le_u (pm_le_u (pm_le_u (pm_le_u (pm_le_u (pm_le_u (pm_le_n)))))))))) ?_
        exact gX9_forged_j182 hfl s37.1 s37.2.2.2
    · refine pm_iconst (v := 0) dX9_forged_46 ki_0 ?_
      refine pm_istore (ls2 := [.ref l0, .int l1, .int s37.1, .int s37.2.1, .int s37.2.2.1, .int 0, pmU, pmU]) dX9_forged_47 rfl (Nat.le_of_ble_eq_true rfl) rfl ?_
      exact gX9_forged_L49 hfl again37 l0 l1 s37.2.2.1 hag37 pm_N (s37.1, s37.2.1, 0, s37.2.2.2))
set_option maxRecDepth 100000 in
set_option maxHeartbeats 4000000 in
theorem gX9_forged_j20 (hfl : l.flags = flags0) (l0 : Nat) (l1 : Int32) (t0 : Int32) (t1 : Nat) (m : pmM) : pm_G l Γ zX9_forged (d + 2) 20 [.ref l0, .int l1, pmU, pmU, pmU, pmU, pmU, pmU] [.int t0, .ref t1] m (X9_forged_j20 l0 l1 t0 t1 m) := by
  unfold X9_forged_j20
  refine pm_iconst (v := 1) dX9_forged_20 ki_1 ?_
  refine pm_iconst (v := 1) dX9_forged_21 ki_1 ?_
  refine pm_rcv (fun hb9 hc9 => ?_)
  refine pm_kI (d := d + 1) rfl (pm_V (y := zX9_forged) (z := zX9_bad) (As := [.int t0, .int 1, .int 1]) zkX9_bad pm_q9 (by decide) tw_1548 tw_1550 tw_99 dX9_forged_22 rfl rfl (Nat.le_of_ble_eq_true rfl) hb9 hc9) (kcX9_bad (d := d + 1) hfl t1 t0 1 1 m) (fun x5 m4 => ?_)
  refine pm_if_eq (tgt := 30) dX9_forged_25 rfl ?_ ?_
  · refine pm_iconst (v := 0) dX9_forged_30 ki_0 ?_
    refine pm_istore_n (ls2 := [.ref l0, .int l1, .int 0, pmU, pmU, pmU, pmU, pmU]) dX9_forged_31 rfl rfl (Nat.le_of_ble_eq_true rfl) rfl ?_
    refine pm_iconst (v := (-1)) dX9_forged_32 ki_n1 ?_
    refine pm_istore_n (ls2 := [.ref l0, .int l1, .int 0, .int (-1), pmU, pmU, pmU, pmU]) dX9_forged_33 rfl rfl (Nat.le_of_ble_eq_true rfl) rfl ?_
    refine pm_iconst (v := 0) dX9_forged_34 ki_0 ?_
    refine pm_istore (ls2 := [.ref l0, .int l1, .int 0, .int (-1), .int 0, pmU, pmU, pmU]) dX9_forged_35 rfl (Nat.le_of_ble_eq_true rfl) rfl ?_
    exact gX9_forged_L37 hfl l0 l1 pm_N (0, (-1), 0, m4)
  · refine pm_iconst (v := 0) dX9_forged_28 ki_0 ?_
    exact pm_iret rfl dX9_forged_29
set_option maxRecDepth 100000 in
set_option maxHeartbeats 4000000 in
theorem kcX9_forged (hfl : l.flags = flags0) (a0 : Nat) (a1 : Int32) (m : pmM) : pm_C l Γ zX9_forged (d + 2) [.ref a0, .int a1] m (X9_forged a0 a1 m) := by
  refine pm_enter (ls := [.ref a0, .int a1, pmU, pmU, pmU, pmU, pmU, pmU]) hfl (by decide +kernel) rfl (Nat.le_of_ble_eq_true rfl) rfl (Nat.le_of_ble_eq_true rfl) ?_
  unfold X9_forged
  refine pm_aload_n dX9_forged_0 rfl rfl ?_
  refine pm_iconst (v := 0) dX9_forged_1 ki_0 ?_
  refine fp_9_0 (y := zX9_forged) (Or.inl tw_1366) dX9_forged_2 (fun m1 => ?_)
  refine pm_aload_n dX9_forged_5 rfl rfl ?_
  refine pm_iload_n dX9_forged_6 rfl rfl ?_
  refine pm_iconst (v := 0) dX9_forged_7 ki_0 ?_
  refine pm_iconst (v := 1) dX9_forged_8 ki_1 ?_
  refine pm_kI (d := d + 1) rfl (pm_S (y := zX9_forged) (z := zX9_in) (As := [.int a1, .int 0, .int 1]) zkX9_in tw_1545 tw_1546 dX9_forged_9 rfl rfl (Nat.le_of_ble_eq_true rfl)) (kcX9_in (d := d + 1) hfl a1 0 1 m1) (fun x3 m2 => ?_)
  refine pm_if_ne (tgt := 19) dX9_forged_12 rfl ?_ ?_
  · refine pm_iconst (v := 0) dX9_forged_19 ki_0 ?_
    exact gX9_forged_j20 hfl a0 a1 0 a0 m2
  · refine pm_iconst (v := 1) dX9_forged_15 ki_1 ?_
    refine pm_goto (tgt := 20) dX9_forged_16 rfl ?_
    exact gX9_forged_j20 hfl a0 a1 1 a0 m2
-- StruckPageModel.laysPiles()V
def X9_laysPiles_L82 (again2 : (Int32 × pmM) → pmR) (l0 : Nat) (l1 : Int32) (again82 : (Int32 × pmM) → pmR) (s82 : Int32 × pmM) : pmR := pm_gR 9 l0 50 s82.2 fun r1 => pm_ld 101 r1 s82.1 s82.2 fun x2 => if x2 = 0 then (pm_gR 9 l0 49 s82.2 fun r3 => pm_st 100 r3 l1 s82.1 s82.2 fun m4 => pm_bI (l1 + 1) fun x5 => again2 (x5, m4)) else (pm_bI (s82.1 + 1) fun x6 => again82 (x6, s82.2))
def X9_laysPiles_L38 (again2 : (Int32 × pmM) → pmR) (again31 : (Int32 × pmM) → pmR) (l0 : Nat) (l1 : Int32) (l2 : Int32) (again38 : (Int32 × pmM) → pmR) (s38 : Int32 × pmM) : pmR := if l1 < (s38.1 + l2) then (pm_bI (l2 + 1) fun x7 => again31 (x7, s38.2)) else (pm_gR 9 l0 50 s38.2 fun r8 => pm_gR 9 l0 49 s38.2 fun r9 => pm_ld 100 r9 s38.1 s38.2 fun x10 => pm_gR 9 l0 49 s38.2 fun r11 => pm_ld 100 r11 ((l1 - s38.1) - l2) s38.2 fun x12 => pm_st 101 r8 (x10 ^^^ x12) (vp_nar .boolean 1) s38.2 fun m13 => pm_bI (s38.1 + 1) fun x14 => again38 (x14, m13))
def X9_laysPiles_L31 (again2 : (Int32 × pmM) → pmR) (l0 : Nat) (l1 : Int32) (again31 : (Int32 × pmM) → pmR) (s31 : Int32 × pmM) : pmR := if (3 : Int32) ≤ s31.1 then (pm_lp pm_N (X9_laysPiles_L82 again2 l0 l1) (0, s31.2)) else (pm_lp pm_N (X9_laysPiles_L38 again2 again31 l0 l1 s31.1) (0, s31.2))
def X9_laysPiles_L10 (again2 : (Int32 × pmM) → pmR) (l0 : Nat) (l1 : Int32) (again10 : (Int32 × pmM) → pmR) (s10 : Int32 × pmM) : pmR := if (16 : Int32) ≤ s10.1 then (pm_lp pm_N (X9_laysPiles_L31 again2 l0 l1) (1, s10.2)) else (pm_gR 9 l0 50 s10.2 fun r15 => pm_st 101 r15 s10.1 (vp_nar .boolean 0) s10.2 fun m16 => pm_bI (s10.1 + 1) fun x17 => again10 (x17, m16))
def X9_laysPiles_L2 (l0 : Nat) (again2 : (Int32 × pmM) → pmR) (s2 : Int32 × pmM) : pmR := if (8 : Int32) < s2.1 then (pm_oV s2.2) else (pm_lp pm_N (X9_laysPiles_L10 again2 l0 s2.1) (0, s2.2))
def X9_laysPiles (a0 : Nat) (m : pmM) : pmR := pm_lp pm_N (X9_laysPiles_L2 a0) (0, m)
set_option maxRecDepth 100000 in
set_option maxHeartbeats 4000000 in
theorem gX9_laysPiles_L82 (hfl : l.flags = flags0) (again2 : (Int32 × pmM) → pmR) (l0 : Nat) (l1 : Int32) (hag2 : ∀ s : Int32 × pmM, pm_G l Γ zX9_laysPiles (d + 0) 2 [.ref l0, .int s.1, pmU, pmU] [] s.2 (again2 s)) : ∀ (n : Nat) (s : Int32 × pmM), pm_G l Γ zX9_laysPiles (d + 0) 82 [.ref l0, .int l1, .int s.1, pmU] [] s.2 (pm_lp n (X9_laysPiles_L82 again2 l0 l1) s) :=
  pm_loop (lsf := fun s : Int32 × pmM => [.ref l0, .int l1, .int s.1, pmU]) (mf := fun s : Int32 × pmM => s.2) (fun again82 hag82 s82 => by
    unfold X9_laysPiles_L82
    refine pm_aload_n dX9_laysPiles_82 rfl rfl ?_
    refine fg_9_50 (y := zX9_laysPiles) (Or.inl tw_1416) dX9_laysPiles_83 (fun r1 => ?_)
    refine pm_iload_n dX9_laysPiles_86 rfl rfl ?_
    refine pm_zald (y := zX9_laysPiles) dX9_laysPiles_87 (fun x2 => ?_)
    refine pm_if_eq (tgt := 97) dX9_laysPiles_88 rfl ?_ ?_
    · refine pm_aload_n dX9_laysPiles_97 rfl rfl ?_
      refine fg_9_49 (y := zX9_laysPiles) (Or.inl tw_1415) dX9_laysPiles_98 (fun r3 => ?_)
      refine pm_iload_n dX9_laysPiles_101 rfl rfl ?_
      refine pm_iload_n dX9_laysPiles_102 rfl rfl ?_
      refine pm_iast (y := zX9_laysPiles) dX9_laysPiles_103 (fun m4 => ?_)
      refine pm_iincn (y := zX9_laysPiles) dX9_laysPiles_104 rfl ki_1 rfl (Nat.le_of_ble_eq_true rfl) (fun x5 => ?_)
      refine pm_eqls (ls2 := [.ref l0, .int x5, .int s82.1, pmU]) rfl ?_
      refine pm_goto (tgt := 2) dX9_laysPiles_107 rfl ?_
      refine pm_drop (ls2 := [.ref l0, .int x5, pmU, pmU]) (Nat.le_refl _) (pm_le_spec (pm_le_v (pm_le_v (pm_le_u (pm_le_u (pm_le_n)))))) ?_
      exact hag2 (x5, m4)
    · refine pm_iincn (y := zX9_laysPiles) dX9_laysPiles_91 rfl ki_1 rfl (Nat.le_of_ble_eq_true rfl) (fun x6 => ?_)
      refine pm_eqls (ls2 := [.ref l0, .int l1, .int x6, pmU]) rfl ?_
      refine pm_goto (tgt := 82) dX9_laysPiles_94 rfl ?_
      exact hag82 (x6, s82.2))
set_option maxRecDepth 100000 in
set_option maxHeartbeats 4000000 in
theorem gX9_laysPiles_L38 (hfl : l.flags = flags0) (again2 : (Int32 × pmM) → pmR) (again31 : (Int32 × pmM) → pmR) (l0 : Nat) (l1 : Int32) (l2 : Int32) (hag2 : ∀ s : Int32 × pmM, pm_G l Γ zX9_laysPiles (d + 0) 2 [.ref l0, .int s.1, pmU, pmU] [] s.2 (again2 s)) (hag31 : ∀ s : Int32 × pmM, pm_G l Γ zX9_laysPiles (d + 0) 31 [.ref l0, .int l1, .int s.1, pmU] [] s.2 (again31 s)) : ∀ (n : Nat) (s : Int32 × pmM), pm_G l Γ zX9_laysPiles (d + 0) 38 [.ref l0, .int l1, .int l2, .int s.1] [] s.2 (pm_lp n (X9_laysPiles_L38 again2 again31 l0 l1 l2) s) :=
  pm_loop (lsf := fun s : Int32 × pmM => [.ref l0, .int l1, .int l2, .int s.1]) (mf := fun s : Int32 × pmM => s.2) (fun again38 hag38 s38 => by
    unfold X9_laysPiles_L38
    refine pm_iload_n dX9_laysPiles_38 rfl rfl ?_
    refine pm_iload_n dX9_laysPiles_39 rfl rfl ?_
    refine pm_iadd dX9_laysPiles_40 ?_
    refine pm_iload_n dX9_laysPiles_41 rfl rfl ?_
    refine pm_icmp_gt (tgt := 74) dX9_laysPiles_42 rfl ?_ ?_
    · refine pm_iincn (y := zX9_laysPiles) dX9_laysPiles_74 rfl ki_1 rfl (Nat.le_of_ble_eq_true rfl) (fun x7 => ?_)
      refine pm_eqls (ls2 := [.ref l0, .int l1, .int x7, .int s38.1]) rfl ?_
      refine pm_goto (tgt := 31) dX9_laysPiles_77 rfl ?_
      refine pm_drop (ls2 := [.ref l0, .int l1, .int x7, pmU]) (Nat.le_refl _) (pm_le_spec (pm_le_v (pm_le_v (pm_le_v (pm_le_u (pm_le_n)))))) ?_
      exact hag31 (x7, s38.2)
    · refine pm_aload_n dX9_laysPiles_45 rfl rfl ?_
      refine fg_9_50 (y := zX9_laysPiles) (Or.inl tw_1416) dX9_laysPiles_46 (fun r8 => ?_)
      refine pm_aload_n dX9_laysPiles_49 rfl rfl ?_
      refine fg_9_49 (y := zX9_laysPiles) (Or.inl tw_1415) dX9_laysPiles_50 (fun r9 => ?_)
      refine pm_iload_n dX9_laysPiles_53 rfl rfl ?_
      refine pm_iald (y := zX9_laysPiles) dX9_laysPiles_54 (fun x10 => ?_)
      refine pm_aload_n dX9_laysPiles_55 rfl rfl ?_
      refine fg_9_49 (y := zX9_laysPiles) (Or.inl tw_1415) dX9_laysPiles_56 (fun r11 => ?_)
      refine pm_iload_n dX9_laysPiles_59 rfl rfl ?_
      refine pm_iload_n dX9_laysPiles_60 rfl rfl ?_
      refine pm_isub dX9_laysPiles_61 ?_
      refine pm_iload_n dX9_laysPiles_62 rfl rfl ?_
      refine pm_isub dX9_laysPiles_63 ?_
      refine pm_iald (y := zX9_laysPiles) dX9_laysPiles_64 (fun x12 => ?_)
      refine pm_ixor dX9_laysPiles_65 ?_
      refine pm_iconst (v := 1) dX9_laysPiles_66 ki_1 ?_
      refine pm_zast (y := zX9_laysPiles) dX9_laysPiles_67 (fun m13 => ?_)
      refine pm_iincn (y := zX9_laysPiles) dX9_laysPiles_68 rfl ki_1 rfl (Nat.le_of_ble_eq_true rfl) (fun x14 => ?_)
      refine pm_eqls (ls2 := [.ref l0, .int l1, .int l2, .int x14]) rfl ?_
      refine pm_goto (tgt := 38) dX9_laysPiles_71 rfl ?_
      exact hag38 (x14, m13))
set_option maxRecDepth 100000 in
set_option maxHeartbeats 4000000 in
theorem gX9_laysPiles_L31 (hfl : l.flags = flags0) (again2 : (Int32 × pmM) → pmR) (l0 : Nat) (l1 : Int32) (hag2 : ∀ s : Int32 × pmM, pm_G l Γ zX9_laysPiles (d + 0) 2 [.ref l0, .int s.1, pmU, pmU] [] s.2 (again2 s)) : ∀ (n : Nat) (s : Int32 × pmM), pm_G l Γ zX9_laysPiles (d + 0) 31 [.ref l0, .int l1, .int s.1, pmU] [] s.2 (pm_lp n (X9_laysPiles_L31 again2 l0 l1) s) :=
  pm_loop (lsf := fun s : Int32 × pmM => [.ref l0, .int l1, .int s.1, pmU]) (mf := fun s : Int32 × pmM => s.2) (fun again31 hag31 s31 => by
    unfold X9_laysPiles_L31
    refine pm_iload_n dX9_laysPiles_31 rfl rfl ?_
    refine pm_iconst (v := 3) dX9_laysPiles_32 ki_3 ?_
    refine pm_icmp_ge (tgt := 80) dX9_laysPiles_33 rfl ?_ ?_
    · refine pm_iconst (v := 0) dX9_laysPiles_80 ki_0 ?_
      refine pm_istore_n (ls2 := [.ref l0, .int l1, .int 0, pmU]) dX9_laysPiles_81 rfl rfl (Nat.le_of_ble_eq_true rfl) rfl ?_
      exact gX9_laysPiles_L82 hfl again2 l0 l1 hag2 pm_N (0, s31.2)
    · refine pm_iconst (v := 0) dX9_laysPiles_36 ki_0 ?_
      refine pm_istore_n (ls2 := [.ref l0, .int l1, .int s31.1, .int 0]) dX9_laysPiles_37 rfl rfl (Nat.le_of_ble_eq_true rfl) rfl ?_
      exact gX9_laysPiles_L38 hfl again2 again31 l0 l1 s31.1 hag2 hag31 pm_N (0, s31.2))
set_option maxRecDepth 100000 in
set_option maxHeartbeats 4000000 in
theorem gX9_laysPiles_L10 (hfl : l.flags = flags0) (again2 : (Int32 × pmM) → pmR) (l0 : Nat) (l1 : Int32) (hag2 : ∀ s : Int32 × pmM, pm_G l Γ zX9_laysPiles (d + 0) 2 [.ref l0, .int s.1, pmU, pmU] [] s.2 (again2 s)) : ∀ (n : Nat) (s : Int32 × pmM), pm_G l Γ zX9_laysPiles (d + 0) 10 [.ref l0, .int l1, .int s.1, pmU] [] s.2 (pm_lp n (X9_laysPiles_L10 again2 l0 l1) s) :=
  pm_loop (lsf := fun s : Int32 × pmM => [.ref l0, .int l1, .int s.1, pmU]) (mf := fun s : Int32 × pmM => s.2) (fun again10 hag10 s10 => by
    unfold X9_laysPiles_L10
    refine pm_iload_n dX9_laysPiles_10 rfl rfl ?_
    refine pm_bipush (v := 16) dX9_laysPiles_11 kb_16 ?_
    refine pm_icmp_ge (tgt := 29) dX9_laysPiles_13 rfl ?_ ?_
    · refine pm_iconst (v := 1) dX9_laysPiles_29 ki_1 ?_
      refine pm_istore_n (ls2 := [.ref l0, .int l1, .int 1, pmU]) dX9_laysPiles_30 rfl rfl (Nat.le_of_ble_eq_true rfl) rfl ?_
      exact gX9_laysPiles_L31 hfl again2 l0 l1 hag2 pm_N (1, s10.2)
    · refine pm_aload_n dX9_laysPiles_16 rfl rfl ?_
      refine fg_9_50 (y := zX9_laysPiles) (Or.inl tw_1416) dX9_laysPiles_17 (fun r15 => ?_)
      refine pm_iload_n dX9_laysPiles_20 rfl rfl ?_
      refine pm_iconst (v := 0) dX9_laysPiles_21 ki_0 ?_
      refine pm_zast (y := zX9_laysPiles) dX9_laysPiles_22 (fun m16 => ?_)
      refine pm_iincn (y := zX9_laysPiles) dX9_laysPiles_23 rfl ki_1 rfl (Nat.le_of_ble_eq_true rfl) (fun x17 => ?_)
      refine pm_eqls (ls2 := [.ref l0, .int l1, .int x17, pmU]) rfl ?_
      refine pm_goto (tgt := 10) dX9_laysPiles_26 rfl ?_
      exact hag10 (x17, m16))
set_option maxRecDepth 100000 in
set_option maxHeartbeats 4000000 in
theorem gX9_laysPiles_L2 (hfl : l.flags = flags0) (l0 : Nat) : ∀ (n : Nat) (s : Int32 × pmM), pm_G l Γ zX9_laysPiles (d + 0) 2 [.ref l0, .int s.1, pmU, pmU] [] s.2 (pm_lp n (X9_laysPiles_L2 l0) s) :=
  pm_loop (lsf := fun s : Int32 × pmM => [.ref l0, .int s.1, pmU, pmU]) (mf := fun s : Int32 × pmM => s.2) (fun again2 hag2 s2 => by
    unfold X9_laysPiles_L2
    refine pm_iload_n dX9_laysPiles_2 rfl rfl ?_
    refine pm_bipush (v := 8) dX9_laysPiles_3 kb_8 ?_
    refine pm_icmp_gt (tgt := 110) dX9_laysPiles_5 rfl ?_ ?_
    · exact pm_vret rfl dX9_laysPiles_110
    · refine pm_iconst (v := 0) dX9_laysPiles_8 ki_0 ?_
      refine pm_istore_n (ls2 := [.ref l0, .int s2.1, .int 0, pmU]) dX9_laysPiles_9 rfl rfl (Nat.le_of_ble_eq_true rfl) rfl ?_
      exact gX9_laysPiles_L10 hfl again2 l0 s2.1 hag2 pm_N (0, s2.2))
set_option maxRecDepth 100000 in
set_option maxHeartbeats 4000000 in
theorem kcX9_laysPiles (hfl : l.flags = flags0) (a0 : Nat) (m : pmM) : pm_C l Γ zX9_laysPiles (d + 0) [.ref a0] m (X9_laysPiles a0 m) := by
  refine pm_enter (ls := [.ref a0, pmU, pmU, pmU]) hfl (by decide +kernel) rfl (Nat.le_of_ble_eq_true rfl) rfl (Nat.le_of_ble_eq_true rfl) ?_
  unfold X9_laysPiles
  refine pm_iconst (v := 0) dX9_laysPiles_0 ki_0 ?_
  refine pm_istore_n (ls2 := [.ref a0, .int 0, pmU, pmU]) dX9_laysPiles_1 rfl rfl (Nat.le_of_ble_eq_true rfl) rfl ?_
  exact gX9_laysPiles_L2 hfl a0 pm_N (0, m)
-- StruckPageModel.valueOf(II)I
def X9_valueOf_j58 (again8 : (Int32 × Int32 × Int32 × pmM) → pmR) (l0 : Nat) (l1 : Int32) (l2 : Int32) (l3 : Int32) (l4 : Int32) (l5 : Int32) (m : pmM) : pmR := pm_bI (l5 + 1) fun x8 => again8 (l3, l4, x8, m)
def X9_valueOf_j45 (again8 : (Int32 × Int32 × Int32 × pmM) → pmR) (l0 : Nat) (l1 : Int32) (l2 : Int32) (l3 : Int32) (l4 : Int32) (l5 : Int32) (m : pmM) : pmR := pm_gR 9 l0 49 m fun r5 => pm_ld 100 r5 l4 m fun x6 => pm_bI (l3 ^^^ x6) fun x7 => X9_valueOf_j58 again8 l0 l1 l2 x7 0 l5 m
def X9_valueOf_L8 (l0 : Nat) (l1 : Int32) (l2 : Int32) (again8 : (Int32 × Int32 × Int32 × pmM) → pmR) (s8 : Int32 × Int32 × Int32 × pmM) : pmR := pm_gR 9 l0 16 s8.2.2.2 fun r1 => pm_ld 100 r1 l2 s8.2.2.2 fun x2 => if x2 < s8.2.2.1 then (pm_oI s8.1 s8.2.2.2) else (pm_gR 9 l0 16 s8.2.2.2 fun r3 => pm_ld 100 r3 l2 s8.2.2.2 fun x4 => if x4 ≤ s8.2.2.1 then (X9_valueOf_j45 again8 l0 l1 l2 s8.1 s8.2.1 s8.2.2.1 s8.2.2.2) else (pm_cI (X9_has l1 s8.2.2.1 s8.2.2.2) fun x10 m9 => if x10 = 0 then (pm_bI (s8.2.1 + 1) fun x11 => X9_valueOf_j58 again8 l0 l1 l2 s8.1 x11 s8.2.2.1 m9) else (X9_valueOf_j45 again8 l0 l1 l2 s8.1 s8.2.1 s8.2.2.1 m9)))
def X9_valueOf (a0 : Nat) (a1 : Int32) (a2 : Int32) (m : pmM) : pmR := pm_lp pm_N (X9_valueOf_L8 a0 a1 a2) (0, 0, 0, m)
set_option maxRecDepth 100000 in
set_option maxHeartbeats 4000000 in
theorem gX9_valueOf_j58 (hfl : l.flags = flags0) (again8 : (Int32 × Int32 × Int32 × pmM) → pmR) (l0 : Nat) (l1 : Int32) (l2 : Int32) (l3 : Int32) (l4 : Int32) (l5 : Int32) (m : pmM) (hag8 : ∀ s : Int32 × Int32 × Int32 × pmM, pm_G l Γ zX9_valueOf (d + 1) 8 [.ref l0, .int l1, .int l2, .int s.1, .int s.2.1, .int s.2.2.1] [] s.2.2.2 (again8 s)) : pm_G l Γ zX9_valueOf (d + 1) 58 [.ref l0, .int l1, .int l2, .int l3, .int l4, .int l5] [] m (X9_valueOf_j58 again8 l0 l1 l2 l3 l4 l5 m) := by
  unfold X9_valueOf_j58
  refine pm_iincn (y := zX9_valueOf) dX9_valueOf_58 rfl ki_1 rfl (Nat.le_of_ble_eq_true rfl) (fun x8 => ?_)
  refine pm_eqls (ls2 := [.ref l0, .int l1, .int l2, .int l3, .int l4, .int x8]) rfl ?_
  refine pm_goto (tgt := 8) dX9_valueOf_61 rfl ?_
  exact hag8 (l3, l4, x8, m)
set_option maxRecDepth 100000 in
set_option maxHeartbeats 4000000 in
theorem gX9_valueOf_j45 (hfl : l.flags = flags0) (again8 : (Int32 × Int32 × Int32 × pmM) → pmR) (l0 : Nat) (l1 : Int32) (l2 : Int32) (l3 : Int32) (l4 : Int32) (l5 : Int32) (m : pmM) (hag8 : ∀ s : Int32 × Int32 × Int32 × pmM, pm_G l Γ zX9_valueOf (d + 1) 8 [.ref l0, .int l1, .int l2, .int s.1, .int s.2.1, .int s.2.2.1] [] s.2.2.2 (again8 s)) : pm_G l Γ zX9_valueOf (d + 1) 45 [.ref l0, .int l1, .int l2, .int l3, .int l4, .int l5] [] m (X9_valueOf_j45 again8 l0 l1 l2 l3 l4 l5 m) := by
  unfold X9_valueOf_j45
  refine pm_iload_n dX9_valueOf_45 rfl rfl ?_
  refine pm_aload_n dX9_valueOf_46 rfl rfl ?_
  refine fg_9_49 (y := zX9_valueOf) (Or.inl tw_1415) dX9_valueOf_47 (fun r5 => ?_)
  refine pm_iload dX9_valueOf_50 rfl ?_
  refine pm_iald (y := zX9_valueOf) dX9_valueOf_52 (fun x6 => ?_)
  refine pm_ixor dX9_valueOf_53 ?_
  refine pm_bIn (fun x7 => ?_)
  refine pm_istore_n (ls2 := [.ref l0, .int l1, .int l2, .int x7, .int l4, .int l5]) dX9_valueOf_54 rfl rfl (Nat.le_of_ble_eq_true rfl) rfl ?_
  refine pm_iconst (v := 0) dX9_valueOf_55 ki_0 ?_
  refine pm_istore (ls2 := [.ref l0, .int l1, .int l2, .int x7, .int 0, .int l5]) dX9_valueOf_56 rfl (Nat.le_of_ble_eq_true rfl) rfl ?_
  exact gX9_valueOf_j58 hfl again8 l0 l1 l2 x7 0 l5 m hag8
set_option maxRecDepth 100000 in
set_option maxHeartbeats 4000000 in
theorem gX9_valueOf_L8 (hfl : l.flags = flags0) (l0 : Nat) (l1 : Int32) (l2 : Int32) : ∀ (n : Nat) (s : Int32 × Int32 × Int32 × pmM), pm_G l Γ zX9_valueOf (d + 1) 8 [.ref l0, .int l1, .int l2, .int s.1, .int s.2.1, .int s.2.2.1] [] s.2.2.2 (pm_lp n (X9_valueOf_L8 l0 l1 l2) s) :=
  pm_loop (lsf := fun s : Int32 × Int32 × Int32 × pmM => [.ref l0, .int l1, .int l2, .int s.1, .int s.2.1, .int s.2.2.1]) (mf := fun s : Int32 × Int32 × Int32 × pmM => s.2.2.2) (fun again8 hag8 s8 => by
    unfold X9_valueOf_L8
    refine pm_iload dX9_valueOf_8 rfl ?_
    refine pm_aload_n dX9_valueOf_10 rfl rfl ?_
    refine fg_9_16 (y := zX9_valueOf) (Or.inl tw_1382) dX9_valueOf_11 (fun r1 => ?_)
    refine pm_iload_n dX9_valueOf_14 rfl rfl ?_
    refine pm_iald (y := zX9_valueOf) dX9_valueOf_15 (fun x2 => ?_)
    refine pm_icmp_gt (tgt := 64) dX9_valueOf_16 rfl ?_ ?_
    · refine pm_iload_n dX9_valueOf_64 rfl rfl ?_
      exact pm_iret rfl dX9_valueOf_65
    · refine pm_iload dX9_valueOf_19 rfl ?_
      refine pm_aload_n dX9_valueOf_21 rfl rfl ?_
      refine fg_9_16 (y := zX9_valueOf) (Or.inl tw_1382) dX9_valueOf_22 (fun r3 => ?_)
      refine pm_iload_n dX9_valueOf_25 rfl rfl ?_
      refine pm_iald (y := zX9_valueOf) dX9_valueOf_26 (fun x4 => ?_)
      refine pm_icmp_ge (tgt := 45) dX9_valueOf_27 rfl ?_ ?_
      · exact gX9_valueOf_j45 hfl again8 l0 l1 l2 s8.1 s8.2.1 s8.2.2.1 s8.2.2.2 hag8
      · refine pm_iload_n dX9_valueOf_30 rfl rfl ?_
        refine pm_iload dX9_valueOf_31 rfl ?_
        refine pm_kI (d := d + 0) rfl (pm_S (y := zX9_valueOf) (z := zX9_has) (As := [.int l1, .int s8.2.2.1]) zkX9_has tw_1748 tw_1749 dX9_valueOf_33 rfl rfl (Nat.le_of_ble_eq_true rfl)) (kcX9_has (d := d + 0) hfl l1 s8.2.2.1 s8.2.2.2) (fun x10 m9 => ?_)
        refine pm_if_ne (tgt := 45) dX9_valueOf_36 rfl ?_ ?_
        · exact gX9_valueOf_j45 hfl again8 l0 l1 l2 s8.1 s8.2.1 s8.2.2.1 m9 hag8
        · refine pm_iincn (y := zX9_valueOf) dX9_valueOf_39 rfl ki_1 rfl (Nat.le_of_ble_eq_true rfl) (fun x11 => ?_)
          refine pm_eqls (ls2 := [.ref l0, .int l1, .int l2, .int s8.1, .int x11, .int s8.2.2.1]) rfl ?_
          refine pm_goto (tgt := 58) dX9_valueOf_42 rfl ?_
          exact gX9_valueOf_j58 hfl again8 l0 l1 l2 s8.1 x11 s8.2.2.1 m9 hag8)
set_option maxRecDepth 100000 in
set_option maxHeartbeats 4000000 in
theorem kcX9_valueOf (hfl : l.flags = flags0) (a0 : Nat) (a1 : Int32) (a2 : Int32) (m : pmM) : pm_C l Γ zX9_valueOf (d + 1) [.ref a0, .int a1, .int a2] m (X9_valueOf a0 a1 a2 m) := by
  refine pm_enter (ls := [.ref a0, .int a1, .int a2, pmU, pmU, pmU]) hfl (by decide +kernel) rfl (Nat.le_of_ble_eq_true rfl) rfl (Nat.le_of_ble_eq_true rfl) ?_
  unfold X9_valueOf
  refine pm_iconst (v := 0) dX9_valueOf_0 ki_0 ?_
  refine pm_istore_n (ls2 := [.ref a0, .int a1, .int a2, .int 0, pmU, pmU]) dX9_valueOf_1 rfl rfl (Nat.le_of_ble_eq_true rfl) rfl ?_
  refine pm_iconst (v := 0) dX9_valueOf_2 ki_0 ?_
  refine pm_istore (ls2 := [.ref a0, .int a1, .int a2, .int 0, .int 0, pmU]) dX9_valueOf_3 rfl (Nat.le_of_ble_eq_true rfl) rfl ?_
  refine pm_iconst (v := 0) dX9_valueOf_5 ki_0 ?_
  refine pm_istore (ls2 := [.ref a0, .int a1, .int a2, .int 0, .int 0, .int 0]) dX9_valueOf_6 rfl (Nat.le_of_ble_eq_true rfl) rfl ?_
  exact gX9_valueOf_L8 hfl a0 a1 a2 pm_N (0, 0, 0, m)
end GEN24
