section GEN9
variable {l : Launch} {Γ : pmG} {d : Nat}
-- StruckPage$Text.put(I)V
def X7_put_j49 (m : pmM) : pmR := pm_oV m
def X7_put_L3 (l0 : Nat) (l1 : Int32) (again3 : (Int32 × pmM) → pmR) (s3 : Int32 × pmM) : pmR := if s3.1 < 0 then (X7_put_j49 s3.2) else (pm_gI 7 l0 1 s3.2 fun x1 => if (600 : Int32) ≤ x1 then (X7_put_j49 s3.2) else (pm_gR 7 l0 0 s3.2 fun r2 => pm_gI 7 l0 1 s3.2 fun x3 => pm_st 100 r2 x3 (((l1.toUInt32 >>> (s3.1.toUInt32 &&& Int32.toUInt32 31)).toInt32) &&& 255) s3.2 fun m4 => pm_gI 7 l0 1 m4 fun x5 => pm_pI 7 l0 1 (x5 + 1) m4 fun m6 => pm_bI (s3.1 + (-8)) fun x7 => again3 (x7, m6)))
def X7_put (a0 : Nat) (a1 : Int32) (m : pmM) : pmR := pm_lp pm_N (X7_put_L3 a0 a1) (24, m)
set_option maxRecDepth 100000 in
set_option maxHeartbeats 4000000 in
theorem gX7_put_j49 (hfl : l.flags = flags0) (m : pmM) : pm_G l Γ zX7_put (d + 0) 49 [pmU, pmU, pmU] [] m (X7_put_j49 m) := by
  unfold X7_put_j49
  exact pm_vret rfl dX7_put_49
set_option maxRecDepth 100000 in
set_option maxHeartbeats 4000000 in
theorem gX7_put_L3 (hfl : l.flags = flags0) (l0 : Nat) (l1 : Int32) : ∀ (n : Nat) (s : Int32 × pmM), pm_G l Γ zX7_put (d + 0) 3 [.ref l0, .int l1, .int s.1] [] s.2 (pm_lp n (X7_put_L3 l0 l1) s) :=
  pm_loop (lsf := fun s : Int32 × pmM => [.ref l0, .int l1, .int s.1]) (mf := fun s : Int32 × pmM => s.2) (fun again3 hag3 s3 => by
    unfold X7_put_L3
    refine pm_iload_n dX7_put_3 rfl rfl ?_
    refine pm_if_lt (tgt := 49) dX7_put_4 rfl ?_ ?_
    · refine pm_drop (ls2 := [pmU, pmU, pmU]) (Nat.le_refl _) (pm_le_spec (pm_le_u (pm_le_u (pm_le_u (pm_le_n))))) ?_
      exact gX7_put_j49 hfl s3.2
    · refine pm_aload_n dX7_put_7 rfl rfl ?_
      refine fg_7_1 (y := zX7_put) (Or.inl tw_194) dX7_put_8 (fun x1 => ?_)
      refine pm_sipush (v := 600) dX7_put_11 ks_600 ?_
      refine pm_icmp_ge (tgt := 49) dX7_put_14 rfl ?_ ?_
      · refine pm_drop (ls2 := [pmU, pmU, pmU]) (Nat.le_refl _) (pm_le_spec (pm_le_u (pm_le_u (pm_le_u (pm_le_n))))) ?_
        exact gX7_put_j49 hfl s3.2
      · refine pm_aload_n dX7_put_17 rfl rfl ?_
        refine fg_7_0 (y := zX7_put) (Or.inl tw_192) dX7_put_18 (fun r2 => ?_)
        refine pm_aload_n dX7_put_21 rfl rfl ?_
        refine fg_7_1 (y := zX7_put) (Or.inl tw_194) dX7_put_22 (fun x3 => ?_)
        refine pm_iload_n dX7_put_25 rfl rfl ?_
        refine pm_iload_n dX7_put_26 rfl rfl ?_
        refine pm_iushr dX7_put_27 ?_
        refine pm_sipush (v := 255) dX7_put_28 ks_255 ?_
        refine pm_iand dX7_put_31 ?_
        refine pm_iast (y := zX7_put) dX7_put_32 (fun m4 => ?_)
        refine pm_aload_n dX7_put_33 rfl rfl ?_
        refine pm_dup dX7_put_34 rfl ?_
        refine fg_7_1 (y := zX7_put) (Or.inl tw_194) dX7_put_35 (fun x5 => ?_)
        refine pm_iconst (v := 1) dX7_put_38 ki_1 ?_
        refine pm_iadd dX7_put_39 ?_
        refine fp_7_1 (y := zX7_put) (Or.inl tw_194) dX7_put_40 (fun m6 => ?_)
        refine pm_iincn (y := zX7_put) dX7_put_43 rfl ki_n8 rfl (Nat.le_of_ble_eq_true rfl) (fun x7 => ?_)
        refine pm_eqls (ls2 := [.ref l0, .int l1, .int x7]) rfl ?_
        refine pm_goto (tgt := 3) dX7_put_46 rfl ?_
        exact hag3 (x7, m6))
set_option maxRecDepth 100000 in
set_option maxHeartbeats 4000000 in
theorem kcX7_put (hfl : l.flags = flags0) (a0 : Nat) (a1 : Int32) (m : pmM) : pm_C l Γ zX7_put (d + 0) [.ref a0, .int a1] m (X7_put a0 a1 m) := by
  refine pm_enter (ls := [.ref a0, .int a1, pmU]) hfl (by decide +kernel) rfl (Nat.le_of_ble_eq_true rfl) rfl (Nat.le_of_ble_eq_true rfl) ?_
  unfold X7_put
  refine pm_bipush (v := 24) dX7_put_0 kb_24 ?_
  refine pm_istore_n (ls2 := [.ref a0, .int a1, .int 24]) dX7_put_2 rfl rfl (Nat.le_of_ble_eq_true rfl) rfl ?_
  exact gX7_put_L3 hfl a0 a1 pm_N (24, m)
-- StruckPage$Text.open(I)V
def X7_open (a0 : Nat) (a1 : Int32) (m : pmM) : pmR := pm_pI 7 a0 2 (if (600 : Int32) < a1 then 600 else a1) m fun m1 => pm_pI 7 a0 1 0 m1 fun m2 => pm_pI 7 a0 3 0 m2 fun m3 => pm_pI 7 a0 6 0 m3 fun m4 => pm_pI 7 a0 7 (-1) m4 fun m5 => pm_oV m5
set_option maxRecDepth 100000 in
set_option maxHeartbeats 4000000 in
theorem kcX7_open (hfl : l.flags = flags0) (a0 : Nat) (a1 : Int32) (m : pmM) : pm_C l Γ zX7_open (d + 0) [.ref a0, .int a1] m (X7_open a0 a1 m) := by
  refine pm_enter (ls := [.ref a0, .int a1]) hfl (by decide +kernel) rfl (Nat.le_of_ble_eq_true rfl) rfl (Nat.le_of_ble_eq_true rfl) ?_
  unfold X7_open
  refine pm_aload_n dX7_open_0 rfl rfl ?_
  refine pm_iload_n dX7_open_1 rfl rfl ?_
  refine pm_sipush (v := 600) dX7_open_2 ks_600 ?_
  refine pm_min (y := zX7_open) tw_759 tw_590 tw_171 tw_591 dX7_open_5 (Nat.le_of_ble_eq_true rfl) ?_
  refine fp_7_2 (y := zX7_open) (Or.inl tw_195) dX7_open_8 (fun m1 => ?_)
  refine pm_aload_n dX7_open_11 rfl rfl ?_
  refine pm_iconst (v := 0) dX7_open_12 ki_0 ?_
  refine fp_7_1 (y := zX7_open) (Or.inl tw_194) dX7_open_13 (fun m2 => ?_)
  refine pm_aload_n dX7_open_16 rfl rfl ?_
  refine pm_iconst (v := 0) dX7_open_17 ki_0 ?_
  refine fp_7_3 (y := zX7_open) (Or.inl tw_197) dX7_open_18 (fun m3 => ?_)
  refine pm_aload_n dX7_open_21 rfl rfl ?_
  refine pm_iconst (v := 0) dX7_open_22 ki_0 ?_
  refine fp_7_6 (y := zX7_open) (Or.inl tw_209) dX7_open_23 (fun m4 => ?_)
  refine pm_aload_n dX7_open_26 rfl rfl ?_
  refine pm_iconst (v := (-1)) dX7_open_27 ki_n1 ?_
  refine fp_7_7 (y := zX7_open) (Or.inl tw_211) dX7_open_28 (fun m5 => ?_)
  exact pm_vret rfl dX7_open_31
-- StruckPage.<init>()V
def X8_init (a0 : Nat) (m : pmM) : pmR := pm_nw 7 8 m fun r1 m2 => pm_cV (X7_init r1 m2) fun m3 => pm_pR 8 a0 0 r1 m3 fun m4 => pm_nw 2 6 m4 fun r5 m6 => pm_cV (X2_init r5 m6) fun m7 => pm_pR 8 a0 1 r5 m7 fun m8 => pm_nw 2 6 m8 fun r9 m10 => pm_cV (X2_init r9 m10) fun m11 => pm_pR 8 a0 2 r9 m11 fun m12 => pm_nw 1 4 m12 fun r13 m14 => pm_cV (X1_init r13 m14) fun m15 => pm_pR 8 a0 3 r13 m15 fun m16 => pm_nw 1 4 m16 fun r17 m18 => pm_cV (X1_init r17 m18) fun m19 => pm_pR 8 a0 4 r17 m19 fun m20 => pm_nw 3 2 m20 fun r21 m22 => pm_cV (X3_init r21 m22) fun m23 => pm_pR 8 a0 5 r21 m23 fun m24 => pm_nw 3 2 m24 fun r25 m26 => pm_cV (X3_init r25 m26) fun m27 => pm_pR 8 a0 6 r25 m27 fun m28 => pm_nw 6 10 m28 fun r29 m30 => pm_cV (X6_init r29 m30) fun m31 => pm_pR 8 a0 7 r29 m31 fun m32 => pm_nw 0 9 m32 fun r33 m34 => pm_gR 8 a0 1 m34 fun r35 => pm_gR 8 a0 3 m34 fun r36 => pm_cV (X0_init r33 r35 r36 m34) fun m37 => pm_pR 8 a0 8 r33 m37 fun m38 => pm_nw 0 9 m38 fun r39 m40 => pm_gR 8 a0 1 m40 fun r41 => pm_gR 8 a0 3 m40 fun r42 => pm_cV (X0_init r39 r41 r42 m40) fun m43 => pm_pR 8 a0 9 r39 m43 fun m44 => pm_nw 5 4 m44 fun r45 m46 => pm_cV (X5_init r45 m46) fun m47 => pm_pR 8 a0 10 r45 m47 fun m48 => pm_nw 4 6 m48 fun r49 m50 => pm_gR 8 a0 1 m50 fun r51 => pm_cV (X4_init r49 r51 m50) fun m52 => pm_pR 8 a0 11 r49 m52 fun m53 => pm_oV m53
set_option maxRecDepth 100000 in
set_option maxHeartbeats 4000000 in
theorem kcX8_init (hfl : l.flags = flags0) (a0 : Nat) (m : pmM) : pm_C l Γ zX8_init (d + 2) [.ref a0] m (X8_init a0 m) := by
  refine pm_enter (ls := [.ref a0]) hfl (by decide +kernel) rfl (Nat.le_of_ble_eq_true rfl) rfl (Nat.le_of_ble_eq_true rfl) ?_
  unfold X8_init
  refine pm_aload_n dX8_init_0 rfl rfl ?_
  refine pm_oinit (y := zX8_init) tw_183 tw_184 tw_185 dX8_init_1 (Nat.le_of_ble_eq_true rfl) ?_
  refine pm_aload_n dX8_init_4 rfl rfl ?_
  refine pm_newn (y := zX8_init) pm_k7 pm_kd7 tw_186 tw_187 tw_157 dX8_init_5 (fun r1 m2 => ?_)
  refine pm_dup dX8_init_8 rfl ?_
  refine pm_kV (d := d + 1) rfl (pm_IN (y := zX8_init) (z := zX7_init) (As := []) zkX7_init rfl rfl tw_188 tw_189 dX8_init_9 rfl rfl (Nat.le_of_ble_eq_true rfl)) (kcX7_init (d := d + 1) hfl r1 m2) (fun m3 => ?_)
  refine fp_8_0 (y := zX8_init) ⟨tw_439, rfl⟩ dX8_init_12 (fun m4 => ?_)
  refine pm_aload_n dX8_init_15 rfl rfl ?_
  refine pm_newn (y := zX8_init) pm_k2 pm_kd2 tw_231 tw_232 tw_158 dX8_init_16 (fun r5 m6 => ?_)
  refine pm_dup dX8_init_19 rfl ?_
  refine pm_kV (d := d + 1) rfl (pm_IN (y := zX8_init) (z := zX2_init) (As := []) zkX2_init rfl rfl tw_233 tw_234 dX8_init_20 rfl rfl (Nat.le_of_ble_eq_true rfl)) (kcX2_init (d := d + 1) hfl r5 m6) (fun m7 => ?_)
  refine fp_8_1 (y := zX8_init) ⟨tw_440, rfl⟩ dX8_init_23 (fun m8 => ?_)
  refine pm_aload_n dX8_init_26 rfl rfl ?_
  refine pm_newn (y := zX8_init) pm_k2 pm_kd2 tw_231 tw_232 tw_158 dX8_init_27 (fun r9 m10 => ?_)
  refine pm_dup dX8_init_30 rfl ?_
  refine pm_kV (d := d + 1) rfl (pm_IN (y := zX8_init) (z := zX2_init) (As := []) zkX2_init rfl rfl tw_233 tw_234 dX8_init_31 rfl rfl (Nat.le_of_ble_eq_true rfl)) (kcX2_init (d := d + 1) hfl r9 m10) (fun m11 => ?_)
  refine fp_8_2 (y := zX8_init) ⟨tw_441, rfl⟩ dX8_init_34 (fun m12 => ?_)
  refine pm_aload_n dX8_init_37 rfl rfl ?_
  refine pm_newn (y := zX8_init) pm_k1 pm_kd1 tw_266 tw_267 tw_159 dX8_init_38 (fun r13 m14 => ?_)
  refine pm_dup dX8_init_41 rfl ?_
  refine pm_kV (d := d + 1) rfl (pm_IN (y := zX8_init) (z := zX1_init) (As := []) zkX1_init rfl rfl tw_268 tw_269 dX8_init_42 rfl rfl (Nat.le_of_ble_eq_true rfl)) (kcX1_init (d := d + 0) hfl r13 m14) (fun m15 => ?_)
  refine fp_8_3 (y := zX8_init) ⟨tw_442, rfl⟩ dX8_init_45 (fun m16 => ?_)
  refine pm_aload_n dX8_init_48 rfl rfl ?_
  refine pm_newn (y := zX8_init) pm_k1 pm_kd1 tw_266 tw_267 tw_159 dX8_init_49 (fun r17 m18 => ?_)
  refine pm_dup dX8_init_52 rfl ?_
  refine pm_kV (d := d + 1) rfl (pm_IN (y := zX8_init) (z := zX1_init) (As := []) zkX1_init rfl rfl tw_268 tw_269 dX8_init_53 rfl rfl (Nat.le_of_ble_eq_true rfl)) (kcX1_init (d := d + 0) hfl r17 m18) (fun m19 => ?_)
  refine fp_8_4 (y := zX8_init) ⟨tw_443, rfl⟩ dX8_init_56 (fun m20 => ?_)
  refine pm_aload_n dX8_init_59 rfl rfl ?_
  refine pm_newn (y := zX8_init) pm_k3 pm_kd3 tw_294 tw_295 tw_161 dX8_init_60 (fun r21 m22 => ?_)
  refine pm_dup dX8_init_63 rfl ?_
  refine pm_kV (d := d + 1) rfl (pm_IN (y := zX8_init) (z := zX3_init) (As := []) zkX3_init rfl rfl tw_296 tw_297 dX8_init_64 rfl rfl (Nat.le_of_ble_eq_true rfl)) (kcX3_init (d := d + 1) hfl r21 m22) (fun m23 => ?_)
  refine fp_8_5 (y := zX8_init) ⟨tw_444, rfl⟩ dX8_init_67 (fun m24 => ?_)
  refine pm_aload_n dX8_init_70 rfl rfl ?_
  refine pm_newn (y := zX8_init) pm_k3 pm_kd3 tw_294 tw_295 tw_161 dX8_init_71 (fun r25 m26 => ?_)
  refine pm_dup dX8_init_74 rfl ?_
  refine pm_kV (d := d + 1) rfl (pm_IN (y := zX8_init) (z := zX3_init) (As := []) zkX3_init rfl rfl tw_296 tw_297 dX8_init_75 rfl rfl (Nat.le_of_ble_eq_true rfl)) (kcX3_init (d := d + 1) hfl r25 m26) (fun m27 => ?_)
  refine fp_8_6 (y := zX8_init) ⟨tw_445, rfl⟩ dX8_init_78 (fun m28 => ?_)
  refine pm_aload_n dX8_init_81 rfl rfl ?_
  refine pm_newn (y := zX8_init) pm_k6 pm_kd6 tw_312 tw_313 tw_162 dX8_init_82 (fun r29 m30 => ?_)
  refine pm_dup dX8_init_85 rfl ?_
  refine pm_kV (d := d + 1) rfl (pm_IN (y := zX8_init) (z := zX6_init) (As := []) zkX6_init rfl rfl tw_314 tw_315 dX8_init_86 rfl rfl (Nat.le_of_ble_eq_true rfl)) (kcX6_init (d := d + 1) hfl r29 m30) (fun m31 => ?_)
  refine fp_8_7 (y := zX8_init) ⟨tw_446, rfl⟩ dX8_init_89 (fun m32 => ?_)
  refine pm_aload_n dX8_init_92 rfl rfl ?_
  refine pm_newn (y := zX8_init) pm_k0 pm_kd0 tw_352 tw_353 tw_163 dX8_init_93 (fun r33 m34 => ?_)
  refine pm_dup dX8_init_96 rfl ?_
  refine pm_aload_n dX8_init_97 rfl rfl ?_
  refine fg_8_1 (y := zX8_init) (Or.inl tw_440) dX8_init_98 (fun r35 => ?_)
  refine pm_aload_n dX8_init_101 rfl rfl ?_
  refine fg_8_3 (y := zX8_init) (Or.inl tw_442) dX8_init_102 (fun r36 => ?_)
  refine pm_kV (d := d + 1) rfl (pm_IN (y := zX8_init) (z := zX0_init) (As := [.ref r35, .ref r36]) zkX0_init rfl rfl tw_354 tw_355 dX8_init_105 rfl rfl (Nat.le_of_ble_eq_true rfl)) (kcX0_init (d := d + 1) hfl r33 r35 r36 m34) (fun m37 => ?_)
  refine fp_8_8 (y := zX8_init) ⟨tw_447, rfl⟩ dX8_init_108 (fun m38 => ?_)
  refine pm_aload_n dX8_init_111 rfl rfl ?_
  refine pm_newn (y := zX8_init) pm_k0 pm_kd0 tw_352 tw_353 tw_163 dX8_init_112 (fun r39 m40 => ?_)
  refine pm_dup dX8_init_115 rfl ?_
  refine pm_aload_n dX8_init_116 rfl rfl ?_
  refine fg_8_1 (y := zX8_init) (Or.inl tw_440) dX8_init_117 (fun r41 => ?_)
  refine pm_aload_n dX8_init_120 rfl rfl ?_
  refine fg_8_3 (y := zX8_init) (Or.inl tw_442) dX8_init_121 (fun r42 => ?_)
  refine pm_kV (d := d + 1) rfl (pm_IN (y := zX8_init) (z := zX0_init) (As := [.ref r41, .ref r42]) zkX0_init rfl rfl tw_354 tw_355 dX8_init_124 rfl rfl (Nat.le_of_ble_eq_true rfl)) (kcX0_init (d := d + 1) hfl r39 r41 r42 m40) (fun m43 => ?_)
  refine fp_8_9 (y := zX8_init) ⟨tw_448, rfl⟩ dX8_init_127 (fun m44 => ?_)
  refine pm_aload_n dX8_init_130 rfl rfl ?_
  refine pm_newn (y := zX8_init) pm_k5 pm_kd5 tw_392 tw_393 tw_164 dX8_init_131 (fun r45 m46 => ?_)
  refine pm_dup dX8_init_134 rfl ?_
  refine pm_kV (d := d + 1) rfl (pm_IN (y := zX8_init) (z := zX5_init) (As := []) zkX5_init rfl rfl tw_394 tw_395 dX8_init_135 rfl rfl (Nat.le_of_ble_eq_true rfl)) (kcX5_init (d := d + 1) hfl r45 m46) (fun m47 => ?_)
  refine fp_8_10 (y := zX8_init) ⟨tw_449, rfl⟩ dX8_init_138 (fun m48 => ?_)
  refine pm_aload_n dX8_init_141 rfl rfl ?_
  refine pm_newn (y := zX8_init) pm_k4 pm_kd4 tw_413 tw_414 tw_165 dX8_init_142 (fun r49 m50 => ?_)
  refine pm_dup dX8_init_145 rfl ?_
  refine pm_aload_n dX8_init_146 rfl rfl ?_
  refine fg_8_1 (y := zX8_init) (Or.inl tw_440) dX8_init_147 (fun r51 => ?_)
  refine pm_kV (d := d + 1) rfl (pm_IN (y := zX8_init) (z := zX4_init) (As := [.ref r51]) zkX4_init rfl rfl tw_415 tw_416 dX8_init_150 rfl rfl (Nat.le_of_ble_eq_true rfl)) (kcX4_init (d := d + 1) hfl r49 r51 m50) (fun m52 => ?_)
  refine fp_8_11 (y := zX8_init) ⟨tw_450, rfl⟩ dX8_init_153 (fun m53 => ?_)
  exact pm_vret rfl dX8_init_156
-- StruckPage.feed(IIIII)I
def X8_feed (a0 : Nat) (a1 : Int32) (a2 : Int32) (a3 : Int32) (a4 : Int32) (a5 : Int32) (m : pmM) : pmR := pm_gR 8 a0 0 m fun r1 => pm_gI 7 r1 1 m fun x2 => if (x2 + 20) ≤ 600 then (pm_gR 8 a0 0 m fun r3 => pm_rc 7 r3 m <| pm_cV (X7_put r3 a1 m) fun m4 => pm_gR 8 a0 0 m4 fun r5 => pm_rc 7 r5 m4 <| pm_cV (X7_put r5 a2 m4) fun m6 => pm_gR 8 a0 0 m6 fun r7 => pm_rc 7 r7 m6 <| pm_cV (X7_put r7 a3 m6) fun m8 => pm_gR 8 a0 0 m8 fun r9 => pm_rc 7 r9 m8 <| pm_cV (X7_put r9 a4 m8) fun m10 => pm_gR 8 a0 0 m10 fun r11 => pm_rc 7 r11 m10 <| pm_cV (X7_put r11 a5 m10) fun m12 => pm_gR 8 a0 0 m12 fun r13 => pm_gI 7 r13 1 m12 fun x14 => pm_oI x14 m12) else (pm_oI (-1) m)
set_option maxRecDepth 100000 in
set_option maxHeartbeats 4000000 in
theorem kcX8_feed (hfl : l.flags = flags0) (a0 : Nat) (a1 : Int32) (a2 : Int32) (a3 : Int32) (a4 : Int32) (a5 : Int32) (m : pmM) : pm_C l Γ zX8_feed (d + 1) [.ref a0, .int a1, .int a2, .int a3, .int a4, .int a5] m (X8_feed a0 a1 a2 a3 a4 a5 m) := by
  refine pm_enter (ls := [.ref a0, .int a1, .int a2, .int a3, .int a4, .int a5]) hfl (by decide +kernel) rfl (Nat.le_of_ble_eq_true rfl) rfl (Nat.le_of_ble_eq_true rfl) ?_
  unfold X8_feed
  refine pm_aload_n dX8_feed_0 rfl rfl ?_
  refine fg_8_0 (y := zX8_feed) (Or.inl tw_439) dX8_feed_1 (fun r1 => ?_)
  refine fg_7_1 (y := zX8_feed) (Or.inr tw_193) dX8_feed_4 (fun x2 => ?_)
  refine pm_bipush (v := 20) dX8_feed_7 kb_20 ?_
  refine pm_iadd dX8_feed_9 ?_
  refine pm_sipush (v := 600) dX8_feed_10 ks_600 ?_
  refine pm_icmp_le (tgt := 18) dX8_feed_13 rfl ?_ ?_
  · refine pm_aload_n dX8_feed_18 rfl rfl ?_
    refine fg_8_0 (y := zX8_feed) (Or.inl tw_439) dX8_feed_19 (fun r3 => ?_)
    refine pm_iload_n dX8_feed_22 rfl rfl ?_
    refine pm_rcv (fun hb9 hc9 => ?_)
    refine pm_kV (d := d + 0) rfl (pm_VN (y := zX8_feed) (z := zX7_put) (As := [.int a1]) zkX7_put pm_q7 (by decide) tw_489 tw_491 tw_1 dX8_feed_23 rfl rfl (Nat.le_of_ble_eq_true rfl) hb9 hc9) (kcX7_put (d := d + 0) hfl r3 a1 m) (fun m4 => ?_)
    refine pm_aload_n dX8_feed_26 rfl rfl ?_
    refine fg_8_0 (y := zX8_feed) (Or.inl tw_439) dX8_feed_27 (fun r5 => ?_)
    refine pm_iload_n dX8_feed_30 rfl rfl ?_
    refine pm_rcv (fun hb9 hc9 => ?_)
    refine pm_kV (d := d + 0) rfl (pm_VN (y := zX8_feed) (z := zX7_put) (As := [.int a2]) zkX7_put pm_q7 (by decide) tw_489 tw_491 tw_1 dX8_feed_31 rfl rfl (Nat.le_of_ble_eq_true rfl) hb9 hc9) (kcX7_put (d := d + 0) hfl r5 a2 m4) (fun m6 => ?_)
    refine pm_aload_n dX8_feed_34 rfl rfl ?_
    refine fg_8_0 (y := zX8_feed) (Or.inl tw_439) dX8_feed_35 (fun r7 => ?_)
    refine pm_iload_n dX8_feed_38 rfl rfl ?_
    refine pm_rcv (fun hb9 hc9 => ?_)
    refine pm_kV (d := d + 0) rfl (pm_VN (y := zX8_feed) (z := zX7_put) (As := [.int a3]) zkX7_put pm_q7 (by decide) tw_489 tw_491 tw_1 dX8_feed_39 rfl rfl (Nat.le_of_ble_eq_true rfl) hb9 hc9) (kcX7_put (d := d + 0) hfl r7 a3 m6) (fun m8 => ?_)
    refine pm_aload_n dX8_feed_42 rfl rfl ?_
    refine fg_8_0 (y := zX8_feed) (Or.inl tw_439) dX8_feed_43 (fun r9 => ?_)
    refine pm_iload dX8_feed_46 rfl ?_
    refine pm_rcv (fun hb9 hc9 => ?_)
    refine pm_kV (d := d + 0) rfl (pm_VN (y := zX8_feed) (z := zX7_put) (As := [.int a4]) zkX7_put pm_q7 (by decide) tw_489 tw_491 tw_1 dX8_feed_48 rfl rfl (Nat.le_of_ble_eq_true rfl) hb9 hc9) (kcX7_put (d := d + 0) hfl r9 a4 m8) (fun m10 => ?_)
    refine pm_aload_n dX8_feed_51 rfl rfl ?_
    refine fg_8_0 (y := zX8_feed) (Or.inl tw_439) dX8_feed_52 (fun r11 => ?_)
    refine pm_iload dX8_feed_55 rfl ?_
    refine pm_rcv (fun hb9 hc9 => ?_)
    refine pm_kV (d := d + 0) rfl (pm_VN (y := zX8_feed) (z := zX7_put) (As := [.int a5]) zkX7_put pm_q7 (by decide) tw_489 tw_491 tw_1 dX8_feed_57 rfl rfl (Nat.le_of_ble_eq_true rfl) hb9 hc9) (kcX7_put (d := d + 0) hfl r11 a5 m10) (fun m12 => ?_)
    refine pm_aload_n dX8_feed_60 rfl rfl ?_
    refine fg_8_0 (y := zX8_feed) (Or.inl tw_439) dX8_feed_61 (fun r13 => ?_)
    refine fg_7_1 (y := zX8_feed) (Or.inr tw_193) dX8_feed_64 (fun x14 => ?_)
    exact pm_iret rfl dX8_feed_67
  · refine pm_iconst (v := (-1)) dX8_feed_16 ki_n1 ?_
    exact pm_iret rfl dX8_feed_17
-- StruckPage.must(Z)V
def X8_must (a0 : Nat) (a1 : Int32) (m : pmM) : pmR := if a1 = 0 then (pm_gI 8 a0 14 m fun x1 => pm_pI 8 a0 14 (x1 + 1) m fun m2 => some (.inr 1, pm_al m2 (199, 0, fun _ => none) 6)) else (pm_oV m)
set_option maxRecDepth 100000 in
set_option maxHeartbeats 4000000 in
theorem kcX8_must (hfl : l.flags = flags0) (a0 : Nat) (a1 : Int32) (m : pmM) : pm_C l Γ zX8_must (d + 0) [.ref a0, .int a1] m (X8_must a0 a1 m) := by
  refine pm_enter (ls := [.ref a0, .int a1]) hfl (by decide +kernel) rfl (Nat.le_of_ble_eq_true rfl) rfl (Nat.le_of_ble_eq_true rfl) ?_
  unfold X8_must
  refine pm_iload_n dX8_must_0 rfl rfl ?_
  refine pm_if_ne (tgt := 25) dX8_must_1 rfl ?_ ?_
  · exact pm_vret rfl dX8_must_25
  · refine pm_aload_n dX8_must_4 rfl rfl ?_
    refine pm_dup dX8_must_5 rfl ?_
    refine fg_8_14 (y := zX8_must) (Or.inl tw_453) dX8_must_6 (fun x1 => ?_)
    refine pm_iconst (v := 1) dX8_must_9 ki_1 ?_
    refine pm_iadd dX8_must_10 ?_
    refine fp_8_14 (y := zX8_must) (Or.inl tw_453) dX8_must_11 (fun m2 => ?_)
    exact pm_throwW (k := 1) (y := zX8_must) (ik := 353) (is := 355) (ic := 357) (text := "out of what the document allows") rfl px_355 (Nat.le_of_ble_eq_true rfl) dX8_must_14 dX8_must_17 dX8_must_18 dX8_must_21 dX8_must_24
-- StruckPage.openText(II)V
def X8_openText_j26 (l0 : Nat) (l1 : Int32) (t0 : Int32) (t1 : Nat) (m : pmM) : pmR := pm_rc 8 t1 m <| pm_cV (X8_must t1 t0 m) fun m1 => pm_gR 8 l0 0 m1 fun r2 => pm_rc 7 r2 m1 <| pm_cV (X7_open r2 l1 m1) fun m3 => pm_oV m3
def X8_openText_j25 (l0 : Nat) (l1 : Int32) (t0 : Nat) (m : pmM) : pmR := X8_openText_j26 l0 l1 0 t0 m
def X8_openText (a0 : Nat) (a1 : Int32) (a2 : Int32) (m : pmM) : pmR := if a1 < 0 then (X8_openText_j25 a0 a1 a0 m) else (if a2 < a1 then (X8_openText_j25 a0 a1 a0 m) else (pm_gR 8 a0 0 m fun r4 => pm_gI 7 r4 1 m fun x5 => if x5 < a1 then (X8_openText_j25 a0 a1 a0 m) else (X8_openText_j26 a0 a1 1 a0 m)))
set_option maxRecDepth 100000 in
set_option maxHeartbeats 4000000 in
theorem gX8_openText_j26 (hfl : l.flags = flags0) (l0 : Nat) (l1 : Int32) (t0 : Int32) (t1 : Nat) (m : pmM) : pm_G l Γ zX8_openText (d + 1) 26 [.ref l0, .int l1, pmU] [.int t0, .ref t1] m (X8_openText_j26 l0 l1 t0 t1 m) := by
  unfold X8_openText_j26
  refine pm_rcv (fun hb9 hc9 => ?_)
  refine pm_kV (d := d + 0) rfl (pm_V (y := zX8_openText) (z := zX8_must) (As := [.int t0]) zkX8_must pm_q8 (by decide) tw_684 tw_686 tw_30 dX8_openText_26 rfl rfl (Nat.le_of_ble_eq_true rfl) hb9 hc9) (kcX8_must (d := d + 0) hfl t1 t0 m) (fun m1 => ?_)
  refine pm_aload_n dX8_openText_29 rfl rfl ?_
  refine fg_8_0 (y := zX8_openText) (Or.inl tw_439) dX8_openText_30 (fun r2 => ?_)
  refine pm_iload_n dX8_openText_33 rfl rfl ?_
  refine pm_rcv (fun hb9 hc9 => ?_)
  refine pm_kV (d := d + 0) rfl (pm_VN (y := zX8_openText) (z := zX7_open) (As := [.int l1]) zkX7_open pm_q7 (by decide) tw_755 tw_757 tw_32 dX8_openText_34 rfl rfl (Nat.le_of_ble_eq_true rfl) hb9 hc9) (kcX7_open (d := d + 0) hfl r2 l1 m1) (fun m3 => ?_)
  exact pm_vret rfl dX8_openText_37
set_option maxRecDepth 100000 in
set_option maxHeartbeats 4000000 in
theorem gX8_openText_j25 (hfl : l.flags = flags0) (l0 : Nat) (l1 : Int32) (t0 : Nat) (m : pmM) : pm_G l Γ zX8_openText (d + 1) 25 [.ref l0, .int l1, pmU] [.ref t0] m (X8_openText_j25 l0 l1 t0 m) := by
  unfold X8_openText_j25
  refine pm_iconst (v := 0) dX8_openText_25 ki_0 ?_
  exact gX8_openText_j26 hfl l0 l1 0 t0 m
set_option maxRecDepth 100000 in
set_option maxHeartbeats 4000000 in
theorem kcX8_openText (hfl : l.flags = flags0) (a0 : Nat) (a1 : Int32) (a2 : Int32) (m : pmM) : pm_C l Γ zX8_openText (d + 1) [.ref a0, .int a1, .int a2] m (X8_openText a0 a1 a2 m) := by
  refine pm_enter (ls := [.ref a0, .int a1, .int a2]) hfl (by decide +kernel) rfl (Nat.le_of_ble_eq_true rfl) rfl (Nat.le_of_ble_eq_true rfl) ?_
  unfold X8_openText
  refine pm_aload_n dX8_openText_0 rfl rfl ?_
  refine pm_iload_n dX8_openText_1 rfl rfl ?_
  refine pm_if_lt (tgt := 25) dX8_openText_2 rfl ?_ ?_
  · refine pm_drop (ls2 := [.ref a0, .int a1, pmU]) (Nat.le_refl _) (pm_le_spec (pm_le_v (pm_le_v (pm_le_u (pm_le_n))))) ?_
    exact gX8_openText_j25 hfl a0 a1 a0 m
  · refine pm_iload_n dX8_openText_5 rfl rfl ?_
    refine pm_iload_n dX8_openText_6 rfl rfl ?_
    refine pm_icmp_gt (tgt := 25) dX8_openText_7 rfl ?_ ?_
    · refine pm_drop (ls2 := [.ref a0, .int a1, pmU]) (Nat.le_refl _) (pm_le_spec (pm_le_v (pm_le_v (pm_le_u (pm_le_n))))) ?_
      exact gX8_openText_j25 hfl a0 a1 a0 m
    · refine pm_iload_n dX8_openText_10 rfl rfl ?_
      refine pm_aload_n dX8_openText_11 rfl rfl ?_
      refine fg_8_0 (y := zX8_openText) (Or.inl tw_439) dX8_openText_12 (fun r4 => ?_)
      refine fg_7_1 (y := zX8_openText) (Or.inr tw_193) dX8_openText_15 (fun x5 => ?_)
      refine pm_icmp_gt (tgt := 25) dX8_openText_18 rfl ?_ ?_
      · refine pm_drop (ls2 := [.ref a0, .int a1, pmU]) (Nat.le_refl _) (pm_le_spec (pm_le_v (pm_le_v (pm_le_u (pm_le_n))))) ?_
        exact gX8_openText_j25 hfl a0 a1 a0 m
      · refine pm_iconst (v := 1) dX8_openText_21 ki_1 ?_
        refine pm_goto (tgt := 26) dX8_openText_22 rfl ?_
        refine pm_drop (ls2 := [.ref a0, .int a1, pmU]) (Nat.le_refl _) (pm_le_spec (pm_le_v (pm_le_v (pm_le_u (pm_le_n))))) ?_
        exact gX8_openText_j26 hfl a0 a1 1 a0 m
-- StruckPage.page(I)I
def X8_page (a0 : Nat) (a1 : Int32) (m : pmM) : pmR := pm_rc 8 a0 m <| pm_cV (X8_openText a0 a1 600 m) fun m1 => pm_gR 8 a0 2 m1 fun r2 => pm_gR 8 a0 0 m1 fun r3 => pm_rc 2 r2 m1 <| pm_cI (X2_readFrom r2 r3 m1) fun x5 m4 => if x5 = 0 then (pm_gR 8 a0 0 m4 fun r20 => pm_gI 7 r20 6 m4 fun x21 => pm_oI (x21 - 10) m4) else (pm_gR 8 a0 1 m4 fun r6 => pm_gR 8 a0 2 m4 fun r7 => pm_rc 2 r6 m4 <| pm_cV (X2_takeOver r6 r7 m4) fun m8 => pm_gR 8 a0 3 m8 fun r9 => pm_rc 1 r9 m8 <| pm_cV (X1_makePlain r9 m8) fun m10 => pm_gR 8 a0 5 m10 fun r11 => pm_pI 3 r11 1 0 m10 fun m12 => pm_gR 8 a0 10 m12 fun r13 => pm_rc 5 r13 m12 <| pm_cV (X5_clear r13 m12) fun m14 => pm_gR 8 a0 8 m14 fun r15 => pm_rc 0 r15 m14 <| pm_cV (X0_startAnew r15 m14) fun m16 => pm_pI 8 a0 12 0 m16 fun m17 => pm_gR 8 a0 1 m17 fun r18 => pm_gI 2 r18 4 m17 fun x19 => pm_oI x19 m17)
set_option maxRecDepth 100000 in
set_option maxHeartbeats 4000000 in
theorem kcX8_page (hfl : l.flags = flags0) (a0 : Nat) (a1 : Int32) (m : pmM) : pm_C l Γ zX8_page (d + 8) [.ref a0, .int a1] m (X8_page a0 a1 m) := by
  refine pm_enter (ls := [.ref a0, .int a1]) hfl (by decide +kernel) rfl (Nat.le_of_ble_eq_true rfl) rfl (Nat.le_of_ble_eq_true rfl) ?_
  unfold X8_page
  refine pm_aload_n dX8_page_0 rfl rfl ?_
  refine pm_iload_n dX8_page_1 rfl rfl ?_
  refine pm_sipush (v := 600) dX8_page_2 ks_600 ?_
  refine pm_rcv (fun hb9 hc9 => ?_)
  refine pm_kV (d := d + 7) rfl (pm_V (y := zX8_page) (z := zX8_openText) (As := [.int a1, .int 600]) zkX8_openText pm_q8 (by decide) tw_680 tw_682 tw_29 dX8_page_5 rfl rfl (Nat.le_of_ble_eq_true rfl) hb9 hc9) (kcX8_openText (d := d + 6) hfl a0 a1 600 m) (fun m1 => ?_)
  refine pm_aload_n dX8_page_8 rfl rfl ?_
  refine fg_8_2 (y := zX8_page) (Or.inl tw_441) dX8_page_9 (fun r2 => ?_)
  refine pm_aload_n dX8_page_12 rfl rfl ?_
  refine fg_8_0 (y := zX8_page) (Or.inl tw_439) dX8_page_13 (fun r3 => ?_)
  refine pm_rcv (fun hb9 hc9 => ?_)
  refine pm_kI (d := d + 7) rfl (pm_VN (y := zX8_page) (z := zX2_readFrom) (As := [.ref r3]) zkX2_readFrom pm_q2 (by decide) tw_760 tw_762 tw_33 dX8_page_16 rfl rfl (Nat.le_of_ble_eq_true rfl) hb9 hc9) (kcX2_readFrom (d := d + 0) hfl r2 r3 m1) (fun x5 m4 => ?_)
  refine pm_if_ne (tgt := 33) dX8_page_19 rfl ?_ ?_
  · refine pm_aload_n dX8_page_33 rfl rfl ?_
    refine fg_8_1 (y := zX8_page) (Or.inl tw_440) dX8_page_34 (fun r6 => ?_)
    refine pm_aload_n dX8_page_37 rfl rfl ?_
    refine fg_8_2 (y := zX8_page) (Or.inl tw_441) dX8_page_38 (fun r7 => ?_)
    refine pm_rcv (fun hb9 hc9 => ?_)
    refine pm_kV (d := d + 7) rfl (pm_VN (y := zX8_page) (z := zX2_takeOver) (As := [.ref r7]) zkX2_takeOver pm_q2 (by decide) tw_866 tw_868 tw_46 dX8_page_41 rfl rfl (Nat.le_of_ble_eq_true rfl) hb9 hc9) (kcX2_takeOver (d := d + 7) hfl r6 r7 m4) (fun m8 => ?_)
    refine pm_aload_n dX8_page_44 rfl rfl ?_
    refine fg_8_3 (y := zX8_page) (Or.inl tw_442) dX8_page_45 (fun r9 => ?_)
    refine pm_rcv (fun hb9 hc9 => ?_)
    refine pm_kV (d := d + 7) rfl (pm_VN (y := zX8_page) (z := zX1_makePlain) (As := []) zkX1_makePlain pm_q1 (by decide) tw_871 tw_274 tw_0 dX8_page_48 rfl rfl (Nat.le_of_ble_eq_true rfl) hb9 hc9) (kcX1_makePlain (d := d + 7) hfl r9 m8) (fun m10 => ?_)
    refine pm_aload_n dX8_page_51 rfl rfl ?_
    refine fg_8_5 (y := zX8_page) (Or.inl tw_444) dX8_page_52 (fun r11 => ?_)
    refine pm_iconst (v := 0) dX8_page_55 ki_0 ?_
    refine fp_3_1 (y := zX8_page) (Or.inr tw_305) dX8_page_56 (fun m12 => ?_)
    refine pm_aload_n dX8_page_59 rfl rfl ?_
    refine fg_8_10 (y := zX8_page) (Or.inl tw_449) dX8_page_60 (fun r13 => ?_)
    refine pm_rcv (fun hb9 hc9 => ?_)
    refine pm_kV (d := d + 7) rfl (pm_VN (y := zX8_page) (z := zX5_clear) (As := []) zkX5_clear pm_q5 (by decide) tw_872 tw_874 tw_47 dX8_page_63 rfl rfl (Nat.le_of_ble_eq_true rfl) hb9 hc9) (kcX5_clear (d := d + 7) hfl r13 m12) (fun m14 => ?_)
    refine pm_aload_n dX8_page_66 rfl rfl ?_
    refine fg_8_8 (y := zX8_page) (Or.inl tw_447) dX8_page_67 (fun r15 => ?_)
    refine pm_rcv (fun hb9 hc9 => ?_)
    refine pm_kV (d := d + 7) rfl (pm_VN (y := zX8_page) (z := zX0_startAnew) (As := []) zkX0_startAnew pm_q0 (by decide) tw_876 tw_878 tw_48 dX8_page_70 rfl rfl (Nat.le_of_ble_eq_true rfl) hb9 hc9) (kcX0_startAnew (d := d + 7) hfl r15 m14) (fun m16 => ?_)
    refine pm_aload_n dX8_page_73 rfl rfl ?_
    refine pm_iconst (v := 0) dX8_page_74 ki_0 ?_
    refine fp_8_12 (y := zX8_page) (Or.inl tw_451) dX8_page_75 (fun m17 => ?_)
    refine pm_aload_n dX8_page_78 rfl rfl ?_
    refine fg_8_1 (y := zX8_page) (Or.inl tw_440) dX8_page_79 (fun r18 => ?_)
    refine fg_2_4 (y := zX8_page) (Or.inr tw_248) dX8_page_82 (fun x19 => ?_)
    exact pm_iret rfl dX8_page_85
  · refine pm_aload_n dX8_page_22 rfl rfl ?_
    refine fg_8_0 (y := zX8_page) (Or.inl tw_439) dX8_page_23 (fun r20 => ?_)
    refine fg_7_6 (y := zX8_page) (Or.inr tw_210) dX8_page_26 (fun x21 => ?_)
    refine pm_bipush (v := 10) dX8_page_29 kb_10 ?_
    refine pm_isub dX8_page_31 ?_
    exact pm_iret rfl dX8_page_32
-- StruckPage.law(I)I
def X8_law (a0 : Nat) (a1 : Int32) (m : pmM) : pmR := pm_rc 8 a0 m <| pm_cV (X8_openText a0 a1 150 m) fun m1 => pm_gR 8 a0 4 m1 fun r2 => pm_gR 8 a0 0 m1 fun r3 => pm_rc 1 r2 m1 <| pm_cI (X1_readFrom r2 r3 m1) fun x5 m4 => if x5 = 0 then (pm_gR 8 a0 0 m4 fun r9 => pm_gI 7 r9 6 m4 fun x10 => pm_oI (x10 - 10) m4) else (pm_gR 8 a0 3 m4 fun r6 => pm_gR 8 a0 4 m4 fun r7 => pm_rc 1 r6 m4 <| pm_cV (X1_takeOver r6 r7 m4) fun m8 => pm_oI 1 m8)
set_option maxRecDepth 100000 in
set_option maxHeartbeats 4000000 in
theorem kcX8_law (hfl : l.flags = flags0) (a0 : Nat) (a1 : Int32) (m : pmM) : pm_C l Γ zX8_law (d + 48) [.ref a0, .int a1] m (X8_law a0 a1 m) := by
  refine pm_enter (ls := [.ref a0, .int a1]) hfl (by decide +kernel) rfl (Nat.le_of_ble_eq_true rfl) rfl (Nat.le_of_ble_eq_true rfl) ?_
  unfold X8_law
  refine pm_aload_n dX8_law_0 rfl rfl ?_
  refine pm_iload_n dX8_law_1 rfl rfl ?_
  refine pm_sipush (v := 150) dX8_law_2 ks_150 ?_
  refine pm_rcv (fun hb9 hc9 => ?_)
  refine pm_kV (d := d + 47) rfl (pm_V (y := zX8_law) (z := zX8_openText) (As := [.int a1, .int 150]) zkX8_openText pm_q8 (by decide) tw_680 tw_682 tw_29 dX8_law_5 rfl rfl (Nat.le_of_ble_eq_true rfl) hb9 hc9) (kcX8_openText (d := d + 46) hfl a0 a1 150 m) (fun m1 => ?_)
  refine pm_aload_n dX8_law_8 rfl rfl ?_
  refine fg_8_4 (y := zX8_law) (Or.inl tw_443) dX8_law_9 (fun r2 => ?_)
  refine pm_aload_n dX8_law_12 rfl rfl ?_
  refine fg_8_0 (y := zX8_law) (Or.inl tw_439) dX8_law_13 (fun r3 => ?_)
  refine pm_rcv (fun hb9 hc9 => ?_)
  refine pm_kI (d := d + 47) rfl (pm_VN (y := zX8_law) (z := zX1_readFrom) (As := [.ref r3]) zkX1_readFrom pm_q1 (by decide) tw_887 tw_889 tw_49 dX8_law_16 rfl rfl (Nat.le_of_ble_eq_true rfl) hb9 hc9) (kcX1_readFrom (d := d + 0) hfl r2 r3 m1) (fun x5 m4 => ?_)
  refine pm_if_ne (tgt := 33) dX8_law_19 rfl ?_ ?_
  · refine pm_aload_n dX8_law_33 rfl rfl ?_
    refine fg_8_3 (y := zX8_law) (Or.inl tw_442) dX8_law_34 (fun r6 => ?_)
    refine pm_aload_n dX8_law_37 rfl rfl ?_
    refine fg_8_4 (y := zX8_law) (Or.inl tw_443) dX8_law_38 (fun r7 => ?_)
    refine pm_rcv (fun hb9 hc9 => ?_)
    refine pm_kV (d := d + 47) rfl (pm_VN (y := zX8_law) (z := zX1_takeOver) (As := [.ref r7]) zkX1_takeOver pm_q1 (by decide) tw_930 tw_932 tw_55 dX8_law_41 rfl rfl (Nat.le_of_ble_eq_true rfl) hb9 hc9) (kcX1_takeOver (d := d + 47) hfl r6 r7 m4) (fun m8 => ?_)
    refine pm_iconst (v := 1) dX8_law_44 ki_1 ?_
    exact pm_iret rfl dX8_law_45
  · refine pm_aload_n dX8_law_22 rfl rfl ?_
    refine fg_8_0 (y := zX8_law) (Or.inl tw_439) dX8_law_23 (fun r9 => ?_)
    refine fg_7_6 (y := zX8_law) (Or.inr tw_210) dX8_law_26 (fun x10 => ?_)
    refine pm_bipush (v := 10) dX8_law_29 kb_10 ?_
    refine pm_isub dX8_law_31 ?_
    exact pm_iret rfl dX8_law_32
-- StruckPage.work(I)I
def X8_work (a0 : Nat) (a1 : Int32) (m : pmM) : pmR := pm_rc 8 a0 m <| pm_cV (X8_openText a0 a1 150 m) fun m1 => pm_gR 8 a0 10 m1 fun r2 => pm_gI 5 r2 2 m1 fun x3 => if x3 < 16 then (pm_gR 8 a0 7 m1 fun r4 => pm_gR 8 a0 0 m1 fun r5 => pm_gR 8 a0 1 m1 fun r6 => pm_gI 2 r6 3 m1 fun x7 => pm_rc 6 r4 m1 <| pm_cI (X6_readFrom r4 r5 x7 m1) fun x9 m8 => if x9 = 0 then (pm_gR 8 a0 0 m8 fun r25 => pm_gI 7 r25 6 m8 fun x26 => pm_oI (x26 - 10) m8) else (pm_gR 8 a0 10 m8 fun r10 => pm_gR 8 a0 8 m8 fun r11 => pm_rc 5 r10 m8 <| pm_cV (X5_keepWork r10 r11 m8) fun m12 => pm_gR 8 a0 7 m12 fun r13 => pm_rc 6 r13 m12 <| pm_cV (X6_countAnew r13 m12) fun m14 => pm_gR 8 a0 7 m14 fun r15 => pm_gR 8 a0 8 m14 fun r16 => pm_gR 8 a0 7 m14 fun r17 => pm_gI 6 r17 5 m14 fun x18 => pm_rc 6 r15 m14 <| pm_cV (X6_doSteps_N 10 r15 r16 0 x18 0 m14) fun m19 => pm_gR 8 a0 7 m19 fun r20 => pm_gI 6 r20 9 m19 fun x21 => pm_pI 8 a0 12 x21 m19 fun m22 => pm_gR 8 a0 7 m22 fun r23 => pm_gI 6 r23 8 m22 fun x24 => pm_oI x24 m22)) else (pm_oI (-20) m1)
set_option maxRecDepth 100000 in
set_option maxHeartbeats 4000000 in
theorem kcX8_work (hfl : l.flags = flags0) (a0 : Nat) (a1 : Int32) (m : pmM) : pm_C l Γ zX8_work (d + 38) [.ref a0, .int a1] m (X8_work a0 a1 m) := by
  refine pm_enter (ls := [.ref a0, .int a1]) hfl (by decide +kernel) rfl (Nat.le_of_ble_eq_true rfl) rfl (Nat.le_of_ble_eq_true rfl) ?_
  unfold X8_work
  refine pm_aload_n dX8_work_0 rfl rfl ?_
  refine pm_iload_n dX8_work_1 rfl rfl ?_
  refine pm_sipush (v := 150) dX8_work_2 ks_150 ?_
  refine pm_rcv (fun hb9 hc9 => ?_)
  refine pm_kV (d := d + 37) rfl (pm_V (y := zX8_work) (z := zX8_openText) (As := [.int a1, .int 150]) zkX8_openText pm_q8 (by decide) tw_680 tw_682 tw_29 dX8_work_5 rfl rfl (Nat.le_of_ble_eq_true rfl) hb9 hc9) (kcX8_openText (d := d + 36) hfl a0 a1 150 m) (fun m1 => ?_)
  refine pm_aload_n dX8_work_8 rfl rfl ?_
  refine fg_8_10 (y := zX8_work) (Or.inl tw_449) dX8_work_9 (fun r2 => ?_)
  refine fg_5_2 (y := zX8_work) (Or.inr tw_401) dX8_work_12 (fun x3 => ?_)
  refine pm_bipush (v := 16) dX8_work_15 kb_16 ?_
  refine pm_icmp_lt (tgt := 23) dX8_work_17 rfl ?_ ?_
  · refine pm_aload_n dX8_work_23 rfl rfl ?_
    refine fg_8_7 (y := zX8_work) (Or.inl tw_446) dX8_work_24 (fun r4 => ?_)
    refine pm_aload_n dX8_work_27 rfl rfl ?_
    refine fg_8_0 (y := zX8_work) (Or.inl tw_439) dX8_work_28 (fun r5 => ?_)
    refine pm_aload_n dX8_work_31 rfl rfl ?_
    refine fg_8_1 (y := zX8_work) (Or.inl tw_440) dX8_work_32 (fun r6 => ?_)
    refine fg_2_3 (y := zX8_work) (Or.inr tw_246) dX8_work_35 (fun x7 => ?_)
    refine pm_rcv (fun hb9 hc9 => ?_)
    refine pm_kI (d := d + 37) rfl (pm_VN (y := zX8_work) (z := zX6_readFrom) (As := [.ref r5, .int x7]) zkX6_readFrom pm_q6 (by decide) tw_941 tw_943 tw_56 dX8_work_38 rfl rfl (Nat.le_of_ble_eq_true rfl) hb9 hc9) (kcX6_readFrom (d := d + 0) hfl r4 r5 x7 m1) (fun x9 m8 => ?_)
    refine pm_if_ne (tgt := 55) dX8_work_41 rfl ?_ ?_
    · refine pm_aload_n dX8_work_55 rfl rfl ?_
      refine fg_8_10 (y := zX8_work) (Or.inl tw_449) dX8_work_56 (fun r10 => ?_)
      refine pm_aload_n dX8_work_59 rfl rfl ?_
      refine fg_8_8 (y := zX8_work) (Or.inl tw_447) dX8_work_60 (fun r11 => ?_)
      refine pm_rcv (fun hb9 hc9 => ?_)
      refine pm_kV (d := d + 37) rfl (pm_VN (y := zX8_work) (z := zX5_keepWork) (As := [.ref r11]) zkX5_keepWork pm_q5 (by decide) tw_985 tw_987 tw_63 dX8_work_63 rfl rfl (Nat.le_of_ble_eq_true rfl) hb9 hc9) (kcX5_keepWork (d := d + 36) hfl r10 r11 m8) (fun m12 => ?_)
      refine pm_aload_n dX8_work_66 rfl rfl ?_
      refine fg_8_7 (y := zX8_work) (Or.inl tw_446) dX8_work_67 (fun r13 => ?_)
      refine pm_rcv (fun hb9 hc9 => ?_)
      refine pm_kV (d := d + 37) rfl (pm_VN (y := zX8_work) (z := zX6_countAnew) (As := []) zkX6_countAnew pm_q6 (by decide) tw_989 tw_991 tw_64 dX8_work_70 rfl rfl (Nat.le_of_ble_eq_true rfl) hb9 hc9) (kcX6_countAnew (d := d + 37) hfl r13 m12) (fun m14 => ?_)
      refine pm_aload_n dX8_work_73 rfl rfl ?_
      refine fg_8_7 (y := zX8_work) (Or.inl tw_446) dX8_work_74 (fun r15 => ?_)
      refine pm_aload_n dX8_work_77 rfl rfl ?_
      refine fg_8_8 (y := zX8_work) (Or.inl tw_447) dX8_work_78 (fun r16 => ?_)
      refine pm_iconst (v := 0) dX8_work_81 ki_0 ?_
      refine pm_aload_n dX8_work_82 rfl rfl ?_
      refine fg_8_7 (y := zX8_work) (Or.inl tw_446) dX8_work_83 (fun r17 => ?_)
      refine fg_6_5 (y := zX8_work) (Or.inr tw_324) dX8_work_86 (fun x18 => ?_)
      refine pm_iconst (v := 0) dX8_work_89 ki_0 ?_
      refine pm_rcv (fun hb9 hc9 => ?_)
      refine pm_kV (d := d + 37) rfl (pm_VN (y := zX8_work) (z := zX6_doSteps) (As := [.ref r16, .int 0, .int x18, .int 0]) zkX6_doSteps pm_q6 (by decide) tw_993 tw_995 tw_65 dX8_work_90 rfl rfl (Nat.le_of_ble_eq_true rfl) hb9 hc9) (pm_Cd (by omega) (kcX6_doSteps_N (d := d + 23) hfl 10 r15 r16 0 x18 0 m14)) (fun m19 => ?_)
      refine pm_aload_n dX8_work_93 rfl rfl ?_
      refine pm_aload_n dX8_work_94 rfl rfl ?_
      refine fg_8_7 (y := zX8_work) (Or.inl tw_446) dX8_work_95 (fun r20 => ?_)
      refine fg_6_9 (y := zX8_work) (Or.inr tw_329) dX8_work_98 (fun x21 => ?_)
      refine fp_8_12 (y := zX8_work) (Or.inl tw_451) dX8_work_101 (fun m22 => ?_)
      refine pm_aload_n dX8_work_104 rfl rfl ?_
      refine fg_8_7 (y := zX8_work) (Or.inl tw_446) dX8_work_105 (fun r23 => ?_)
      refine fg_6_8 (y := zX8_work) (Or.inr tw_327) dX8_work_108 (fun x24 => ?_)
      exact pm_iret rfl dX8_work_111
    · refine pm_aload_n dX8_work_44 rfl rfl ?_
      refine fg_8_0 (y := zX8_work) (Or.inl tw_439) dX8_work_45 (fun r25 => ?_)
      refine fg_7_6 (y := zX8_work) (Or.inr tw_210) dX8_work_48 (fun x26 => ?_)
      refine pm_bipush (v := 10) dX8_work_51 kb_10 ?_
      refine pm_isub dX8_work_53 ?_
      exact pm_iret rfl dX8_work_54
  · refine pm_bipush (v := (-20)) dX8_work_20 kb_n20 ?_
    exact pm_iret rfl dX8_work_22
-- StruckPage.sentence(I)I
def X8_sentence (a0 : Nat) (a1 : Int32) (m : pmM) : pmR := pm_rc 8 a0 m <| pm_cV (X8_openText a0 a1 60 m) fun m1 => pm_gR 8 a0 6 m1 fun r2 => pm_gR 8 a0 0 m1 fun r3 => pm_rc 3 r2 m1 <| pm_cI (X3_readFrom r2 r3 m1) fun x5 m4 => if x5 = 0 then (pm_gR 8 a0 0 m4 fun r11 => pm_gI 7 r11 6 m4 fun x12 => pm_oI (x12 - 10) m4) else (pm_gR 8 a0 5 m4 fun r6 => pm_gR 8 a0 6 m4 fun r7 => pm_rc 3 r6 m4 <| pm_cV (X3_takeOver r6 r7 m4) fun m8 => pm_gR 8 a0 5 m8 fun r9 => pm_gI 3 r9 1 m8 fun x10 => pm_oI x10 m8)
set_option maxRecDepth 100000 in
set_option maxHeartbeats 4000000 in
theorem kcX8_sentence (hfl : l.flags = flags0) (a0 : Nat) (a1 : Int32) (m : pmM) : pm_C l Γ zX8_sentence (d + 3) [.ref a0, .int a1] m (X8_sentence a0 a1 m) := by
  refine pm_enter (ls := [.ref a0, .int a1]) hfl (by decide +kernel) rfl (Nat.le_of_ble_eq_true rfl) rfl (Nat.le_of_ble_eq_true rfl) ?_
  unfold X8_sentence
  refine pm_aload_n dX8_sentence_0 rfl rfl ?_
  refine pm_iload_n dX8_sentence_1 rfl rfl ?_
  refine pm_bipush (v := 60) dX8_sentence_2 kb_60 ?_
  refine pm_rcv (fun hb9 hc9 => ?_)
  refine pm_kV (d := d + 2) rfl (pm_V (y := zX8_sentence) (z := zX8_openText) (As := [.int a1, .int 60]) zkX8_openText pm_q8 (by decide) tw_680 tw_682 tw_29 dX8_sentence_4 rfl rfl (Nat.le_of_ble_eq_true rfl) hb9 hc9) (kcX8_openText (d := d + 1) hfl a0 a1 60 m) (fun m1 => ?_)
  refine pm_aload_n dX8_sentence_7 rfl rfl ?_
  refine fg_8_6 (y := zX8_sentence) (Or.inl tw_445) dX8_sentence_8 (fun r2 => ?_)
  refine pm_aload_n dX8_sentence_11 rfl rfl ?_
  refine fg_8_0 (y := zX8_sentence) (Or.inl tw_439) dX8_sentence_12 (fun r3 => ?_)
  refine pm_rcv (fun hb9 hc9 => ?_)
  refine pm_kI (d := d + 2) rfl (pm_VN (y := zX8_sentence) (z := zX3_readFrom) (As := [.ref r3]) zkX3_readFrom pm_q3 (by decide) tw_1055 tw_1057 tw_76 dX8_sentence_15 rfl rfl (Nat.le_of_ble_eq_true rfl) hb9 hc9) (kcX3_readFrom (d := d + 0) hfl r2 r3 m1) (fun x5 m4 => ?_)
  refine pm_if_ne (tgt := 32) dX8_sentence_18 rfl ?_ ?_
  · refine pm_aload_n dX8_sentence_32 rfl rfl ?_
    refine fg_8_5 (y := zX8_sentence) (Or.inl tw_444) dX8_sentence_33 (fun r6 => ?_)
    refine pm_aload_n dX8_sentence_36 rfl rfl ?_
    refine fg_8_6 (y := zX8_sentence) (Or.inl tw_445) dX8_sentence_37 (fun r7 => ?_)
    refine pm_rcv (fun hb9 hc9 => ?_)
    refine pm_kV (d := d + 2) rfl (pm_VN (y := zX8_sentence) (z := zX3_takeOver) (As := [.ref r7]) zkX3_takeOver pm_q3 (by decide) tw_1063 tw_1065 tw_77 dX8_sentence_40 rfl rfl (Nat.le_of_ble_eq_true rfl) hb9 hc9) (kcX3_takeOver (d := d + 2) hfl r6 r7 m4) (fun m8 => ?_)
    refine pm_aload_n dX8_sentence_43 rfl rfl ?_
    refine fg_8_5 (y := zX8_sentence) (Or.inl tw_444) dX8_sentence_44 (fun r9 => ?_)
    refine fg_3_1 (y := zX8_sentence) (Or.inr tw_305) dX8_sentence_47 (fun x10 => ?_)
    exact pm_iret rfl dX8_sentence_50
  · refine pm_aload_n dX8_sentence_21 rfl rfl ?_
    refine fg_8_0 (y := zX8_sentence) (Or.inl tw_439) dX8_sentence_22 (fun r11 => ?_)
    refine fg_7_6 (y := zX8_sentence) (Or.inr tw_210) dX8_sentence_25 (fun x12 => ?_)
    refine pm_bipush (v := 10) dX8_sentence_28 kb_10 ?_
    refine pm_isub dX8_sentence_30 ?_
    exact pm_iret rfl dX8_sentence_31
-- StruckPage.fault()I
def X8_fault (a0 : Nat) (m : pmM) : pmR := pm_gR 8 a0 0 m fun r1 => pm_gI 7 r1 7 m fun x2 => pm_oI x2 m
set_option maxRecDepth 100000 in
set_option maxHeartbeats 4000000 in
theorem kcX8_fault (hfl : l.flags = flags0) (a0 : Nat) (m : pmM) : pm_C l Γ zX8_fault (d + 0) [.ref a0] m (X8_fault a0 m) := by
  refine pm_enter (ls := [.ref a0]) hfl (by decide +kernel) rfl (Nat.le_of_ble_eq_true rfl) rfl (Nat.le_of_ble_eq_true rfl) ?_
  unfold X8_fault
  refine pm_aload_n dX8_fault_0 rfl rfl ?_
  refine fg_8_0 (y := zX8_fault) (Or.inl tw_439) dX8_fault_1 (fun r1 => ?_)
  refine fg_7_7 (y := zX8_fault) (Or.inr tw_212) dX8_fault_4 (fun x2 => ?_)
  exact pm_iret rfl dX8_fault_7
-- StruckPage.undo()I
def X8_undo (a0 : Nat) (m : pmM) : pmR := pm_gR 8 a0 10 m fun r1 => pm_gR 8 a0 8 m fun r2 => pm_rc 5 r1 m <| pm_cI (X5_takeWorkBack r1 r2 m) fun x4 m3 => if x4 = 0 then (pm_oI (-1) m3) else (pm_pI 8 a0 12 0 m3 fun m5 => pm_gR 8 a0 10 m5 fun r6 => pm_gI 5 r6 2 m5 fun x7 => pm_oI x7 m5)
set_option maxRecDepth 100000 in
set_option maxHeartbeats 4000000 in
theorem kcX8_undo (hfl : l.flags = flags0) (a0 : Nat) (m : pmM) : pm_C l Γ zX8_undo (d + 2) [.ref a0] m (X8_undo a0 m) := by
  refine pm_enter (ls := [.ref a0]) hfl (by decide +kernel) rfl (Nat.le_of_ble_eq_true rfl) rfl (Nat.le_of_ble_eq_true rfl) ?_
  unfold X8_undo
  refine pm_aload_n dX8_undo_0 rfl rfl ?_
  refine fg_8_10 (y := zX8_undo) (Or.inl tw_449) dX8_undo_1 (fun r1 => ?_)
  refine pm_aload_n dX8_undo_4 rfl rfl ?_
  refine fg_8_8 (y := zX8_undo) (Or.inl tw_447) dX8_undo_5 (fun r2 => ?_)
  refine pm_rcv (fun hb9 hc9 => ?_)
  refine pm_kI (d := d + 1) rfl (pm_VN (y := zX8_undo) (z := zX5_takeWorkBack) (As := [.ref r2]) zkX5_takeWorkBack pm_q5 (by decide) tw_501 tw_503 tw_2 dX8_undo_8 rfl rfl (Nat.le_of_ble_eq_true rfl) hb9 hc9) (kcX5_takeWorkBack (d := d + 0) hfl r1 r2 m) (fun x4 m3 => ?_)
  refine pm_if_ne (tgt := 16) dX8_undo_11 rfl ?_ ?_
  · refine pm_aload_n dX8_undo_16 rfl rfl ?_
    refine pm_iconst (v := 0) dX8_undo_17 ki_0 ?_
    refine fp_8_12 (y := zX8_undo) (Or.inl tw_451) dX8_undo_18 (fun m5 => ?_)
    refine pm_aload_n dX8_undo_21 rfl rfl ?_
    refine fg_8_10 (y := zX8_undo) (Or.inl tw_449) dX8_undo_22 (fun r6 => ?_)
    refine fg_5_2 (y := zX8_undo) (Or.inr tw_401) dX8_undo_25 (fun x7 => ?_)
    exact pm_iret rfl dX8_undo_28
  · refine pm_iconst (v := (-1)) dX8_undo_14 ki_n1 ?_
    exact pm_iret rfl dX8_undo_15
-- StruckPage.image()I
def X8_image_j25 (t0 : Int32) (m : pmM) : pmR := pm_oI t0 m
def X8_image (a0 : Nat) (m : pmM) : pmR := pm_gR 8 a0 10 m fun r1 => pm_gR 8 a0 8 m fun r2 => pm_rc 5 r1 m <| pm_cI (X5_keepImage r1 r2 m) fun x4 m3 => if x4 = 0 then (X8_image_j25 (-1) m3) else (pm_gR 8 a0 10 m3 fun r5 => pm_gI 5 r5 3 m3 fun x6 => X8_image_j25 x6 m3)
set_option maxRecDepth 100000 in
set_option maxHeartbeats 4000000 in
theorem gX8_image_j25 (hfl : l.flags = flags0) (t0 : Int32) (m : pmM) : pm_G l Γ zX8_image (d + 2) 25 [pmU] [.int t0] m (X8_image_j25 t0 m) := by
  unfold X8_image_j25
  exact pm_iret rfl dX8_image_25
set_option maxRecDepth 100000 in
set_option maxHeartbeats 4000000 in
theorem kcX8_image (hfl : l.flags = flags0) (a0 : Nat) (m : pmM) : pm_C l Γ zX8_image (d + 2) [.ref a0] m (X8_image a0 m) := by
  refine pm_enter (ls := [.ref a0]) hfl (by decide +kernel) rfl (Nat.le_of_ble_eq_true rfl) rfl (Nat.le_of_ble_eq_true rfl) ?_
  unfold X8_image
  refine pm_aload_n dX8_image_0 rfl rfl ?_
  refine fg_8_10 (y := zX8_image) (Or.inl tw_449) dX8_image_1 (fun r1 => ?_)
  refine pm_aload_n dX8_image_4 rfl rfl ?_
  refine fg_8_8 (y := zX8_image) (Or.inl tw_447) dX8_image_5 (fun r2 => ?_)
  refine pm_rcv (fun hb9 hc9 => ?_)
  refine pm_kI (d := d + 1) rfl (pm_VN (y := zX8_image) (z := zX5_keepImage) (As := [.ref r2]) zkX5_keepImage pm_q5 (by decide) tw_514 tw_516 tw_4 dX8_image_8 rfl rfl (Nat.le_of_ble_eq_true rfl) hb9 hc9) (kcX5_keepImage (d := d + 0) hfl r1 r2 m) (fun x4 m3 => ?_)
  refine pm_if_eq (tgt := 24) dX8_image_11 rfl ?_ ?_
  · refine pm_iconst (v := (-1)) dX8_image_24 ki_n1 ?_
    refine pm_drop (ls2 := [pmU]) (Nat.le_refl _) (pm_le_spec (pm_le_u (pm_le_n))) ?_
    exact gX8_image_j25 hfl (-1) m3
  · refine pm_aload_n dX8_image_14 rfl rfl ?_
    refine fg_8_10 (y := zX8_image) (Or.inl tw_449) dX8_image_15 (fun r5 => ?_)
    refine fg_5_3 (y := zX8_image) (Or.inr tw_403) dX8_image_18 (fun x6 => ?_)
    refine pm_goto (tgt := 25) dX8_image_21 rfl ?_
    refine pm_drop (ls2 := [pmU]) (Nat.le_refl _) (pm_le_spec (pm_le_u (pm_le_n))) ?_
    exact gX8_image_j25 hfl x6 m3
-- StruckPage.restore()I
def X8_restore (a0 : Nat) (m : pmM) : pmR := pm_gR 8 a0 10 m fun r1 => pm_gR 8 a0 8 m fun r2 => pm_rc 5 r1 m <| pm_cI (X5_takeImageBack r1 r2 m) fun x4 m3 => if x4 = 0 then (pm_oI (-1) m3) else (pm_pI 8 a0 12 0 m3 fun m5 => pm_gR 8 a0 10 m5 fun r6 => pm_gI 5 r6 3 m5 fun x7 => pm_oI x7 m5)
set_option maxRecDepth 100000 in
set_option maxHeartbeats 4000000 in
theorem kcX8_restore (hfl : l.flags = flags0) (a0 : Nat) (m : pmM) : pm_C l Γ zX8_restore (d + 2) [.ref a0] m (X8_restore a0 m) := by
  refine pm_enter (ls := [.ref a0]) hfl (by decide +kernel) rfl (Nat.le_of_ble_eq_true rfl) rfl (Nat.le_of_ble_eq_true rfl) ?_
  unfold X8_restore
  refine pm_aload_n dX8_restore_0 rfl rfl ?_
  refine fg_8_10 (y := zX8_restore) (Or.inl tw_449) dX8_restore_1 (fun r1 => ?_)
  refine pm_aload_n dX8_restore_4 rfl rfl ?_
  refine fg_8_8 (y := zX8_restore) (Or.inl tw_447) dX8_restore_5 (fun r2 => ?_)
  refine pm_rcv (fun hb9 hc9 => ?_)
  refine pm_kI (d := d + 1) rfl (pm_VN (y := zX8_restore) (z := zX5_takeImageBack) (As := [.ref r2]) zkX5_takeImageBack pm_q5 (by decide) tw_530 tw_532 tw_6 dX8_restore_8 rfl rfl (Nat.le_of_ble_eq_true rfl) hb9 hc9) (kcX5_takeImageBack (d := d + 0) hfl r1 r2 m) (fun x4 m3 => ?_)
  refine pm_if_ne (tgt := 16) dX8_restore_11 rfl ?_ ?_
  · refine pm_aload_n dX8_restore_16 rfl rfl ?_
    refine pm_iconst (v := 0) dX8_restore_17 ki_0 ?_
    refine fp_8_12 (y := zX8_restore) (Or.inl tw_451) dX8_restore_18 (fun m5 => ?_)
    refine pm_aload_n dX8_restore_21 rfl rfl ?_
    refine fg_8_10 (y := zX8_restore) (Or.inl tw_449) dX8_restore_22 (fun r6 => ?_)
    refine fg_5_3 (y := zX8_restore) (Or.inr tw_403) dX8_restore_25 (fun x7 => ?_)
    exact pm_iret rfl dX8_restore_28
  · refine pm_iconst (v := (-1)) dX8_restore_14 ki_n1 ?_
    exact pm_iret rfl dX8_restore_15
-- StruckPage.apart()I
def X8_apart_L16 (l0 : Nat) (again16 : (Int32 × Int32 × pmM) → pmR) (s16 : Int32 × Int32 × pmM) : pmR := pm_gR 8 l0 1 s16.2.2 fun r3 => pm_gI 2 r3 3 s16.2.2 fun x4 => if x4 ≤ s16.2.1 then (pm_oI s16.1 s16.2.2) else (pm_gR 8 l0 8 s16.2.2 fun r5 => pm_gR 0 r5 2 s16.2.2 fun r6 => pm_ld 100 r6 s16.2.1 s16.2.2 fun x7 => pm_gR 8 l0 10 s16.2.2 fun r8 => pm_rc 5 r8 s16.2.2 <| pm_cI (X5_struckInImage r8 s16.2.1 s16.2.2) fun x10 m9 => pm_cI (J6_bitCount_0f7a4 (x7 ^^^ x10) m9) fun x12 m11 => pm_bI (s16.1 + x12) fun x13 => pm_bI (s16.2.1 + 1) fun x14 => again16 (x13, x14, m11))
def X8_apart (a0 : Nat) (m : pmM) : pmR := pm_gR 8 a0 10 m fun r1 => pm_gI 5 r1 3 m fun x2 => if x2 = 0 then (pm_oI (-1) m) else (pm_lp pm_N (X8_apart_L16 a0) (0, 0, m))
set_option maxRecDepth 100000 in
set_option maxHeartbeats 4000000 in
theorem gX8_apart_L16 (hfl : l.flags = flags0) (l0 : Nat) : ∀ (n : Nat) (s : Int32 × Int32 × pmM), pm_G l Γ zX8_apart (d + 2) 16 [.ref l0, .int s.1, .int s.2.1] [] s.2.2 (pm_lp n (X8_apart_L16 l0) s) :=
  pm_loop (lsf := fun s : Int32 × Int32 × pmM => [.ref l0, .int s.1, .int s.2.1]) (mf := fun s : Int32 × Int32 × pmM => s.2.2) (fun again16 hag16 s16 => by
    unfold X8_apart_L16
    refine pm_iload_n dX8_apart_16 rfl rfl ?_
    refine pm_aload_n dX8_apart_17 rfl rfl ?_
    refine fg_8_1 (y := zX8_apart) (Or.inl tw_440) dX8_apart_18 (fun r3 => ?_)
    refine fg_2_3 (y := zX8_apart) (Or.inr tw_246) dX8_apart_21 (fun x4 => ?_)
    refine pm_icmp_ge (tgt := 57) dX8_apart_24 rfl ?_ ?_
    · refine pm_iload_n dX8_apart_57 rfl rfl ?_
      exact pm_iret rfl dX8_apart_58
    · refine pm_iload_n dX8_apart_27 rfl rfl ?_
      refine pm_aload_n dX8_apart_28 rfl rfl ?_
      refine fg_8_8 (y := zX8_apart) (Or.inl tw_447) dX8_apart_29 (fun r5 => ?_)
      refine fg_0_2 (y := zX8_apart) (Or.inr tw_361) dX8_apart_32 (fun r6 => ?_)
      refine pm_iload_n dX8_apart_35 rfl rfl ?_
      refine pm_iald (y := zX8_apart) dX8_apart_36 (fun x7 => ?_)
      refine pm_aload_n dX8_apart_37 rfl rfl ?_
      refine fg_8_10 (y := zX8_apart) (Or.inl tw_449) dX8_apart_38 (fun r8 => ?_)
      refine pm_iload_n dX8_apart_41 rfl rfl ?_
      refine pm_rcv (fun hb9 hc9 => ?_)
      refine pm_kI (d := d + 1) rfl (pm_VN (y := zX8_apart) (z := zX5_struckInImage) (As := [.int s16.2.1]) zkX5_struckInImage pm_q5 (by decide) tw_538 tw_540 tw_7 dX8_apart_42 rfl rfl (Nat.le_of_ble_eq_true rfl) hb9 hc9) (kcX5_struckInImage (d := d + 0) hfl r8 s16.2.1 s16.2.2) (fun x10 m9 => ?_)
      refine pm_ixor dX8_apart_45 ?_
      refine pm_kI (d := d + 1) rfl (pm_S (y := zX8_apart) (z := zJ6_bitCount_0f7a4) (As := [.int (x7 ^^^ x10)]) zkJ6_bitCount_0f7a4 tw_542 tw_543 dX8_apart_46 rfl rfl (Nat.le_of_ble_eq_true rfl)) (kcJ6_bitCount_0f7a4 (d := d + 1) hfl (x7 ^^^ x10) m9) (fun x12 m11 => ?_)
      refine pm_iadd dX8_apart_49 ?_
      refine pm_bIn (fun x13 => ?_)
      refine pm_istore_n (ls2 := [.ref l0, .int x13, .int s16.2.1]) dX8_apart_50 rfl rfl (Nat.le_of_ble_eq_true rfl) rfl ?_
      refine pm_iincn (y := zX8_apart) dX8_apart_51 rfl ki_1 rfl (Nat.le_of_ble_eq_true rfl) (fun x14 => ?_)
      refine pm_eqls (ls2 := [.ref l0, .int x13, .int x14]) rfl ?_
      refine pm_goto (tgt := 16) dX8_apart_54 rfl ?_
      exact hag16 (x13, x14, m11))
set_option maxRecDepth 100000 in
set_option maxHeartbeats 4000000 in
theorem kcX8_apart (hfl : l.flags = flags0) (a0 : Nat) (m : pmM) : pm_C l Γ zX8_apart (d + 2) [.ref a0] m (X8_apart a0 m) := by
  refine pm_enter (ls := [.ref a0, pmU, pmU]) hfl (by decide +kernel) rfl (Nat.le_of_ble_eq_true rfl) rfl (Nat.le_of_ble_eq_true rfl) ?_
  unfold X8_apart
  refine pm_aload_n dX8_apart_0 rfl rfl ?_
  refine fg_8_10 (y := zX8_apart) (Or.inl tw_449) dX8_apart_1 (fun r1 => ?_)
  refine fg_5_3 (y := zX8_apart) (Or.inr tw_403) dX8_apart_4 (fun x2 => ?_)
  refine pm_if_ne (tgt := 12) dX8_apart_7 rfl ?_ ?_
  · refine pm_iconst (v := 0) dX8_apart_12 ki_0 ?_
    refine pm_istore_n (ls2 := [.ref a0, .int 0, pmU]) dX8_apart_13 rfl rfl (Nat.le_of_ble_eq_true rfl) rfl ?_
    refine pm_iconst (v := 0) dX8_apart_14 ki_0 ?_
    refine pm_istore_n (ls2 := [.ref a0, .int 0, .int 0]) dX8_apart_15 rfl rfl (Nat.le_of_ble_eq_true rfl) rfl ?_
    exact gX8_apart_L16 hfl a0 pm_N (0, 0, m)
  · refine pm_iconst (v := (-1)) dX8_apart_10 ki_n1 ?_
    exact pm_iret rfl dX8_apart_11
-- StruckPage.mends()I
def X8_mends_L16 (l0 : Nat) (again16 : (Int32 × Int32 × pmM) → pmR) (s16 : Int32 × Int32 × pmM) : pmR := pm_gR 8 l0 1 s16.2.2 fun r3 => pm_gI 2 r3 3 s16.2.2 fun x4 => if x4 ≤ s16.2.1 then (pm_oI s16.1 s16.2.2) else (pm_gR 8 l0 8 s16.2.2 fun r5 => pm_gR 0 r5 2 s16.2.2 fun r6 => pm_ld 100 r6 s16.2.1 s16.2.2 fun x7 => pm_gR 8 l0 10 s16.2.2 fun r8 => pm_rc 5 r8 s16.2.2 <| pm_cI (X5_struckInImage r8 s16.2.1 s16.2.2) fun x10 m9 => pm_bI (x7 ^^^ x10) fun x11 => pm_cI (J6_bitCount_0f7a4 (x11 &&& ((x11 <<< ((1 : Int32) &&& 31)) ^^^ (-1))) m9) fun x13 m12 => pm_bI (s16.1 + x13) fun x14 => pm_bI (s16.2.1 + 1) fun x15 => again16 (x14, x15, m12))
def X8_mends (a0 : Nat) (m : pmM) : pmR := pm_gR 8 a0 10 m fun r1 => pm_gI 5 r1 3 m fun x2 => if x2 = 0 then (pm_oI (-1) m) else (pm_lp pm_N (X8_mends_L16 a0) (0, 0, m))
set_option maxRecDepth 100000 in
set_option maxHeartbeats 4000000 in
theorem gX8_mends_L16 (hfl : l.flags = flags0) (l0 : Nat) : ∀ (n : Nat) (s : Int32 × Int32 × pmM), pm_G l Γ zX8_mends (d + 2) 16 [.ref l0, .int s.1, .int s.2.1, pmU] [] s.2.2 (pm_lp n (X8_mends_L16 l0) s) :=
  pm_loop (lsf := fun s : Int32 × Int32 × pmM => [.ref l0, .int s.1, .int s.2.1, pmU]) (mf := fun s : Int32 × Int32 × pmM => s.2.2) (fun again16 hag16 s16 => by
    unfold X8_mends_L16
    refine pm_iload_n dX8_mends_16 rfl rfl ?_
    refine pm_aload_n dX8_mends_17 rfl rfl ?_
    refine fg_8_1 (y := zX8_mends) (Or.inl tw_440) dX8_mends_18 (fun r3 => ?_)
    refine fg_2_3 (y := zX8_mends) (Or.inr tw_246) dX8_mends_21 (fun x4 => ?_)
    refine pm_icmp_ge (tgt := 65) dX8_mends_24 rfl ?_ ?_
    · refine pm_iload_n dX8_mends_65 rfl rfl ?_
      exact pm_iret rfl dX8_mends_66
    · refine pm_aload_n dX8_mends_27 rfl rfl ?_
      refine fg_8_8 (y := zX8_mends) (Or.inl tw_447) dX8_mends_28 (fun r5 => ?_)
      refine fg_0_2 (y := zX8_mends) (Or.inr tw_361) dX8_mends_31 (fun r6 => ?_)
      refine pm_iload_n dX8_mends_34 rfl rfl ?_
      refine pm_iald (y := zX8_mends) dX8_mends_35 (fun x7 => ?_)
      refine pm_aload_n dX8_mends_36 rfl rfl ?_
      refine fg_8_10 (y := zX8_mends) (Or.inl tw_449) dX8_mends_37 (fun r8 => ?_)
      refine pm_iload_n dX8_mends_40 rfl rfl ?_
      refine pm_rcv (fun hb9 hc9 => ?_)
      refine pm_kI (d := d + 1) rfl (pm_VN (y := zX8_mends) (z := zX5_struckInImage) (As := [.int s16.2.1]) zkX5_struckInImage pm_q5 (by decide) tw_538 tw_540 tw_7 dX8_mends_41 rfl rfl (Nat.le_of_ble_eq_true rfl) hb9 hc9) (kcX5_struckInImage (d := d + 0) hfl r8 s16.2.1 s16.2.2) (fun x10 m9 => ?_)
      refine pm_ixor dX8_mends_44 ?_
      refine pm_bIn (fun x11 => ?_)
      refine pm_istore_n (ls2 := [.ref l0, .int s16.1, .int s16.2.1, .int x11]) dX8_mends_45 rfl rfl (Nat.le_of_ble_eq_true rfl) rfl ?_
      refine pm_iload_n dX8_mends_46 rfl rfl ?_
      refine pm_iload_n dX8_mends_47 rfl rfl ?_
      refine pm_iload_n dX8_mends_48 rfl rfl ?_
      refine pm_iconst (v := 1) dX8_mends_49 ki_1 ?_
      refine pm_ishl dX8_mends_50 ?_
      refine pm_iconst (v := (-1)) dX8_mends_51 ki_n1 ?_
      refine pm_ixor dX8_mends_52 ?_
      refine pm_iand dX8_mends_53 ?_
      refine pm_kI (d := d + 1) rfl (pm_S (y := zX8_mends) (z := zJ6_bitCount_0f7a4) (As := [.int (x11 &&& ((x11 <<< ((1 : Int32) &&& 31)) ^^^ (-1)))]) zkJ6_bitCount_0f7a4 tw_542 tw_543 dX8_mends_54 rfl rfl (Nat.le_of_ble_eq_true rfl)) (kcJ6_bitCount_0f7a4 (d := d + 1) hfl (x11 &&& ((x11 <<< ((1 : Int32) &&& 31)) ^^^ (-1))) m9) (fun x13 m12 => ?_)
      refine pm_iadd dX8_mends_57 ?_
      refine pm_bIn (fun x14 => ?_)
      refine pm_istore_n (ls2 := [.ref l0, .int x14, .int s16.2.1, .int x11]) dX8_mends_58 rfl rfl (Nat.le_of_ble_eq_true rfl) rfl ?_
      refine pm_iincn (y := zX8_mends) dX8_mends_59 rfl ki_1 rfl (Nat.le_of_ble_eq_true rfl) (fun x15 => ?_)
      refine pm_eqls (ls2 := [.ref l0, .int x14, .int x15, .int x11]) rfl ?_
      refine pm_goto (tgt := 16) dX8_mends_62 rfl ?_
      refine pm_drop (ls2 := [.ref l0, .int x14, .int x15, pmU]) (Nat.le_refl _) (pm_le_spec (pm_le_v (pm_le_v (pm_le_v (pm_le_u (pm_le_n)))))) ?_
      exact hag16 (x14, x15, m12))
set_option maxRecDepth 100000 in
set_option maxHeartbeats 4000000 in
theorem kcX8_mends (hfl : l.flags = flags0) (a0 : Nat) (m : pmM) : pm_C l Γ zX8_mends (d + 2) [.ref a0] m (X8_mends a0 m) := by
  refine pm_enter (ls := [.ref a0, pmU, pmU, pmU]) hfl (by decide +kernel) rfl (Nat.le_of_ble_eq_true rfl) rfl (Nat.le_of_ble_eq_true rfl) ?_
  unfold X8_mends
  refine pm_aload_n dX8_mends_0 rfl rfl ?_
  refine fg_8_10 (y := zX8_mends) (Or.inl tw_449) dX8_mends_1 (fun r1 => ?_)
  refine fg_5_3 (y := zX8_mends) (Or.inr tw_403) dX8_mends_4 (fun x2 => ?_)
  refine pm_if_ne (tgt := 12) dX8_mends_7 rfl ?_ ?_
  · refine pm_iconst (v := 0) dX8_mends_12 ki_0 ?_
    refine pm_istore_n (ls2 := [.ref a0, .int 0, pmU, pmU]) dX8_mends_13 rfl rfl (Nat.le_of_ble_eq_true rfl) rfl ?_
    refine pm_iconst (v := 0) dX8_mends_14 ki_0 ?_
    refine pm_istore_n (ls2 := [.ref a0, .int 0, .int 0, pmU]) dX8_mends_15 rfl rfl (Nat.le_of_ble_eq_true rfl) rfl ?_
    exact gX8_mends_L16 hfl a0 pm_N (0, 0, m)
  · refine pm_iconst (v := (-1)) dX8_mends_10 ki_n1 ?_
    exact pm_iret rfl dX8_mends_11
-- StruckPage.emptyLines()I
def X8_emptyLines_j32 (again4 : (Int32 × Int32 × pmM) → pmR) (l0 : Nat) (l1 : Int32) (l2 : Int32) (m : pmM) : pmR := pm_bI (l2 + 1) fun x6 => again4 (l1, x6, m)
def X8_emptyLines_L4 (l0 : Nat) (again4 : (Int32 × Int32 × pmM) → pmR) (s4 : Int32 × Int32 × pmM) : pmR := pm_gR 8 l0 1 s4.2.2 fun r1 => pm_gI 2 r1 3 s4.2.2 fun x2 => if x2 ≤ s4.2.1 then (pm_oI s4.1 s4.2.2) else (pm_gR 8 l0 8 s4.2.2 fun r3 => pm_rc 0 r3 s4.2.2 <| pm_cI (X0_leftIn r3 s4.2.1 s4.2.2) fun x5 m4 => if x5 = 0 then (pm_bI (s4.1 ||| ((1 : Int32) <<< (s4.2.1 &&& 31))) fun x7 => X8_emptyLines_j32 again4 l0 x7 s4.2.1 m4) else (X8_emptyLines_j32 again4 l0 s4.1 s4.2.1 m4))
def X8_emptyLines (a0 : Nat) (m : pmM) : pmR := pm_lp pm_N (X8_emptyLines_L4 a0) (0, 0, m)
set_option maxRecDepth 100000 in
set_option maxHeartbeats 4000000 in
theorem gX8_emptyLines_j32 (hfl : l.flags = flags0) (again4 : (Int32 × Int32 × pmM) → pmR) (l0 : Nat) (l1 : Int32) (l2 : Int32) (m : pmM) (hag4 : ∀ s : Int32 × Int32 × pmM, pm_G l Γ zX8_emptyLines (d + 2) 4 [.ref l0, .int s.1, .int s.2.1] [] s.2.2 (again4 s)) : pm_G l Γ zX8_emptyLines (d + 2) 32 [.ref l0, .int l1, .int l2] [] m (X8_emptyLines_j32 again4 l0 l1 l2 m) := by
  unfold X8_emptyLines_j32
  refine pm_iincn (y := zX8_emptyLines) dX8_emptyLines_32 rfl ki_1 rfl (Nat.le_of_ble_eq_true rfl) (fun x6 => ?_)
  refine pm_eqls (ls2 := [.ref l0, .int l1, .int x6]) rfl ?_
  refine pm_goto (tgt := 4) dX8_emptyLines_35 rfl ?_
  exact hag4 (l1, x6, m)
set_option maxRecDepth 100000 in
set_option maxHeartbeats 4000000 in
theorem gX8_emptyLines_L4 (hfl : l.flags = flags0) (l0 : Nat) : ∀ (n : Nat) (s : Int32 × Int32 × pmM), pm_G l Γ zX8_emptyLines (d + 2) 4 [.ref l0, .int s.1, .int s.2.1] [] s.2.2 (pm_lp n (X8_emptyLines_L4 l0) s) :=
  pm_loop (lsf := fun s : Int32 × Int32 × pmM => [.ref l0, .int s.1, .int s.2.1]) (mf := fun s : Int32 × Int32 × pmM => s.2.2) (fun again4 hag4 s4 => by
    unfold X8_emptyLines_L4
    refine pm_iload_n dX8_emptyLines_4 rfl rfl ?_
    refine pm_aload_n dX8_emptyLines_5 rfl rfl ?_
    refine fg_8_1 (y := zX8_emptyLines) (Or.inl tw_440) dX8_emptyLines_6 (fun r1 => ?_)
    refine fg_2_3 (y := zX8_emptyLines) (Or.inr tw_246) dX8_emptyLines_9 (fun x2 => ?_)
    refine pm_icmp_ge (tgt := 38) dX8_emptyLines_12 rfl ?_ ?_
    · refine pm_iload_n dX8_emptyLines_38 rfl rfl ?_
      exact pm_iret rfl dX8_emptyLines_39
    · refine pm_aload_n dX8_emptyLines_15 rfl rfl ?_
      refine fg_8_8 (y := zX8_emptyLines) (Or.inl tw_447) dX8_emptyLines_16 (fun r3 => ?_)
      refine pm_iload_n dX8_emptyLines_19 rfl rfl ?_
      refine pm_rcv (fun hb9 hc9 => ?_)
      refine pm_kI (d := d + 1) rfl (pm_VN (y := zX8_emptyLines) (z := zX0_leftIn) (As := [.int s4.2.1]) zkX0_leftIn pm_q0 (by decide) tw_1084 tw_1086 tw_80 dX8_emptyLines_20 rfl rfl (Nat.le_of_ble_eq_true rfl) hb9 hc9) (kcX0_leftIn (d := d + 0) hfl r3 s4.2.1 s4.2.2) (fun x5 m4 => ?_)
      refine pm_if_ne (tgt := 32) dX8_emptyLines_23 rfl ?_ ?_
      · exact gX8_emptyLines_j32 hfl again4 l0 s4.1 s4.2.1 m4 hag4
      · refine pm_iload_n dX8_emptyLines_26 rfl rfl ?_
        refine pm_iconst (v := 1) dX8_emptyLines_27 ki_1 ?_
        refine pm_iload_n dX8_emptyLines_28 rfl rfl ?_
        refine pm_ishl dX8_emptyLines_29 ?_
        refine pm_ior dX8_emptyLines_30 ?_
        refine pm_bIn (fun x7 => ?_)
        refine pm_istore_n (ls2 := [.ref l0, .int x7, .int s4.2.1]) dX8_emptyLines_31 rfl rfl (Nat.le_of_ble_eq_true rfl) rfl ?_
        exact gX8_emptyLines_j32 hfl again4 l0 x7 s4.2.1 m4 hag4)
set_option maxRecDepth 100000 in
set_option maxHeartbeats 4000000 in
theorem kcX8_emptyLines (hfl : l.flags = flags0) (a0 : Nat) (m : pmM) : pm_C l Γ zX8_emptyLines (d + 2) [.ref a0] m (X8_emptyLines a0 m) := by
  refine pm_enter (ls := [.ref a0, pmU, pmU]) hfl (by decide +kernel) rfl (Nat.le_of_ble_eq_true rfl) rfl (Nat.le_of_ble_eq_true rfl) ?_
  unfold X8_emptyLines
  refine pm_iconst (v := 0) dX8_emptyLines_0 ki_0 ?_
  refine pm_istore_n (ls2 := [.ref a0, .int 0, pmU]) dX8_emptyLines_1 rfl rfl (Nat.le_of_ble_eq_true rfl) rfl ?_
  refine pm_iconst (v := 0) dX8_emptyLines_2 ki_0 ?_
  refine pm_istore_n (ls2 := [.ref a0, .int 0, .int 0]) dX8_emptyLines_3 rfl rfl (Nat.le_of_ble_eq_true rfl) rfl ?_
  exact gX8_emptyLines_L4 hfl a0 pm_N (0, 0, m)
end GEN9
