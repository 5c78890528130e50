section GEN0
variable {l : Launch} {Γ : pmG} {d : Nat}
-- StruckPage$Desk.<init>(LStruckPage$Paper;LStruckPage$Law;)V
def X0_init (a0 : Nat) (a1 : Nat) (a2 : Nat) (m : pmM) : pmR := pm_na 100 6 m fun r1 m2 => pm_pR 0 a0 2 r1 m2 fun m3 => pm_na 100 4 m3 fun r4 m5 => pm_pR 0 a0 3 r4 m5 fun m6 => pm_pI 0 a0 5 60 m6 fun m7 => pm_pR 0 a0 0 a1 m7 fun m8 => pm_pR 0 a0 1 a2 m8 fun m9 => pm_oV m9
set_option maxRecDepth 100000 in
set_option maxHeartbeats 4000000 in
theorem kcX0_init (hfl : l.flags = flags0) (a0 : Nat) (a1 : Nat) (a2 : Nat) (m : pmM) : pm_C l Γ zX0_init (d + 0) [.ref a0, .ref a1, .ref a2] m (X0_init a0 a1 a2 m) := by
  refine pm_enter (ls := [.ref a0, .ref a1, .ref a2]) hfl (by decide +kernel) rfl (Nat.le_of_ble_eq_true rfl) rfl (Nat.le_of_ble_eq_true rfl) ?_
  unfold X0_init
  refine pm_aload_n dX0_init_0 rfl rfl ?_
  refine pm_oinit (y := zX0_init) tw_357 tw_184 tw_185 dX0_init_1 (Nat.le_of_ble_eq_true rfl) ?_
  refine pm_aload_n dX0_init_4 rfl rfl ?_
  refine pm_bipush (v := 6) dX0_init_5 kb_6 ?_
  refine pm_newa (y := zX0_init) (atype := .int) (kd := 100) (by decide) tw_230 dX0_init_7 (fun r1 m2 => ?_)
  refine fp_0_2 (y := zX0_init) ⟨tw_360, rfl⟩ dX0_init_9 (fun m3 => ?_)
  refine pm_aload_n dX0_init_12 rfl rfl ?_
  refine pm_iconst (v := 4) dX0_init_13 ki_4 ?_
  refine pm_newa (y := zX0_init) (atype := .int) (kd := 100) (by decide) tw_230 dX0_init_14 (fun r4 m5 => ?_)
  refine fp_0_3 (y := zX0_init) ⟨tw_362, rfl⟩ dX0_init_16 (fun m6 => ?_)
  refine pm_aload_n dX0_init_19 rfl rfl ?_
  refine pm_bipush (v := 60) dX0_init_20 kb_60 ?_
  refine fp_0_5 (y := zX0_init) (Or.inl tw_366) dX0_init_22 (fun m7 => ?_)
  refine pm_aload_n dX0_init_25 rfl rfl ?_
  refine pm_aload_n dX0_init_26 rfl rfl ?_
  refine fp_0_0 (y := zX0_init) ⟨tw_358, rfl⟩ dX0_init_27 (fun m8 => ?_)
  refine pm_aload_n dX0_init_30 rfl rfl ?_
  refine pm_aload_n dX0_init_31 rfl rfl ?_
  refine fp_0_1 (y := zX0_init) ⟨tw_359, rfl⟩ dX0_init_32 (fun m9 => ?_)
  exact pm_vret rfl dX0_init_35
-- StruckPage$Desk.startAnew()V
def X0_startAnew_L2 (l0 : Nat) (again2 : (Int32 × pmM) → pmR) (s2 : Int32 × pmM) : pmR := if (6 : Int32) ≤ s2.1 then (pm_gR 0 l0 0 s2.2 fun r1 => pm_gR 2 r1 2 s2.2 fun r2 => pm_gR 0 l0 3 s2.2 fun r3 => pm_cp r2 0 r3 0 4 s2.2 fun m4 => pm_pI 0 l0 4 0 m4 fun m5 => pm_gR 0 l0 0 m5 fun r6 => pm_gI 2 r6 5 m5 fun x7 => pm_pI 0 l0 5 x7 m5 fun m8 => pm_pI 0 l0 6 0 m8 fun m9 => pm_pI 0 l0 7 0 m9 fun m10 => pm_oV m10) else (pm_gR 0 l0 2 s2.2 fun r11 => pm_st 100 r11 s2.1 0 s2.2 fun m12 => pm_bI (s2.1 + 1) fun x13 => again2 (x13, m12))
def X0_startAnew (a0 : Nat) (m : pmM) : pmR := pm_lp pm_N (X0_startAnew_L2 a0) (0, m)
set_option maxRecDepth 100000 in
set_option maxHeartbeats 4000000 in
theorem gX0_startAnew_L2 (hfl : l.flags = flags0) (l0 : Nat) : ∀ (n : Nat) (s : Int32 × pmM), pm_G l Γ zX0_startAnew (d + 0) 2 [.ref l0, .int s.1] [] s.2 (pm_lp n (X0_startAnew_L2 l0) s) :=
  pm_loop (lsf := fun s : Int32 × pmM => [.ref l0, .int s.1]) (mf := fun s : Int32 × pmM => s.2) (fun again2 hag2 s2 => by
    unfold X0_startAnew_L2
    refine pm_iload_n dX0_startAnew_2 rfl rfl ?_
    refine pm_bipush (v := 6) dX0_startAnew_3 kb_6 ?_
    refine pm_icmp_ge (tgt := 21) dX0_startAnew_5 rfl ?_ ?_
    · refine pm_aload_n dX0_startAnew_21 rfl rfl ?_
      refine fg_0_0 (y := zX0_startAnew) (Or.inl tw_358) dX0_startAnew_22 (fun r1 => ?_)
      refine fg_2_2 (y := zX0_startAnew) (Or.inr tw_243) dX0_startAnew_25 (fun r2 => ?_)
      refine pm_iconst (v := 0) dX0_startAnew_28 ki_0 ?_
      refine pm_aload_n dX0_startAnew_29 rfl rfl ?_
      refine fg_0_3 (y := zX0_startAnew) (Or.inl tw_362) dX0_startAnew_30 (fun r3 => ?_)
      refine pm_iconst (v := 0) dX0_startAnew_33 ki_0 ?_
      refine pm_iconst (v := 4) dX0_startAnew_34 ki_4 ?_
      refine pm_copy (y := zX0_startAnew) tw_509 tw_280 tw_279 tw_160 dX0_startAnew_35 (Nat.le_of_ble_eq_true rfl) (fun m4 => ?_)
      refine pm_aload_n dX0_startAnew_38 rfl rfl ?_
      refine pm_iconst (v := 0) dX0_startAnew_39 ki_0 ?_
      refine fp_0_4 (y := zX0_startAnew) (Or.inl tw_364) dX0_startAnew_40 (fun m5 => ?_)
      refine pm_aload_n dX0_startAnew_43 rfl rfl ?_
      refine pm_aload_n dX0_startAnew_44 rfl rfl ?_
      refine fg_0_0 (y := zX0_startAnew) (Or.inl tw_358) dX0_startAnew_45 (fun r6 => ?_)
      refine fg_2_5 (y := zX0_startAnew) (Or.inr tw_252) dX0_startAnew_48 (fun x7 => ?_)
      refine fp_0_5 (y := zX0_startAnew) (Or.inl tw_366) dX0_startAnew_51 (fun m8 => ?_)
      refine pm_aload_n dX0_startAnew_54 rfl rfl ?_
      refine pm_iconst (v := 0) dX0_startAnew_55 ki_0 ?_
      refine fp_0_6 (y := zX0_startAnew) (Or.inl tw_368) dX0_startAnew_56 (fun m9 => ?_)
      refine pm_aload_n dX0_startAnew_59 rfl rfl ?_
      refine pm_iconst (v := 0) dX0_startAnew_60 ki_0 ?_
      refine fp_0_7 (y := zX0_startAnew) (Or.inl tw_370) dX0_startAnew_61 (fun m10 => ?_)
      exact pm_vret rfl dX0_startAnew_64
    · refine pm_aload_n dX0_startAnew_8 rfl rfl ?_
      refine fg_0_2 (y := zX0_startAnew) (Or.inl tw_360) dX0_startAnew_9 (fun r11 => ?_)
      refine pm_iload_n dX0_startAnew_12 rfl rfl ?_
      refine pm_iconst (v := 0) dX0_startAnew_13 ki_0 ?_
      refine pm_iast (y := zX0_startAnew) dX0_startAnew_14 (fun m12 => ?_)
      refine pm_iincn (y := zX0_startAnew) dX0_startAnew_15 rfl ki_1 rfl (Nat.le_of_ble_eq_true rfl) (fun x13 => ?_)
      refine pm_eqls (ls2 := [.ref l0, .int x13]) rfl ?_
      refine pm_goto (tgt := 2) dX0_startAnew_18 rfl ?_
      exact hag2 (x13, m12))
set_option maxRecDepth 100000 in
set_option maxHeartbeats 4000000 in
theorem kcX0_startAnew (hfl : l.flags = flags0) (a0 : Nat) (m : pmM) : pm_C l Γ zX0_startAnew (d + 0) [.ref a0] m (X0_startAnew a0 m) := by
  refine pm_enter (ls := [.ref a0, pmU]) hfl (by decide +kernel) rfl (Nat.le_of_ble_eq_true rfl) rfl (Nat.le_of_ble_eq_true rfl) ?_
  unfold X0_startAnew
  refine pm_iconst (v := 0) dX0_startAnew_0 ki_0 ?_
  refine pm_istore_n (ls2 := [.ref a0, .int 0]) dX0_startAnew_1 rfl rfl (Nat.le_of_ble_eq_true rfl) rfl ?_
  exact gX0_startAnew_L2 hfl a0 pm_N (0, m)
-- StruckPage$Desk.takeOver(LStruckPage$Desk;)V
def X0_takeOver (a0 : Nat) (a1 : Nat) (m : pmM) : pmR := pm_gR 0 a1 2 m fun r1 => pm_gR 0 a0 2 m fun r2 => pm_cp r1 0 r2 0 6 m fun m3 => pm_gR 0 a1 3 m3 fun r4 => pm_gR 0 a0 3 m3 fun r5 => pm_cp r4 0 r5 0 4 m3 fun m6 => pm_gI 0 a1 4 m6 fun x7 => pm_pI 0 a0 4 x7 m6 fun m8 => pm_gI 0 a1 5 m8 fun x9 => pm_pI 0 a0 5 x9 m8 fun m10 => pm_gI 0 a1 6 m10 fun x11 => pm_pI 0 a0 6 x11 m10 fun m12 => pm_gI 0 a1 7 m12 fun x13 => pm_pI 0 a0 7 x13 m12 fun m14 => pm_oV m14
set_option maxRecDepth 100000 in
set_option maxHeartbeats 4000000 in
theorem kcX0_takeOver (hfl : l.flags = flags0) (a0 : Nat) (a1 : Nat) (m : pmM) : pm_C l Γ zX0_takeOver (d + 0) [.ref a0, .ref a1] m (X0_takeOver a0 a1 m) := by
  refine pm_enter (ls := [.ref a0, .ref a1]) hfl (by decide +kernel) rfl (Nat.le_of_ble_eq_true rfl) rfl (Nat.le_of_ble_eq_true rfl) ?_
  unfold X0_takeOver
  refine pm_aload_n dX0_takeOver_0 rfl rfl ?_
  refine fg_0_2 (y := zX0_takeOver) (Or.inl tw_360) dX0_takeOver_1 (fun r1 => ?_)
  refine pm_iconst (v := 0) dX0_takeOver_4 ki_0 ?_
  refine pm_aload_n dX0_takeOver_5 rfl rfl ?_
  refine fg_0_2 (y := zX0_takeOver) (Or.inl tw_360) dX0_takeOver_6 (fun r2 => ?_)
  refine pm_iconst (v := 0) dX0_takeOver_9 ki_0 ?_
  refine pm_bipush (v := 6) dX0_takeOver_10 kb_6 ?_
  refine pm_copy (y := zX0_takeOver) tw_509 tw_280 tw_279 tw_160 dX0_takeOver_12 (Nat.le_of_ble_eq_true rfl) (fun m3 => ?_)
  refine pm_aload_n dX0_takeOver_15 rfl rfl ?_
  refine fg_0_3 (y := zX0_takeOver) (Or.inl tw_362) dX0_takeOver_16 (fun r4 => ?_)
  refine pm_iconst (v := 0) dX0_takeOver_19 ki_0 ?_
  refine pm_aload_n dX0_takeOver_20 rfl rfl ?_
  refine fg_0_3 (y := zX0_takeOver) (Or.inl tw_362) dX0_takeOver_21 (fun r5 => ?_)
  refine pm_iconst (v := 0) dX0_takeOver_24 ki_0 ?_
  refine pm_iconst (v := 4) dX0_takeOver_25 ki_4 ?_
  refine pm_copy (y := zX0_takeOver) tw_509 tw_280 tw_279 tw_160 dX0_takeOver_26 (Nat.le_of_ble_eq_true rfl) (fun m6 => ?_)
  refine pm_aload_n dX0_takeOver_29 rfl rfl ?_
  refine pm_aload_n dX0_takeOver_30 rfl rfl ?_
  refine fg_0_4 (y := zX0_takeOver) (Or.inl tw_364) dX0_takeOver_31 (fun x7 => ?_)
  refine fp_0_4 (y := zX0_takeOver) (Or.inl tw_364) dX0_takeOver_34 (fun m8 => ?_)
  refine pm_aload_n dX0_takeOver_37 rfl rfl ?_
  refine pm_aload_n dX0_takeOver_38 rfl rfl ?_
  refine fg_0_5 (y := zX0_takeOver) (Or.inl tw_366) dX0_takeOver_39 (fun x9 => ?_)
  refine fp_0_5 (y := zX0_takeOver) (Or.inl tw_366) dX0_takeOver_42 (fun m10 => ?_)
  refine pm_aload_n dX0_takeOver_45 rfl rfl ?_
  refine pm_aload_n dX0_takeOver_46 rfl rfl ?_
  refine fg_0_6 (y := zX0_takeOver) (Or.inl tw_368) dX0_takeOver_47 (fun x11 => ?_)
  refine fp_0_6 (y := zX0_takeOver) (Or.inl tw_368) dX0_takeOver_50 (fun m12 => ?_)
  refine pm_aload_n dX0_takeOver_53 rfl rfl ?_
  refine pm_aload_n dX0_takeOver_54 rfl rfl ?_
  refine fg_0_7 (y := zX0_takeOver) (Or.inl tw_370) dX0_takeOver_55 (fun x13 => ?_)
  refine fp_0_7 (y := zX0_takeOver) (Or.inl tw_370) dX0_takeOver_58 (fun m14 => ?_)
  exact pm_vret rfl dX0_takeOver_61
-- StruckPage$Desk.writeTo([II)V
def X0_writeTo (a0 : Nat) (a1 : Nat) (a2 : Int32) (m : pmM) : pmR := pm_gR 0 a0 2 m fun r1 => pm_cp r1 0 a1 a2 6 m fun m2 => pm_gR 0 a0 3 m2 fun r3 => pm_cp r3 0 a1 (a2 + 6) 4 m2 fun m4 => pm_bI ((a2 + 6) + 4) fun x5 => pm_gI 0 a0 4 m4 fun x6 => pm_st 100 a1 x5 x6 m4 fun m7 => pm_gI 0 a0 5 m7 fun x8 => pm_st 100 a1 (x5 + 1) x8 m7 fun m9 => pm_gI 0 a0 6 m9 fun x10 => pm_st 100 a1 (x5 + 2) x10 m9 fun m11 => pm_gI 0 a0 7 m11 fun x12 => pm_st 100 a1 (x5 + 3) x12 m11 fun m13 => pm_oV m13
set_option maxRecDepth 100000 in
set_option maxHeartbeats 4000000 in
theorem kcX0_writeTo (hfl : l.flags = flags0) (a0 : Nat) (a1 : Nat) (a2 : Int32) (m : pmM) : pm_C l Γ zX0_writeTo (d + 0) [.ref a0, .ref a1, .int a2] m (X0_writeTo a0 a1 a2 m) := by
  refine pm_enter (ls := [.ref a0, .ref a1, .int a2, pmU]) hfl (by decide +kernel) rfl (Nat.le_of_ble_eq_true rfl) rfl (Nat.le_of_ble_eq_true rfl) ?_
  unfold X0_writeTo
  refine pm_aload_n dX0_writeTo_0 rfl rfl ?_
  refine fg_0_2 (y := zX0_writeTo) (Or.inl tw_360) dX0_writeTo_1 (fun r1 => ?_)
  refine pm_iconst (v := 0) dX0_writeTo_4 ki_0 ?_
  refine pm_aload_n dX0_writeTo_5 rfl rfl ?_
  refine pm_iload_n dX0_writeTo_6 rfl rfl ?_
  refine pm_bipush (v := 6) dX0_writeTo_7 kb_6 ?_
  refine pm_copy (y := zX0_writeTo) tw_509 tw_280 tw_279 tw_160 dX0_writeTo_9 (Nat.le_of_ble_eq_true rfl) (fun m2 => ?_)
  refine pm_aload_n dX0_writeTo_12 rfl rfl ?_
  refine fg_0_3 (y := zX0_writeTo) (Or.inl tw_362) dX0_writeTo_13 (fun r3 => ?_)
  refine pm_iconst (v := 0) dX0_writeTo_16 ki_0 ?_
  refine pm_aload_n dX0_writeTo_17 rfl rfl ?_
  refine pm_iload_n dX0_writeTo_18 rfl rfl ?_
  refine pm_bipush (v := 6) dX0_writeTo_19 kb_6 ?_
  refine pm_iadd dX0_writeTo_21 ?_
  refine pm_iconst (v := 4) dX0_writeTo_22 ki_4 ?_
  refine pm_copy (y := zX0_writeTo) tw_509 tw_280 tw_279 tw_160 dX0_writeTo_23 (Nat.le_of_ble_eq_true rfl) (fun m4 => ?_)
  refine pm_iload_n dX0_writeTo_26 rfl rfl ?_
  refine pm_bipush (v := 6) dX0_writeTo_27 kb_6 ?_
  refine pm_iadd dX0_writeTo_29 ?_
  refine pm_iconst (v := 4) dX0_writeTo_30 ki_4 ?_
  refine pm_iadd dX0_writeTo_31 ?_
  refine pm_bIn (fun x5 => ?_)
  refine pm_istore_n (ls2 := [.ref a0, .ref a1, .int a2, .int x5]) dX0_writeTo_32 rfl rfl (Nat.le_of_ble_eq_true rfl) rfl ?_
  refine pm_aload_n dX0_writeTo_33 rfl rfl ?_
  refine pm_iload_n dX0_writeTo_34 rfl rfl ?_
  refine pm_aload_n dX0_writeTo_35 rfl rfl ?_
  refine fg_0_4 (y := zX0_writeTo) (Or.inl tw_364) dX0_writeTo_36 (fun x6 => ?_)
  refine pm_iast (y := zX0_writeTo) dX0_writeTo_39 (fun m7 => ?_)
  refine pm_aload_n dX0_writeTo_40 rfl rfl ?_
  refine pm_iload_n dX0_writeTo_41 rfl rfl ?_
  refine pm_iconst (v := 1) dX0_writeTo_42 ki_1 ?_
  refine pm_iadd dX0_writeTo_43 ?_
  refine pm_aload_n dX0_writeTo_44 rfl rfl ?_
  refine fg_0_5 (y := zX0_writeTo) (Or.inl tw_366) dX0_writeTo_45 (fun x8 => ?_)
  refine pm_iast (y := zX0_writeTo) dX0_writeTo_48 (fun m9 => ?_)
  refine pm_aload_n dX0_writeTo_49 rfl rfl ?_
  refine pm_iload_n dX0_writeTo_50 rfl rfl ?_
  refine pm_iconst (v := 2) dX0_writeTo_51 ki_2 ?_
  refine pm_iadd dX0_writeTo_52 ?_
  refine pm_aload_n dX0_writeTo_53 rfl rfl ?_
  refine fg_0_6 (y := zX0_writeTo) (Or.inl tw_368) dX0_writeTo_54 (fun x10 => ?_)
  refine pm_iast (y := zX0_writeTo) dX0_writeTo_57 (fun m11 => ?_)
  refine pm_aload_n dX0_writeTo_58 rfl rfl ?_
  refine pm_iload_n dX0_writeTo_59 rfl rfl ?_
  refine pm_iconst (v := 3) dX0_writeTo_60 ki_3 ?_
  refine pm_iadd dX0_writeTo_61 ?_
  refine pm_aload_n dX0_writeTo_62 rfl rfl ?_
  refine fg_0_7 (y := zX0_writeTo) (Or.inl tw_370) dX0_writeTo_63 (fun x12 => ?_)
  refine pm_iast (y := zX0_writeTo) dX0_writeTo_66 (fun m13 => ?_)
  exact pm_vret rfl dX0_writeTo_67
-- StruckPage$Desk.readBack([II)V
def X0_readBack (a0 : Nat) (a1 : Nat) (a2 : Int32) (m : pmM) : pmR := pm_gR 0 a0 2 m fun r1 => pm_cp a1 a2 r1 0 6 m fun m2 => pm_gR 0 a0 3 m2 fun r3 => pm_cp a1 (a2 + 6) r3 0 4 m2 fun m4 => pm_bI ((a2 + 6) + 4) fun x5 => pm_ld 100 a1 x5 m4 fun x6 => pm_pI 0 a0 4 x6 m4 fun m7 => pm_ld 100 a1 (x5 + 1) m7 fun x8 => pm_pI 0 a0 5 x8 m7 fun m9 => pm_ld 100 a1 (x5 + 2) m9 fun x10 => pm_pI 0 a0 6 x10 m9 fun m11 => pm_ld 100 a1 (x5 + 3) m11 fun x12 => pm_pI 0 a0 7 x12 m11 fun m13 => pm_oV m13
set_option maxRecDepth 100000 in
set_option maxHeartbeats 4000000 in
theorem kcX0_readBack (hfl : l.flags = flags0) (a0 : Nat) (a1 : Nat) (a2 : Int32) (m : pmM) : pm_C l Γ zX0_readBack (d + 0) [.ref a0, .ref a1, .int a2] m (X0_readBack a0 a1 a2 m) := by
  refine pm_enter (ls := [.ref a0, .ref a1, .int a2, pmU]) hfl (by decide +kernel) rfl (Nat.le_of_ble_eq_true rfl) rfl (Nat.le_of_ble_eq_true rfl) ?_
  unfold X0_readBack
  refine pm_aload_n dX0_readBack_0 rfl rfl ?_
  refine pm_iload_n dX0_readBack_1 rfl rfl ?_
  refine pm_aload_n dX0_readBack_2 rfl rfl ?_
  refine fg_0_2 (y := zX0_readBack) (Or.inl tw_360) dX0_readBack_3 (fun r1 => ?_)
  refine pm_iconst (v := 0) dX0_readBack_6 ki_0 ?_
  refine pm_bipush (v := 6) dX0_readBack_7 kb_6 ?_
  refine pm_copy (y := zX0_readBack) tw_509 tw_280 tw_279 tw_160 dX0_readBack_9 (Nat.le_of_ble_eq_true rfl) (fun m2 => ?_)
  refine pm_aload_n dX0_readBack_12 rfl rfl ?_
  refine pm_iload_n dX0_readBack_13 rfl rfl ?_
  refine pm_bipush (v := 6) dX0_readBack_14 kb_6 ?_
  refine pm_iadd dX0_readBack_16 ?_
  refine pm_aload_n dX0_readBack_17 rfl rfl ?_
  refine fg_0_3 (y := zX0_readBack) (Or.inl tw_362) dX0_readBack_18 (fun r3 => ?_)
  refine pm_iconst (v := 0) dX0_readBack_21 ki_0 ?_
  refine pm_iconst (v := 4) dX0_readBack_22 ki_4 ?_
  refine pm_copy (y := zX0_readBack) tw_509 tw_280 tw_279 tw_160 dX0_readBack_23 (Nat.le_of_ble_eq_true rfl) (fun m4 => ?_)
  refine pm_iload_n dX0_readBack_26 rfl rfl ?_
  refine pm_bipush (v := 6) dX0_readBack_27 kb_6 ?_
  refine pm_iadd dX0_readBack_29 ?_
  refine pm_iconst (v := 4) dX0_readBack_30 ki_4 ?_
  refine pm_iadd dX0_readBack_31 ?_
  refine pm_bIn (fun x5 => ?_)
  refine pm_istore_n (ls2 := [.ref a0, .ref a1, .int a2, .int x5]) dX0_readBack_32 rfl rfl (Nat.le_of_ble_eq_true rfl) rfl ?_
  refine pm_aload_n dX0_readBack_33 rfl rfl ?_
  refine pm_aload_n dX0_readBack_34 rfl rfl ?_
  refine pm_iload_n dX0_readBack_35 rfl rfl ?_
  refine pm_iald (y := zX0_readBack) dX0_readBack_36 (fun x6 => ?_)
  refine fp_0_4 (y := zX0_readBack) (Or.inl tw_364) dX0_readBack_37 (fun m7 => ?_)
  refine pm_aload_n dX0_readBack_40 rfl rfl ?_
  refine pm_aload_n dX0_readBack_41 rfl rfl ?_
  refine pm_iload_n dX0_readBack_42 rfl rfl ?_
  refine pm_iconst (v := 1) dX0_readBack_43 ki_1 ?_
  refine pm_iadd dX0_readBack_44 ?_
  refine pm_iald (y := zX0_readBack) dX0_readBack_45 (fun x8 => ?_)
  refine fp_0_5 (y := zX0_readBack) (Or.inl tw_366) dX0_readBack_46 (fun m9 => ?_)
  refine pm_aload_n dX0_readBack_49 rfl rfl ?_
  refine pm_aload_n dX0_readBack_50 rfl rfl ?_
  refine pm_iload_n dX0_readBack_51 rfl rfl ?_
  refine pm_iconst (v := 2) dX0_readBack_52 ki_2 ?_
  refine pm_iadd dX0_readBack_53 ?_
  refine pm_iald (y := zX0_readBack) dX0_readBack_54 (fun x10 => ?_)
  refine fp_0_6 (y := zX0_readBack) (Or.inl tw_368) dX0_readBack_55 (fun m11 => ?_)
  refine pm_aload_n dX0_readBack_58 rfl rfl ?_
  refine pm_aload_n dX0_readBack_59 rfl rfl ?_
  refine pm_iload_n dX0_readBack_60 rfl rfl ?_
  refine pm_iconst (v := 3) dX0_readBack_61 ki_3 ?_
  refine pm_iadd dX0_readBack_62 ?_
  refine pm_iald (y := zX0_readBack) dX0_readBack_63 (fun x12 => ?_)
  refine fp_0_7 (y := zX0_readBack) (Or.inl tw_370) dX0_readBack_64 (fun m13 => ?_)
  exact pm_vret rfl dX0_readBack_67
-- StruckPage$Paper.hasWord(II)Z
def X2_hasWord_j31 (t0 : Int32) (m : pmM) : pmR := pm_oI (vp_nar .boolean t0) m
def X2_hasWord_j30 (m : pmM) : pmR := X2_hasWord_j31 0 m
def X2_hasWord (a0 : Nat) (a1 : Int32) (a2 : Int32) (m : pmM) : pmR := if a1 < 0 then (X2_hasWord_j30 m) else (pm_gI 2 a0 3 m fun x1 => if x1 ≤ a1 then (X2_hasWord_j30 m) else (if a2 < 0 then (X2_hasWord_j30 m) else (pm_gR 2 a0 0 m fun r2 => pm_ld 100 r2 a1 m fun x3 => if x3 ≤ a2 then (X2_hasWord_j30 m) else (X2_hasWord_j31 1 m))))
set_option maxRecDepth 100000 in
set_option maxHeartbeats 4000000 in
theorem gX2_hasWord_j31 (hfl : l.flags = flags0) (t0 : Int32) (m : pmM) : pm_G l Γ zX2_hasWord (d + 0) 31 [pmU, pmU, pmU] [.int t0] m (X2_hasWord_j31 t0 m) := by
  unfold X2_hasWord_j31
  exact pm_nret (ty := .boolean) (w := vp_nar .boolean t0) rfl (by decide) rfl dX2_hasWord_31
set_option maxRecDepth 100000 in
set_option maxHeartbeats 4000000 in
theorem gX2_hasWord_j30 (hfl : l.flags = flags0) (m : pmM) : pm_G l Γ zX2_hasWord (d + 0) 30 [pmU, pmU, pmU] [] m (X2_hasWord_j30 m) := by
  unfold X2_hasWord_j30
  refine pm_iconst (v := 0) dX2_hasWord_30 ki_0 ?_
  exact gX2_hasWord_j31 hfl 0 m
set_option maxRecDepth 100000 in
set_option maxHeartbeats 4000000 in
theorem kcX2_hasWord (hfl : l.flags = flags0) (a0 : Nat) (a1 : Int32) (a2 : Int32) (m : pmM) : pm_C l Γ zX2_hasWord (d + 0) [.ref a0, .int a1, .int a2] m (X2_hasWord a0 a1 a2 m) := by
  refine pm_enter (ls := [.ref a0, .int a1, .int a2]) hfl (by decide +kernel) rfl (Nat.le_of_ble_eq_true rfl) rfl (Nat.le_of_ble_eq_true rfl) ?_
  unfold X2_hasWord
  refine pm_iload_n dX2_hasWord_0 rfl rfl ?_
  refine pm_if_lt (tgt := 30) dX2_hasWord_1 rfl ?_ ?_
  · refine pm_drop (ls2 := [pmU, pmU, pmU]) (Nat.le_refl _) (pm_le_spec (pm_le_u (pm_le_u (pm_le_u (pm_le_n))))) ?_
    exact gX2_hasWord_j30 hfl m
  · refine pm_iload_n dX2_hasWord_4 rfl rfl ?_
    refine pm_aload_n dX2_hasWord_5 rfl rfl ?_
    refine fg_2_3 (y := zX2_hasWord) (Or.inl tw_244) dX2_hasWord_6 (fun x1 => ?_)
    refine pm_icmp_ge (tgt := 30) dX2_hasWord_9 rfl ?_ ?_
    · refine pm_drop (ls2 := [pmU, pmU, pmU]) (Nat.le_refl _) (pm_le_spec (pm_le_u (pm_le_u (pm_le_u (pm_le_n))))) ?_
      exact gX2_hasWord_j30 hfl m
    · refine pm_iload_n dX2_hasWord_12 rfl rfl ?_
      refine pm_if_lt (tgt := 30) dX2_hasWord_13 rfl ?_ ?_
      · refine pm_drop (ls2 := [pmU, pmU, pmU]) (Nat.le_refl _) (pm_le_spec (pm_le_u (pm_le_u (pm_le_u (pm_le_n))))) ?_
        exact gX2_hasWord_j30 hfl m
      · refine pm_iload_n dX2_hasWord_16 rfl rfl ?_
        refine pm_aload_n dX2_hasWord_17 rfl rfl ?_
        refine fg_2_0 (y := zX2_hasWord) (Or.inl tw_237) dX2_hasWord_18 (fun r2 => ?_)
        refine pm_iload_n dX2_hasWord_21 rfl rfl ?_
        refine pm_iald (y := zX2_hasWord) dX2_hasWord_22 (fun x3 => ?_)
        refine pm_icmp_ge (tgt := 30) dX2_hasWord_23 rfl ?_ ?_
        · refine pm_drop (ls2 := [pmU, pmU, pmU]) (Nat.le_refl _) (pm_le_spec (pm_le_u (pm_le_u (pm_le_u (pm_le_n))))) ?_
          exact gX2_hasWord_j30 hfl m
        · refine pm_iconst (v := 1) dX2_hasWord_26 ki_1 ?_
          refine pm_goto (tgt := 31) dX2_hasWord_27 rfl ?_
          refine pm_drop (ls2 := [pmU, pmU, pmU]) (Nat.le_refl _) (pm_le_spec (pm_le_u (pm_le_u (pm_le_u (pm_le_n))))) ?_
          exact gX2_hasWord_j31 hfl 1 m
-- StruckPage$Desk.isLeft(II)Z
def X0_isLeft_j30 (t0 : Int32) (m : pmM) : pmR := pm_oI (vp_nar .boolean t0) m
def X0_isLeft_j29 (m : pmM) : pmR := X0_isLeft_j30 0 m
def X0_isLeft (a0 : Nat) (a1 : Int32) (a2 : Int32) (m : pmM) : pmR := pm_gR 0 a0 0 m fun r1 => pm_rc 2 r1 m <| pm_cI (X2_hasWord r1 a1 a2 m) fun x3 m2 => if x3 = 0 then (X0_isLeft_j29 m2) else (pm_gR 0 a0 2 m2 fun r4 => pm_ld 100 r4 a1 m2 fun x5 => if ((x5 >>> (a2 &&& 31)) &&& 1) = 0 then (X0_isLeft_j30 1 m2) else (X0_isLeft_j29 m2))
set_option maxRecDepth 100000 in
set_option maxHeartbeats 4000000 in
theorem gX0_isLeft_j30 (hfl : l.flags = flags0) (t0 : Int32) (m : pmM) : pm_G l Γ zX0_isLeft (d + 1) 30 [pmU, pmU, pmU] [.int t0] m (X0_isLeft_j30 t0 m) := by
  unfold X0_isLeft_j30
  exact pm_nret (ty := .boolean) (w := vp_nar .boolean t0) rfl (by decide) rfl dX0_isLeft_30
set_option maxRecDepth 100000 in
set_option maxHeartbeats 4000000 in
theorem gX0_isLeft_j29 (hfl : l.flags = flags0) (m : pmM) : pm_G l Γ zX0_isLeft (d + 1) 29 [pmU, pmU, pmU] [] m (X0_isLeft_j29 m) := by
  unfold X0_isLeft_j29
  refine pm_iconst (v := 0) dX0_isLeft_29 ki_0 ?_
  exact gX0_isLeft_j30 hfl 0 m
set_option maxRecDepth 100000 in
set_option maxHeartbeats 4000000 in
theorem kcX0_isLeft (hfl : l.flags = flags0) (a0 : Nat) (a1 : Int32) (a2 : Int32) (m : pmM) : pm_C l Γ zX0_isLeft (d + 1) [.ref a0, .int a1, .int a2] m (X0_isLeft a0 a1 a2 m) := by
  refine pm_enter (ls := [.ref a0, .int a1, .int a2]) hfl (by decide +kernel) rfl (Nat.le_of_ble_eq_true rfl) rfl (Nat.le_of_ble_eq_true rfl) ?_
  unfold X0_isLeft
  refine pm_aload_n dX0_isLeft_0 rfl rfl ?_
  refine fg_0_0 (y := zX0_isLeft) (Or.inl tw_358) dX0_isLeft_1 (fun r1 => ?_)
  refine pm_iload_n dX0_isLeft_4 rfl rfl ?_
  refine pm_iload_n dX0_isLeft_5 rfl rfl ?_
  refine pm_rcv (fun hb9 hc9 => ?_)
  refine pm_kI (d := d + 0) rfl (pm_VN (y := zX0_isLeft) (z := zX2_hasWord) (As := [.int a1, .int a2]) zkX2_hasWord pm_q2 (by decide) tw_599 tw_601 tw_17 dX0_isLeft_6 rfl rfl (Nat.le_of_ble_eq_true rfl) hb9 hc9) (kcX2_hasWord (d := d + 0) hfl r1 a1 a2 m) (fun x3 m2 => ?_)
  refine pm_if_eq (tgt := 29) dX0_isLeft_9 rfl ?_ ?_
  · refine pm_drop (ls2 := [pmU, pmU, pmU]) (Nat.le_refl _) (pm_le_spec (pm_le_u (pm_le_u (pm_le_u (pm_le_n))))) ?_
    exact gX0_isLeft_j29 hfl m2
  · refine pm_aload_n dX0_isLeft_12 rfl rfl ?_
    refine fg_0_2 (y := zX0_isLeft) (Or.inl tw_360) dX0_isLeft_13 (fun r4 => ?_)
    refine pm_iload_n dX0_isLeft_16 rfl rfl ?_
    refine pm_iald (y := zX0_isLeft) dX0_isLeft_17 (fun x5 => ?_)
    refine pm_iload_n dX0_isLeft_18 rfl rfl ?_
    refine pm_ishr dX0_isLeft_19 ?_
    refine pm_iconst (v := 1) dX0_isLeft_20 ki_1 ?_
    refine pm_iand dX0_isLeft_21 ?_
    refine pm_if_ne (tgt := 29) dX0_isLeft_22 rfl ?_ ?_
    · refine pm_drop (ls2 := [pmU, pmU, pmU]) (Nat.le_refl _) (pm_le_spec (pm_le_u (pm_le_u (pm_le_u (pm_le_n))))) ?_
      exact gX0_isLeft_j29 hfl m2
    · refine pm_iconst (v := 1) dX0_isLeft_25 ki_1 ?_
      refine pm_goto (tgt := 30) dX0_isLeft_26 rfl ?_
      refine pm_drop (ls2 := [pmU, pmU, pmU]) (Nat.le_refl _) (pm_le_spec (pm_le_u (pm_le_u (pm_le_u (pm_le_n))))) ?_
      exact gX0_isLeft_j30 hfl 1 m2
-- StruckPage$Paper.hasLine(I)Z
def X2_hasLine_j17 (t0 : Int32) (m : pmM) : pmR := pm_oI (vp_nar .boolean t0) m
def X2_hasLine_j16 (m : pmM) : pmR := X2_hasLine_j17 0 m
def X2_hasLine (a0 : Nat) (a1 : Int32) (m : pmM) : pmR := if a1 < 0 then (X2_hasLine_j16 m) else (pm_gI 2 a0 3 m fun x1 => if x1 ≤ a1 then (X2_hasLine_j16 m) else (X2_hasLine_j17 1 m))
set_option maxRecDepth 100000 in
set_option maxHeartbeats 4000000 in
theorem gX2_hasLine_j17 (hfl : l.flags = flags0) (t0 : Int32) (m : pmM) : pm_G l Γ zX2_hasLine (d + 0) 17 [pmU, pmU] [.int t0] m (X2_hasLine_j17 t0 m) := by
  unfold X2_hasLine_j17
  exact pm_nret (ty := .boolean) (w := vp_nar .boolean t0) rfl (by decide) rfl dX2_hasLine_17
set_option maxRecDepth 100000 in
set_option maxHeartbeats 4000000 in
theorem gX2_hasLine_j16 (hfl : l.flags = flags0) (m : pmM) : pm_G l Γ zX2_hasLine (d + 0) 16 [pmU, pmU] [] m (X2_hasLine_j16 m) := by
  unfold X2_hasLine_j16
  refine pm_iconst (v := 0) dX2_hasLine_16 ki_0 ?_
  exact gX2_hasLine_j17 hfl 0 m
set_option maxRecDepth 100000 in
set_option maxHeartbeats 4000000 in
theorem kcX2_hasLine (hfl : l.flags = flags0) (a0 : Nat) (a1 : Int32) (m : pmM) : pm_C l Γ zX2_hasLine (d + 0) [.ref a0, .int a1] m (X2_hasLine a0 a1 m) := by
  refine pm_enter (ls := [.ref a0, .int a1]) hfl (by decide +kernel) rfl (Nat.le_of_ble_eq_true rfl) rfl (Nat.le_of_ble_eq_true rfl) ?_
  unfold X2_hasLine
  refine pm_iload_n dX2_hasLine_0 rfl rfl ?_
  refine pm_if_lt (tgt := 16) dX2_hasLine_1 rfl ?_ ?_
  · refine pm_drop (ls2 := [pmU, pmU]) (Nat.le_refl _) (pm_le_spec (pm_le_u (pm_le_u (pm_le_n)))) ?_
    exact gX2_hasLine_j16 hfl m
  · refine pm_iload_n dX2_hasLine_4 rfl rfl ?_
    refine pm_aload_n dX2_hasLine_5 rfl rfl ?_
    refine fg_2_3 (y := zX2_hasLine) (Or.inl tw_244) dX2_hasLine_6 (fun x1 => ?_)
    refine pm_icmp_ge (tgt := 16) dX2_hasLine_9 rfl ?_ ?_
    · refine pm_drop (ls2 := [pmU, pmU]) (Nat.le_refl _) (pm_le_spec (pm_le_u (pm_le_u (pm_le_n)))) ?_
      exact gX2_hasLine_j16 hfl m
    · refine pm_iconst (v := 1) dX2_hasLine_12 ki_1 ?_
      refine pm_goto (tgt := 17) dX2_hasLine_13 rfl ?_
      refine pm_drop (ls2 := [pmU, pmU]) (Nat.le_refl _) (pm_le_spec (pm_le_u (pm_le_u (pm_le_n)))) ?_
      exact gX2_hasLine_j17 hfl 1 m
-- java/lang/Integer.bitCount(I)I
def J6_bitCount_0f7a4 (a0 : Int32) (m : pmM) : pmR := pm_bI (a0 - (((a0.toUInt32 >>> ((1 : Int32).toUInt32 &&& Int32.toUInt32 31)).toInt32) &&& 1431655765)) fun x1 => pm_bI ((x1 &&& 858993459) + (((x1.toUInt32 >>> ((2 : Int32).toUInt32 &&& Int32.toUInt32 31)).toInt32) &&& 858993459)) fun x2 => pm_bI ((x2 + ((x2.toUInt32 >>> ((4 : Int32).toUInt32 &&& Int32.toUInt32 31)).toInt32)) &&& 252645135) fun x3 => pm_bI (x3 + ((x3.toUInt32 >>> ((8 : Int32).toUInt32 &&& Int32.toUInt32 31)).toInt32)) fun x4 => pm_bI (x4 + ((x4.toUInt32 >>> ((16 : Int32).toUInt32 &&& Int32.toUInt32 31)).toInt32)) fun x5 => pm_oI (x5 &&& 63) m
set_option maxRecDepth 100000 in
set_option maxHeartbeats 4000000 in
theorem kcJ6_bitCount_0f7a4 (hfl : l.flags = flags0) (a0 : Int32) (m : pmM) : pm_C l Γ zJ6_bitCount_0f7a4 (d + 0) [.int a0] m (J6_bitCount_0f7a4 a0 m) := by
  refine pm_enter (ls := [.int a0]) hfl (by decide +kernel) rfl (Nat.le_of_ble_eq_true rfl) rfl (Nat.le_of_ble_eq_true rfl) ?_
  unfold J6_bitCount_0f7a4
  refine pm_iload_n dJ6_bitCount_0f7a4_0 rfl rfl ?_
  refine pm_iload_n dJ6_bitCount_0f7a4_1 rfl rfl ?_
  refine pm_iconst (v := 1) dJ6_bitCount_0f7a4_2 ki_1 ?_
  refine pm_iushr dJ6_bitCount_0f7a4_3 ?_
  refine pm_ldcw (y := zJ6_bitCount_0f7a4) dJ6_bitCount_0f7a4_4 tw_545 ?_
  refine pm_iand dJ6_bitCount_0f7a4_7 ?_
  refine pm_isub dJ6_bitCount_0f7a4_8 ?_
  refine pm_bIn (fun x1 => ?_)
  refine pm_istore_n (ls2 := [.int x1]) dJ6_bitCount_0f7a4_9 rfl rfl (Nat.le_of_ble_eq_true rfl) rfl ?_
  refine pm_iload_n dJ6_bitCount_0f7a4_10 rfl rfl ?_
  refine pm_ldcw (y := zJ6_bitCount_0f7a4) dJ6_bitCount_0f7a4_11 tw_546 ?_
  refine pm_iand dJ6_bitCount_0f7a4_14 ?_
  refine pm_iload_n dJ6_bitCount_0f7a4_15 rfl rfl ?_
  refine pm_iconst (v := 2) dJ6_bitCount_0f7a4_16 ki_2 ?_
  refine pm_iushr dJ6_bitCount_0f7a4_17 ?_
  refine pm_ldcw (y := zJ6_bitCount_0f7a4) dJ6_bitCount_0f7a4_18 tw_546 ?_
  refine pm_iand dJ6_bitCount_0f7a4_21 ?_
  refine pm_iadd dJ6_bitCount_0f7a4_22 ?_
  refine pm_bIn (fun x2 => ?_)
  refine pm_istore_n (ls2 := [.int x2]) dJ6_bitCount_0f7a4_23 rfl rfl (Nat.le_of_ble_eq_true rfl) rfl ?_
  refine pm_iload_n dJ6_bitCount_0f7a4_24 rfl rfl ?_
  refine pm_iload_n dJ6_bitCount_0f7a4_25 rfl rfl ?_
  refine pm_iconst (v := 4) dJ6_bitCount_0f7a4_26 ki_4 ?_
  refine pm_iushr dJ6_bitCount_0f7a4_27 ?_
  refine pm_iadd dJ6_bitCount_0f7a4_28 ?_
  refine pm_ldcw (y := zJ6_bitCount_0f7a4) dJ6_bitCount_0f7a4_29 tw_547 ?_
  refine pm_iand dJ6_bitCount_0f7a4_32 ?_
  refine pm_bIn (fun x3 => ?_)
  refine pm_istore_n (ls2 := [.int x3]) dJ6_bitCount_0f7a4_33 rfl rfl (Nat.le_of_ble_eq_true rfl) rfl ?_
  refine pm_iload_n dJ6_bitCount_0f7a4_34 rfl rfl ?_
  refine pm_iload_n dJ6_bitCount_0f7a4_35 rfl rfl ?_
  refine pm_bipush (v := 8) dJ6_bitCount_0f7a4_36 kb_8 ?_
  refine pm_iushr dJ6_bitCount_0f7a4_38 ?_
  refine pm_iadd dJ6_bitCount_0f7a4_39 ?_
  refine pm_bIn (fun x4 => ?_)
  refine pm_istore_n (ls2 := [.int x4]) dJ6_bitCount_0f7a4_40 rfl rfl (Nat.le_of_ble_eq_true rfl) rfl ?_
  refine pm_iload_n dJ6_bitCount_0f7a4_41 rfl rfl ?_
  refine pm_iload_n dJ6_bitCount_0f7a4_42 rfl rfl ?_
  refine pm_bipush (v := 16) dJ6_bitCount_0f7a4_43 kb_16 ?_
  refine pm_iushr dJ6_bitCount_0f7a4_45 ?_
  refine pm_iadd dJ6_bitCount_0f7a4_46 ?_
  refine pm_bIn (fun x5 => ?_)
  refine pm_istore_n (ls2 := [.int x5]) dJ6_bitCount_0f7a4_47 rfl rfl (Nat.le_of_ble_eq_true rfl) rfl ?_
  refine pm_iload_n dJ6_bitCount_0f7a4_48 rfl rfl ?_
  refine pm_bipush (v := 63) dJ6_bitCount_0f7a4_49 kb_63 ?_
  refine pm_iand dJ6_bitCount_0f7a4_51 ?_
  exact pm_iret rfl dJ6_bitCount_0f7a4_52
-- StruckPage$Desk.leftIn(I)I
def X0_leftIn_j34 (t0 : Int32) (m : pmM) : pmR := pm_oI t0 m
def X0_leftIn (a0 : Nat) (a1 : Int32) (m : pmM) : pmR := pm_gR 0 a0 0 m fun r1 => pm_rc 2 r1 m <| pm_cI (X2_hasLine r1 a1 m) fun x3 m2 => if x3 = 0 then (X0_leftIn_j34 0 m2) else (pm_gR 0 a0 0 m2 fun r4 => pm_gR 2 r4 0 m2 fun r5 => pm_ld 100 r5 a1 m2 fun x6 => pm_gR 0 a0 2 m2 fun r7 => pm_ld 100 r7 a1 m2 fun x8 => pm_cI (J6_bitCount_0f7a4 x8 m2) fun x10 m9 => X0_leftIn_j34 (x6 - x10) m9)
set_option maxRecDepth 100000 in
set_option maxHeartbeats 4000000 in
theorem gX0_leftIn_j34 (hfl : l.flags = flags0) (t0 : Int32) (m : pmM) : pm_G l Γ zX0_leftIn (d + 1) 34 [pmU, pmU] [.int t0] m (X0_leftIn_j34 t0 m) := by
  unfold X0_leftIn_j34
  exact pm_iret rfl dX0_leftIn_34
set_option maxRecDepth 100000 in
set_option maxHeartbeats 4000000 in
theorem kcX0_leftIn (hfl : l.flags = flags0) (a0 : Nat) (a1 : Int32) (m : pmM) : pm_C l Γ zX0_leftIn (d + 1) [.ref a0, .int a1] m (X0_leftIn a0 a1 m) := by
  refine pm_enter (ls := [.ref a0, .int a1]) hfl (by decide +kernel) rfl (Nat.le_of_ble_eq_true rfl) rfl (Nat.le_of_ble_eq_true rfl) ?_
  unfold X0_leftIn
  refine pm_aload_n dX0_leftIn_0 rfl rfl ?_
  refine fg_0_0 (y := zX0_leftIn) (Or.inl tw_358) dX0_leftIn_1 (fun r1 => ?_)
  refine pm_iload_n dX0_leftIn_4 rfl rfl ?_
  refine pm_rcv (fun hb9 hc9 => ?_)
  refine pm_kI (d := d + 0) rfl (pm_VN (y := zX0_leftIn) (z := zX2_hasLine) (As := [.int a1]) zkX2_hasLine pm_q2 (by decide) tw_568 tw_570 tw_11 dX0_leftIn_5 rfl rfl (Nat.le_of_ble_eq_true rfl) hb9 hc9) (kcX2_hasLine (d := d + 0) hfl r1 a1 m) (fun x3 m2 => ?_)
  refine pm_if_eq (tgt := 33) dX0_leftIn_8 rfl ?_ ?_
  · refine pm_iconst (v := 0) dX0_leftIn_33 ki_0 ?_
    refine pm_drop (ls2 := [pmU, pmU]) (Nat.le_refl _) (pm_le_spec (pm_le_u (pm_le_u (pm_le_n)))) ?_
    exact gX0_leftIn_j34 hfl 0 m2
  · refine pm_aload_n dX0_leftIn_11 rfl rfl ?_
    refine fg_0_0 (y := zX0_leftIn) (Or.inl tw_358) dX0_leftIn_12 (fun r4 => ?_)
    refine fg_2_0 (y := zX0_leftIn) (Or.inr tw_239) dX0_leftIn_15 (fun r5 => ?_)
    refine pm_iload_n dX0_leftIn_18 rfl rfl ?_
    refine pm_iald (y := zX0_leftIn) dX0_leftIn_19 (fun x6 => ?_)
    refine pm_aload_n dX0_leftIn_20 rfl rfl ?_
    refine fg_0_2 (y := zX0_leftIn) (Or.inl tw_360) dX0_leftIn_21 (fun r7 => ?_)
    refine pm_iload_n dX0_leftIn_24 rfl rfl ?_
    refine pm_iald (y := zX0_leftIn) dX0_leftIn_25 (fun x8 => ?_)
    refine pm_kI (d := d + 0) rfl (pm_S (y := zX0_leftIn) (z := zJ6_bitCount_0f7a4) (As := [.int x8]) zkJ6_bitCount_0f7a4 tw_576 tw_543 dX0_leftIn_26 rfl rfl (Nat.le_of_ble_eq_true rfl)) (kcJ6_bitCount_0f7a4 (d := d + 0) hfl x8 m2) (fun x10 m9 => ?_)
    refine pm_isub dX0_leftIn_29 ?_
    refine pm_goto (tgt := 34) dX0_leftIn_30 rfl ?_
    refine pm_drop (ls2 := [pmU, pmU]) (Nat.le_refl _) (pm_le_spec (pm_le_u (pm_le_u (pm_le_n)))) ?_
    exact gX0_leftIn_j34 hfl (x6 - x10) m9
-- StruckPage$Desk.leftInAll()I
def X0_leftInAll_L10 (l0 : Nat) (again10 : (Int32 × Int32 × pmM) → pmR) (s10 : Int32 × Int32 × pmM) : pmR := pm_gR 0 l0 0 s10.2.2 fun r3 => pm_gI 2 r3 3 s10.2.2 fun x4 => if x4 ≤ s10.2.1 then (pm_oI s10.1 s10.2.2) else (pm_gR 0 l0 2 s10.2.2 fun r5 => pm_ld 100 r5 s10.2.1 s10.2.2 fun x6 => pm_cI (J6_bitCount_0f7a4 x6 s10.2.2) fun x8 m7 => pm_bI (s10.1 - x8) fun x9 => pm_bI (s10.2.1 + 1) fun x10 => again10 (x9, x10, m7))
def X0_leftInAll (a0 : Nat) (m : pmM) : pmR := pm_gR 0 a0 0 m fun r1 => pm_gI 2 r1 4 m fun x2 => pm_lp pm_N (X0_leftInAll_L10 a0) (x2, 0, m)
set_option maxRecDepth 100000 in
set_option maxHeartbeats 4000000 in
theorem gX0_leftInAll_L10 (hfl : l.flags = flags0) (l0 : Nat) : ∀ (n : Nat) (s : Int32 × Int32 × pmM), pm_G l Γ zX0_leftInAll (d + 1) 10 [.ref l0, .int s.1, .int s.2.1] [] s.2.2 (pm_lp n (X0_leftInAll_L10 l0) s) :=
  pm_loop (lsf := fun s : Int32 × Int32 × pmM => [.ref l0, .int s.1, .int s.2.1]) (mf := fun s : Int32 × Int32 × pmM => s.2.2) (fun again10 hag10 s10 => by
    unfold X0_leftInAll_L10
    refine pm_iload_n dX0_leftInAll_10 rfl rfl ?_
    refine pm_aload_n dX0_leftInAll_11 rfl rfl ?_
    refine fg_0_0 (y := zX0_leftInAll) (Or.inl tw_358) dX0_leftInAll_12 (fun r3 => ?_)
    refine fg_2_3 (y := zX0_leftInAll) (Or.inr tw_247) dX0_leftInAll_15 (fun x4 => ?_)
    refine pm_icmp_ge (tgt := 39) dX0_leftInAll_18 rfl ?_ ?_
    · refine pm_iload_n dX0_leftInAll_39 rfl rfl ?_
      exact pm_iret rfl dX0_leftInAll_40
    · refine pm_iload_n dX0_leftInAll_21 rfl rfl ?_
      refine pm_aload_n dX0_leftInAll_22 rfl rfl ?_
      refine fg_0_2 (y := zX0_leftInAll) (Or.inl tw_360) dX0_leftInAll_23 (fun r5 => ?_)
      refine pm_iload_n dX0_leftInAll_26 rfl rfl ?_
      refine pm_iald (y := zX0_leftInAll) dX0_leftInAll_27 (fun x6 => ?_)
      refine pm_kI (d := d + 0) rfl (pm_S (y := zX0_leftInAll) (z := zJ6_bitCount_0f7a4) (As := [.int x6]) zkJ6_bitCount_0f7a4 tw_576 tw_543 dX0_leftInAll_28 rfl rfl (Nat.le_of_ble_eq_true rfl)) (kcJ6_bitCount_0f7a4 (d := d + 0) hfl x6 s10.2.2) (fun x8 m7 => ?_)
      refine pm_isub dX0_leftInAll_31 ?_
      refine pm_bIn (fun x9 => ?_)
      refine pm_istore_n (ls2 := [.ref l0, .int x9, .int s10.2.1]) dX0_leftInAll_32 rfl rfl (Nat.le_of_ble_eq_true rfl) rfl ?_
      refine pm_iincn (y := zX0_leftInAll) dX0_leftInAll_33 rfl ki_1 rfl (Nat.le_of_ble_eq_true rfl) (fun x10 => ?_)
      refine pm_eqls (ls2 := [.ref l0, .int x9, .int x10]) rfl ?_
      refine pm_goto (tgt := 10) dX0_leftInAll_36 rfl ?_
      exact hag10 (x9, x10, m7))
set_option maxRecDepth 100000 in
set_option maxHeartbeats 4000000 in
theorem kcX0_leftInAll (hfl : l.flags = flags0) (a0 : Nat) (m : pmM) : pm_C l Γ zX0_leftInAll (d + 1) [.ref a0] m (X0_leftInAll a0 m) := by
  refine pm_enter (ls := [.ref a0, pmU, pmU]) hfl (by decide +kernel) rfl (Nat.le_of_ble_eq_true rfl) rfl (Nat.le_of_ble_eq_true rfl) ?_
  unfold X0_leftInAll
  refine pm_aload_n dX0_leftInAll_0 rfl rfl ?_
  refine fg_0_0 (y := zX0_leftInAll) (Or.inl tw_358) dX0_leftInAll_1 (fun r1 => ?_)
  refine fg_2_4 (y := zX0_leftInAll) (Or.inr tw_250) dX0_leftInAll_4 (fun x2 => ?_)
  refine pm_istore_n (ls2 := [.ref a0, .int x2, pmU]) dX0_leftInAll_7 rfl rfl (Nat.le_of_ble_eq_true rfl) rfl ?_
  refine pm_iconst (v := 0) dX0_leftInAll_8 ki_0 ?_
  refine pm_istore_n (ls2 := [.ref a0, .int x2, .int 0]) dX0_leftInAll_9 rfl rfl (Nat.le_of_ble_eq_true rfl) rfl ?_
  exact gX0_leftInAll_L10 hfl a0 pm_N (x2, 0, m)
-- StruckPage$Desk.leftBits(I)I
def X0_leftBits_j37 (t0 : Int32) (m : pmM) : pmR := pm_oI t0 m
def X0_leftBits (a0 : Nat) (a1 : Int32) (m : pmM) : pmR := pm_gR 0 a0 0 m fun r1 => pm_rc 2 r1 m <| pm_cI (X2_hasLine r1 a1 m) fun x3 m2 => if x3 = 0 then (X0_leftBits_j37 0 m2) else (pm_gR 0 a0 0 m2 fun r4 => pm_gR 2 r4 0 m2 fun r5 => pm_ld 100 r5 a1 m2 fun x6 => pm_gR 0 a0 2 m2 fun r7 => pm_ld 100 r7 a1 m2 fun x8 => X0_leftBits_j37 ((((1 : Int32) <<< (x6 &&& 31)) - 1) &&& (x8 ^^^ (-1))) m2)
set_option maxRecDepth 100000 in
set_option maxHeartbeats 4000000 in
theorem gX0_leftBits_j37 (hfl : l.flags = flags0) (t0 : Int32) (m : pmM) : pm_G l Γ zX0_leftBits (d + 1) 37 [pmU, pmU] [.int t0] m (X0_leftBits_j37 t0 m) := by
  unfold X0_leftBits_j37
  exact pm_iret rfl dX0_leftBits_37
set_option maxRecDepth 100000 in
set_option maxHeartbeats 4000000 in
theorem kcX0_leftBits (hfl : l.flags = flags0) (a0 : Nat) (a1 : Int32) (m : pmM) : pm_C l Γ zX0_leftBits (d + 1) [.ref a0, .int a1] m (X0_leftBits a0 a1 m) := by
  refine pm_enter (ls := [.ref a0, .int a1]) hfl (by decide +kernel) rfl (Nat.le_of_ble_eq_true rfl) rfl (Nat.le_of_ble_eq_true rfl) ?_
  unfold X0_leftBits
  refine pm_aload_n dX0_leftBits_0 rfl rfl ?_
  refine fg_0_0 (y := zX0_leftBits) (Or.inl tw_358) dX0_leftBits_1 (fun r1 => ?_)
  refine pm_iload_n dX0_leftBits_4 rfl rfl ?_
  refine pm_rcv (fun hb9 hc9 => ?_)
  refine pm_kI (d := d + 0) rfl (pm_VN (y := zX0_leftBits) (z := zX2_hasLine) (As := [.int a1]) zkX2_hasLine pm_q2 (by decide) tw_568 tw_570 tw_11 dX0_leftBits_5 rfl rfl (Nat.le_of_ble_eq_true rfl) hb9 hc9) (kcX2_hasLine (d := d + 0) hfl r1 a1 m) (fun x3 m2 => ?_)
  refine pm_if_eq (tgt := 36) dX0_leftBits_8 rfl ?_ ?_
  · refine pm_iconst (v := 0) dX0_leftBits_36 ki_0 ?_
    refine pm_drop (ls2 := [pmU, pmU]) (Nat.le_refl _) (pm_le_spec (pm_le_u (pm_le_u (pm_le_n)))) ?_
    exact gX0_leftBits_j37 hfl 0 m2
  · refine pm_iconst (v := 1) dX0_leftBits_11 ki_1 ?_
    refine pm_aload_n dX0_leftBits_12 rfl rfl ?_
    refine fg_0_0 (y := zX0_leftBits) (Or.inl tw_358) dX0_leftBits_13 (fun r4 => ?_)
    refine fg_2_0 (y := zX0_leftBits) (Or.inr tw_239) dX0_leftBits_16 (fun r5 => ?_)
    refine pm_iload_n dX0_leftBits_19 rfl rfl ?_
    refine pm_iald (y := zX0_leftBits) dX0_leftBits_20 (fun x6 => ?_)
    refine pm_ishl dX0_leftBits_21 ?_
    refine pm_iconst (v := 1) dX0_leftBits_22 ki_1 ?_
    refine pm_isub dX0_leftBits_23 ?_
    refine pm_aload_n dX0_leftBits_24 rfl rfl ?_
    refine fg_0_2 (y := zX0_leftBits) (Or.inl tw_360) dX0_leftBits_25 (fun r7 => ?_)
    refine pm_iload_n dX0_leftBits_28 rfl rfl ?_
    refine pm_iald (y := zX0_leftBits) dX0_leftBits_29 (fun x8 => ?_)
    refine pm_iconst (v := (-1)) dX0_leftBits_30 ki_n1 ?_
    refine pm_ixor dX0_leftBits_31 ?_
    refine pm_iand dX0_leftBits_32 ?_
    refine pm_goto (tgt := 37) dX0_leftBits_33 rfl ?_
    refine pm_drop (ls2 := [pmU, pmU]) (Nat.le_refl _) (pm_le_spec (pm_le_u (pm_le_u (pm_le_n)))) ?_
    exact gX0_leftBits_j37 hfl ((((1 : Int32) <<< (x6 &&& 31)) - 1) &&& (x8 ^^^ (-1))) m2
-- StruckPage$Paper.wordAt(II)I
def X2_wordAt_j41 (t0 : Int32) (m : pmM) : pmR := pm_oI t0 m
def X2_wordAt_j40 (m : pmM) : pmR := X2_wordAt_j41 0 m
def X2_wordAt (a0 : Nat) (a1 : Int32) (a2 : Int32) (m : pmM) : pmR := if a1 < 0 then (X2_wordAt_j40 m) else (pm_gI 2 a0 3 m fun x1 => if x1 ≤ a1 then (X2_wordAt_j40 m) else (if a2 < 0 then (X2_wordAt_j40 m) else (pm_gR 2 a0 0 m fun r2 => pm_ld 100 r2 a1 m fun x3 => if x3 ≤ a2 then (X2_wordAt_j40 m) else (pm_gR 2 a0 1 m fun r4 => pm_ld 100 r4 ((a1 * 8) + a2) m fun x5 => X2_wordAt_j41 x5 m))))
set_option maxRecDepth 100000 in
set_option maxHeartbeats 4000000 in
theorem gX2_wordAt_j41 (hfl : l.flags = flags0) (t0 : Int32) (m : pmM) : pm_G l Γ zX2_wordAt (d + 0) 41 [pmU, pmU, pmU] [.int t0] m (X2_wordAt_j41 t0 m) := by
  unfold X2_wordAt_j41
  exact pm_iret rfl dX2_wordAt_41
set_option maxRecDepth 100000 in
set_option maxHeartbeats 4000000 in
theorem gX2_wordAt_j40 (hfl : l.flags = flags0) (m : pmM) : pm_G l Γ zX2_wordAt (d + 0) 40 [pmU, pmU, pmU] [] m (X2_wordAt_j40 m) := by
  unfold X2_wordAt_j40
  refine pm_iconst (v := 0) dX2_wordAt_40 ki_0 ?_
  exact gX2_wordAt_j41 hfl 0 m
set_option maxRecDepth 100000 in
set_option maxHeartbeats 4000000 in
theorem kcX2_wordAt (hfl : l.flags = flags0) (a0 : Nat) (a1 : Int32) (a2 : Int32) (m : pmM) : pm_C l Γ zX2_wordAt (d + 0) [.ref a0, .int a1, .int a2] m (X2_wordAt a0 a1 a2 m) := by
  refine pm_enter (ls := [.ref a0, .int a1, .int a2]) hfl (by decide +kernel) rfl (Nat.le_of_ble_eq_true rfl) rfl (Nat.le_of_ble_eq_true rfl) ?_
  unfold X2_wordAt
  refine pm_iload_n dX2_wordAt_0 rfl rfl ?_
  refine pm_if_lt (tgt := 40) dX2_wordAt_1 rfl ?_ ?_
  · refine pm_drop (ls2 := [pmU, pmU, pmU]) (Nat.le_refl _) (pm_le_spec (pm_le_u (pm_le_u (pm_le_u (pm_le_n))))) ?_
    exact gX2_wordAt_j40 hfl m
  · refine pm_iload_n dX2_wordAt_4 rfl rfl ?_
    refine pm_aload_n dX2_wordAt_5 rfl rfl ?_
    refine fg_2_3 (y := zX2_wordAt) (Or.inl tw_244) dX2_wordAt_6 (fun x1 => ?_)
    refine pm_icmp_ge (tgt := 40) dX2_wordAt_9 rfl ?_ ?_
    · refine pm_drop (ls2 := [pmU, pmU, pmU]) (Nat.le_refl _) (pm_le_spec (pm_le_u (pm_le_u (pm_le_u (pm_le_n))))) ?_
      exact gX2_wordAt_j40 hfl m
    · refine pm_iload_n dX2_wordAt_12 rfl rfl ?_
      refine pm_if_lt (tgt := 40) dX2_wordAt_13 rfl ?_ ?_
      · refine pm_drop (ls2 := [pmU, pmU, pmU]) (Nat.le_refl _) (pm_le_spec (pm_le_u (pm_le_u (pm_le_u (pm_le_n))))) ?_
        exact gX2_wordAt_j40 hfl m
      · refine pm_iload_n dX2_wordAt_16 rfl rfl ?_
        refine pm_aload_n dX2_wordAt_17 rfl rfl ?_
        refine fg_2_0 (y := zX2_wordAt) (Or.inl tw_237) dX2_wordAt_18 (fun r2 => ?_)
        refine pm_iload_n dX2_wordAt_21 rfl rfl ?_
        refine pm_iald (y := zX2_wordAt) dX2_wordAt_22 (fun x3 => ?_)
        refine pm_icmp_ge (tgt := 40) dX2_wordAt_23 rfl ?_ ?_
        · refine pm_drop (ls2 := [pmU, pmU, pmU]) (Nat.le_refl _) (pm_le_spec (pm_le_u (pm_le_u (pm_le_u (pm_le_n))))) ?_
          exact gX2_wordAt_j40 hfl m
        · refine pm_aload_n dX2_wordAt_26 rfl rfl ?_
          refine fg_2_1 (y := zX2_wordAt) (Or.inl tw_241) dX2_wordAt_27 (fun r4 => ?_)
          refine pm_iload_n dX2_wordAt_30 rfl rfl ?_
          refine pm_bipush (v := 8) dX2_wordAt_31 kb_8 ?_
          refine pm_imul dX2_wordAt_33 ?_
          refine pm_iload_n dX2_wordAt_34 rfl rfl ?_
          refine pm_iadd dX2_wordAt_35 ?_
          refine pm_iald (y := zX2_wordAt) dX2_wordAt_36 (fun x5 => ?_)
          refine pm_goto (tgt := 41) dX2_wordAt_37 rfl ?_
          refine pm_drop (ls2 := [pmU, pmU, pmU]) (Nat.le_refl _) (pm_le_spec (pm_le_u (pm_le_u (pm_le_u (pm_le_n))))) ?_
          exact gX2_wordAt_j41 hfl x5 m
-- StruckPage$Desk.lowestWord(II)I
def X0_lowestWord_j25 (t0 : Int32) (m : pmM) : pmR := pm_oI t0 m
def X0_lowestWord (a0 : Nat) (a1 : Int32) (a2 : Int32) (m : pmM) : pmR := if a2 = 0 then (X0_lowestWord_j25 0 m) else (pm_gR 0 a0 0 m fun r1 => pm_cI (J6_bitCount_0f7a4 ((a2 &&& (-a2)) - 1) m) fun x3 m2 => pm_rc 2 r1 m2 <| pm_cI (X2_wordAt r1 a1 x3 m2) fun x5 m4 => X0_lowestWord_j25 x5 m4)
set_option maxRecDepth 100000 in
set_option maxHeartbeats 4000000 in
theorem gX0_lowestWord_j25 (hfl : l.flags = flags0) (t0 : Int32) (m : pmM) : pm_G l Γ zX0_lowestWord (d + 1) 25 [pmU, pmU, pmU] [.int t0] m (X0_lowestWord_j25 t0 m) := by
  unfold X0_lowestWord_j25
  exact pm_iret rfl dX0_lowestWord_25
set_option maxRecDepth 100000 in
set_option maxHeartbeats 4000000 in
theorem kcX0_lowestWord (hfl : l.flags = flags0) (a0 : Nat) (a1 : Int32) (a2 : Int32) (m : pmM) : pm_C l Γ zX0_lowestWord (d + 1) [.ref a0, .int a1, .int a2] m (X0_lowestWord a0 a1 a2 m) := by
  refine pm_enter (ls := [.ref a0, .int a1, .int a2]) hfl (by decide +kernel) rfl (Nat.le_of_ble_eq_true rfl) rfl (Nat.le_of_ble_eq_true rfl) ?_
  unfold X0_lowestWord
  refine pm_iload_n dX0_lowestWord_0 rfl rfl ?_
  refine pm_if_ne (tgt := 8) dX0_lowestWord_1 rfl ?_ ?_
  · refine pm_aload_n dX0_lowestWord_8 rfl rfl ?_
    refine fg_0_0 (y := zX0_lowestWord) (Or.inl tw_358) dX0_lowestWord_9 (fun r1 => ?_)
    refine pm_iload_n dX0_lowestWord_12 rfl rfl ?_
    refine pm_iload_n dX0_lowestWord_13 rfl rfl ?_
    refine pm_iload_n dX0_lowestWord_14 rfl rfl ?_
    refine pm_ineg dX0_lowestWord_15 ?_
    refine pm_iand dX0_lowestWord_16 ?_
    refine pm_iconst (v := 1) dX0_lowestWord_17 ki_1 ?_
    refine pm_isub dX0_lowestWord_18 ?_
    refine pm_kI (d := d + 0) rfl (pm_S (y := zX0_lowestWord) (z := zJ6_bitCount_0f7a4) (As := [.int ((a2 &&& (-a2)) - 1)]) zkJ6_bitCount_0f7a4 tw_576 tw_543 dX0_lowestWord_19 rfl rfl (Nat.le_of_ble_eq_true rfl)) (kcJ6_bitCount_0f7a4 (d := d + 0) hfl ((a2 &&& (-a2)) - 1) m) (fun x3 m2 => ?_)
    refine pm_rcv (fun hb9 hc9 => ?_)
    refine pm_kI (d := d + 0) rfl (pm_VN (y := zX0_lowestWord) (z := zX2_wordAt) (As := [.int a1, .int x3]) zkX2_wordAt pm_q2 (by decide) tw_577 tw_579 tw_13 dX0_lowestWord_22 rfl rfl (Nat.le_of_ble_eq_true rfl) hb9 hc9) (kcX2_wordAt (d := d + 0) hfl r1 a1 x3 m2) (fun x5 m4 => ?_)
    refine pm_drop (ls2 := [pmU, pmU, pmU]) (Nat.le_refl _) (pm_le_spec (pm_le_u (pm_le_u (pm_le_u (pm_le_n))))) ?_
    exact gX0_lowestWord_j25 hfl x5 m4
  · refine pm_iconst (v := 0) dX0_lowestWord_4 ki_0 ?_
    refine pm_goto (tgt := 25) dX0_lowestWord_5 rfl ?_
    refine pm_drop (ls2 := [pmU, pmU, pmU]) (Nat.le_refl _) (pm_le_spec (pm_le_u (pm_le_u (pm_le_u (pm_le_n))))) ?_
    exact gX0_lowestWord_j25 hfl 0 m
-- StruckPage$Desk.firstLeft(I)I
def X0_firstLeft_j20 (t0 : Int32) (m : pmM) : pmR := pm_oI t0 m
def X0_firstLeft (a0 : Nat) (a1 : Int32) (m : pmM) : pmR := pm_rc 0 a0 m <| pm_cI (X0_leftBits a0 a1 m) fun x2 m1 => if x2 = 0 then (X0_firstLeft_j20 (-1) m1) else (pm_rc 0 a0 m1 <| pm_cI (X0_lowestWord a0 a1 x2 m1) fun x4 m3 => X0_firstLeft_j20 x4 m3)
set_option maxRecDepth 100000 in
set_option maxHeartbeats 4000000 in
theorem gX0_firstLeft_j20 (hfl : l.flags = flags0) (t0 : Int32) (m : pmM) : pm_G l Γ zX0_firstLeft (d + 2) 20 [pmU, pmU, pmU] [.int t0] m (X0_firstLeft_j20 t0 m) := by
  unfold X0_firstLeft_j20
  exact pm_iret rfl dX0_firstLeft_20
set_option maxRecDepth 100000 in
set_option maxHeartbeats 4000000 in
theorem kcX0_firstLeft (hfl : l.flags = flags0) (a0 : Nat) (a1 : Int32) (m : pmM) : pm_C l Γ zX0_firstLeft (d + 2) [.ref a0, .int a1] m (X0_firstLeft a0 a1 m) := by
  refine pm_enter (ls := [.ref a0, .int a1, pmU]) hfl (by decide +kernel) rfl (Nat.le_of_ble_eq_true rfl) rfl (Nat.le_of_ble_eq_true rfl) ?_
  unfold X0_firstLeft
  refine pm_aload_n dX0_firstLeft_0 rfl rfl ?_
  refine pm_iload_n dX0_firstLeft_1 rfl rfl ?_
  refine pm_rcv (fun hb9 hc9 => ?_)
  refine pm_kI (d := d + 1) rfl (pm_V (y := zX0_firstLeft) (z := zX0_leftBits) (As := [.int a1]) zkX0_leftBits pm_q0 (by decide) tw_564 tw_566 tw_10 dX0_firstLeft_2 rfl rfl (Nat.le_of_ble_eq_true rfl) hb9 hc9) (kcX0_leftBits (d := d + 0) hfl a0 a1 m) (fun x2 m1 => ?_)
  refine pm_istore_n (ls2 := [.ref a0, .int a1, .int x2]) dX0_firstLeft_5 rfl rfl (Nat.le_of_ble_eq_true rfl) rfl ?_
  refine pm_iload_n dX0_firstLeft_6 rfl rfl ?_
  refine pm_if_ne (tgt := 14) dX0_firstLeft_7 rfl ?_ ?_
  · refine pm_aload_n dX0_firstLeft_14 rfl rfl ?_
    refine pm_iload_n dX0_firstLeft_15 rfl rfl ?_
    refine pm_iload_n dX0_firstLeft_16 rfl rfl ?_
    refine pm_rcv (fun hb9 hc9 => ?_)
    refine pm_kI (d := d + 1) rfl (pm_V (y := zX0_firstLeft) (z := zX0_lowestWord) (As := [.int a1, .int x2]) zkX0_lowestWord pm_q0 (by decide) tw_572 tw_574 tw_12 dX0_firstLeft_17 rfl rfl (Nat.le_of_ble_eq_true rfl) hb9 hc9) (kcX0_lowestWord (d := d + 0) hfl a0 a1 x2 m1) (fun x4 m3 => ?_)
    refine pm_drop (ls2 := [pmU, pmU, pmU]) (Nat.le_refl _) (pm_le_spec (pm_le_u (pm_le_u (pm_le_u (pm_le_n))))) ?_
    exact gX0_firstLeft_j20 hfl x4 m3
  · refine pm_iconst (v := (-1)) dX0_firstLeft_10 ki_n1 ?_
    refine pm_goto (tgt := 20) dX0_firstLeft_11 rfl ?_
    refine pm_drop (ls2 := [pmU, pmU, pmU]) (Nat.le_refl _) (pm_le_spec (pm_le_u (pm_le_u (pm_le_u (pm_le_n))))) ?_
    exact gX0_firstLeft_j20 hfl (-1) m1
-- StruckPage$Desk.sumOfLeft(I)I
def X0_sumOfLeft_j41 (again11 : (Int32 × Int32 × pmM) → pmR) (l0 : Nat) (l1 : Int32) (l2 : Int32) (l3 : Int32) (l4 : Int32) (m : pmM) : pmR := pm_bI (l4 + 1) fun x3 => again11 (l3, x3, m)
def X0_sumOfLeft_L11 (l0 : Nat) (l1 : Int32) (l2 : Int32) (again11 : (Int32 × Int32 × pmM) → pmR) (s11 : Int32 × Int32 × pmM) : pmR := if (8 : Int32) ≤ s11.2.1 then (pm_oI s11.1 s11.2.2) else (if ((l2 >>> (s11.2.1 &&& 31)) &&& 1) = 1 then (pm_gR 0 l0 0 s11.2.2 fun r4 => pm_rc 2 r4 s11.2.2 <| pm_cI (X2_wordAt r4 l1 s11.2.1 s11.2.2) fun x6 m5 => pm_bI (s11.1 + x6) fun x7 => X0_sumOfLeft_j41 again11 l0 l1 l2 x7 s11.2.1 m5) else (X0_sumOfLeft_j41 again11 l0 l1 l2 s11.1 s11.2.1 s11.2.2))
def X0_sumOfLeft (a0 : Nat) (a1 : Int32) (m : pmM) : pmR := pm_rc 0 a0 m <| pm_cI (X0_leftBits a0 a1 m) fun x2 m1 => pm_lp pm_N (X0_sumOfLeft_L11 a0 a1 x2) (0, 0, m1)
set_option maxRecDepth 100000 in
set_option maxHeartbeats 4000000 in
theorem gX0_sumOfLeft_j41 (hfl : l.flags = flags0) (again11 : (Int32 × Int32 × pmM) → pmR) (l0 : Nat) (l1 : Int32) (l2 : Int32) (l3 : Int32) (l4 : Int32) (m : pmM) (hag11 : ∀ s : Int32 × Int32 × pmM, pm_G l Γ zX0_sumOfLeft (d + 2) 11 [.ref l0, .int l1, .int l2, .int s.1, .int s.2.1] [] s.2.2 (again11 s)) : pm_G l Γ zX0_sumOfLeft (d + 2) 41 [.ref l0, .int l1, .int l2, .int l3, .int l4] [] m (X0_sumOfLeft_j41 again11 l0 l1 l2 l3 l4 m) := by
  unfold X0_sumOfLeft_j41
  refine pm_iincn (y := zX0_sumOfLeft) dX0_sumOfLeft_41 rfl ki_1 rfl (Nat.le_of_ble_eq_true rfl) (fun x3 => ?_)
  refine pm_eqls (ls2 := [.ref l0, .int l1, .int l2, .int l3, .int x3]) rfl ?_
  refine pm_goto (tgt := 11) dX0_sumOfLeft_44 rfl ?_
  exact hag11 (l3, x3, m)
set_option maxRecDepth 100000 in
set_option maxHeartbeats 4000000 in
theorem gX0_sumOfLeft_L11 (hfl : l.flags = flags0) (l0 : Nat) (l1 : Int32) (l2 : Int32) : ∀ (n : Nat) (s : Int32 × Int32 × pmM), pm_G l Γ zX0_sumOfLeft (d + 2) 11 [.ref l0, .int l1, .int l2, .int s.1, .int s.2.1] [] s.2.2 (pm_lp n (X0_sumOfLeft_L11 l0 l1 l2) s) :=
  pm_loop (lsf := fun s : Int32 × Int32 × pmM => [.ref l0, .int l1, .int l2, .int s.1, .int s.2.1]) (mf := fun s : Int32 × Int32 × pmM => s.2.2) (fun again11 hag11 s11 => by
    unfold X0_sumOfLeft_L11
    refine pm_iload dX0_sumOfLeft_11 rfl ?_
    refine pm_bipush (v := 8) dX0_sumOfLeft_13 kb_8 ?_
    refine pm_icmp_ge (tgt := 47) dX0_sumOfLeft_15 rfl ?_ ?_
    · refine pm_iload_n dX0_sumOfLeft_47 rfl rfl ?_
      exact pm_iret rfl dX0_sumOfLeft_48
    · refine pm_iload_n dX0_sumOfLeft_18 rfl rfl ?_
      refine pm_iload dX0_sumOfLeft_19 rfl ?_
      refine pm_ishr dX0_sumOfLeft_21 ?_
      refine pm_iconst (v := 1) dX0_sumOfLeft_22 ki_1 ?_
      refine pm_iand dX0_sumOfLeft_23 ?_
      refine pm_iconst (v := 1) dX0_sumOfLeft_24 ki_1 ?_
      refine pm_icmp_ne (tgt := 41) dX0_sumOfLeft_25 rfl ?_ ?_
      · exact gX0_sumOfLeft_j41 hfl again11 l0 l1 l2 s11.1 s11.2.1 s11.2.2 hag11
      · refine pm_iload_n dX0_sumOfLeft_28 rfl rfl ?_
        refine pm_aload_n dX0_sumOfLeft_29 rfl rfl ?_
        refine fg_0_0 (y := zX0_sumOfLeft) (Or.inl tw_358) dX0_sumOfLeft_30 (fun r4 => ?_)
        refine pm_iload_n dX0_sumOfLeft_33 rfl rfl ?_
        refine pm_iload dX0_sumOfLeft_34 rfl ?_
        refine pm_rcv (fun hb9 hc9 => ?_)
        refine pm_kI (d := d + 1) rfl (pm_VN (y := zX0_sumOfLeft) (z := zX2_wordAt) (As := [.int l1, .int s11.2.1]) zkX2_wordAt pm_q2 (by decide) tw_577 tw_579 tw_13 dX0_sumOfLeft_36 rfl rfl (Nat.le_of_ble_eq_true rfl) hb9 hc9) (kcX2_wordAt (d := d + 1) hfl r4 l1 s11.2.1 s11.2.2) (fun x6 m5 => ?_)
        refine pm_iadd dX0_sumOfLeft_39 ?_
        refine pm_bIn (fun x7 => ?_)
        refine pm_istore_n (ls2 := [.ref l0, .int l1, .int l2, .int x7, .int s11.2.1]) dX0_sumOfLeft_40 rfl rfl (Nat.le_of_ble_eq_true rfl) rfl ?_
        exact gX0_sumOfLeft_j41 hfl again11 l0 l1 l2 x7 s11.2.1 m5 hag11)
set_option maxRecDepth 100000 in
set_option maxHeartbeats 4000000 in
theorem kcX0_sumOfLeft (hfl : l.flags = flags0) (a0 : Nat) (a1 : Int32) (m : pmM) : pm_C l Γ zX0_sumOfLeft (d + 2) [.ref a0, .int a1] m (X0_sumOfLeft a0 a1 m) := by
  refine pm_enter (ls := [.ref a0, .int a1, pmU, pmU, pmU]) hfl (by decide +kernel) rfl (Nat.le_of_ble_eq_true rfl) rfl (Nat.le_of_ble_eq_true rfl) ?_
  unfold X0_sumOfLeft
  refine pm_aload_n dX0_sumOfLeft_0 rfl rfl ?_
  refine pm_iload_n dX0_sumOfLeft_1 rfl rfl ?_
  refine pm_rcv (fun hb9 hc9 => ?_)
  refine pm_kI (d := d + 1) rfl (pm_V (y := zX0_sumOfLeft) (z := zX0_leftBits) (As := [.int a1]) zkX0_leftBits pm_q0 (by decide) tw_564 tw_566 tw_10 dX0_sumOfLeft_2 rfl rfl (Nat.le_of_ble_eq_true rfl) hb9 hc9) (kcX0_leftBits (d := d + 0) hfl a0 a1 m) (fun x2 m1 => ?_)
  refine pm_istore_n (ls2 := [.ref a0, .int a1, .int x2, pmU, pmU]) dX0_sumOfLeft_5 rfl rfl (Nat.le_of_ble_eq_true rfl) rfl ?_
  refine pm_iconst (v := 0) dX0_sumOfLeft_6 ki_0 ?_
  refine pm_istore_n (ls2 := [.ref a0, .int a1, .int x2, .int 0, pmU]) dX0_sumOfLeft_7 rfl rfl (Nat.le_of_ble_eq_true rfl) rfl ?_
  refine pm_iconst (v := 0) dX0_sumOfLeft_8 ki_0 ?_
  refine pm_istore (ls2 := [.ref a0, .int a1, .int x2, .int 0, .int 0]) dX0_sumOfLeft_9 rfl (Nat.le_of_ble_eq_true rfl) rfl ?_
  exact gX0_sumOfLeft_L11 hfl a0 a1 x2 pm_N (0, 0, m1)
end GEN0
