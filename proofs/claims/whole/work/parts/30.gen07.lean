section GEN7
variable {l : Launch} {Γ : pmG} {d : Nat}
-- StruckPage$Search.valueOf(I)I
def X4_valueOf_j43 (again6 : (Int32 × Int32 × Int32 × pmM) → pmR) (l0 : Int32) (l1 : Int32) (l2 : Int32) (l3 : Int32) (m : pmM) : pmR := pm_bI (l3 + 1) fun x3 => again6 (l1, l2, x3, m)
def X4_valueOf_j33 (again6 : (Int32 × Int32 × Int32 × pmM) → pmR) (l0 : Int32) (l1 : Int32) (l2 : Int32) (l3 : Int32) (m : pmM) : pmR := pm_ld 100 2 l2 m fun x1 => pm_bI (l1 ^^^ x1) fun x2 => X4_valueOf_j43 again6 l0 x2 0 l3 m
def X4_valueOf_L6 (l0 : Int32) (again6 : (Int32 × Int32 × Int32 × pmM) → pmR) (s6 : Int32 × Int32 × Int32 × pmM) : pmR := if (8 : Int32) < s6.2.2.1 then (pm_oI s6.1 s6.2.2.2) else (if ((l0 >>> (s6.2.2.1 &&& 31)) &&& 1) = 1 then (if (8 : Int32) ≤ s6.2.1 then (X4_valueOf_j33 again6 l0 s6.1 s6.2.1 s6.2.2.1 s6.2.2.2) else (pm_bI (s6.2.1 + 1) fun x4 => X4_valueOf_j43 again6 l0 s6.1 x4 s6.2.2.1 s6.2.2.2)) else (X4_valueOf_j33 again6 l0 s6.1 s6.2.1 s6.2.2.1 s6.2.2.2))
def X4_valueOf (a0 : Int32) (m : pmM) : pmR := pm_lp pm_N (X4_valueOf_L6 a0) (0, 0, 0, m)
set_option maxRecDepth 100000 in
set_option maxHeartbeats 4000000 in
theorem gX4_valueOf_j43 (hfl : l.flags = flags0) (again6 : (Int32 × Int32 × Int32 × pmM) → pmR) (l0 : Int32) (l1 : Int32) (l2 : Int32) (l3 : Int32) (m : pmM) (hag6 : ∀ s : Int32 × Int32 × Int32 × pmM, pm_G l Γ zX4_valueOf (d + 0) 6 [.int l0, .int s.1, .int s.2.1, .int s.2.2.1] [] s.2.2.2 (again6 s)) : pm_G l Γ zX4_valueOf (d + 0) 43 [.int l0, .int l1, .int l2, .int l3] [] m (X4_valueOf_j43 again6 l0 l1 l2 l3 m) := by
  unfold X4_valueOf_j43
  refine pm_iincn (y := zX4_valueOf) dX4_valueOf_43 rfl ki_1 rfl (Nat.le_of_ble_eq_true rfl) (fun x3 => ?_)
  refine pm_eqls (ls2 := [.int l0, .int l1, .int l2, .int x3]) rfl ?_
  refine pm_goto (tgt := 6) dX4_valueOf_46 rfl ?_
  exact hag6 (l1, l2, x3, m)
set_option maxRecDepth 100000 in
set_option maxHeartbeats 4000000 in
theorem gX4_valueOf_j33 (hfl : l.flags = flags0) (again6 : (Int32 × Int32 × Int32 × pmM) → pmR) (l0 : Int32) (l1 : Int32) (l2 : Int32) (l3 : Int32) (m : pmM) (hag6 : ∀ s : Int32 × Int32 × Int32 × pmM, pm_G l Γ zX4_valueOf (d + 0) 6 [.int l0, .int s.1, .int s.2.1, .int s.2.2.1] [] s.2.2.2 (again6 s)) : pm_G l Γ zX4_valueOf (d + 0) 33 [.int l0, .int l1, .int l2, .int l3] [] m (X4_valueOf_j33 again6 l0 l1 l2 l3 m) := by
  unfold X4_valueOf_j33
  refine pm_iload_n dX4_valueOf_33 rfl rfl ?_
  refine pm_gets (y := zX4_valueOf) (C := "StruckPage$Search") (n := "RUN_VALUES") (ds := "[I") (v := .ref 2) (by decide +kernel) tw_1220 dX4_valueOf_34 ?_
  refine pm_iload_n dX4_valueOf_37 rfl rfl ?_
  refine pm_iald (y := zX4_valueOf) dX4_valueOf_38 (fun x1 => ?_)
  refine pm_ixor dX4_valueOf_39 ?_
  refine pm_bIn (fun x2 => ?_)
  refine pm_istore_n (ls2 := [.int l0, .int x2, .int l2, .int l3]) dX4_valueOf_40 rfl rfl (Nat.le_of_ble_eq_true rfl) rfl ?_
  refine pm_iconst (v := 0) dX4_valueOf_41 ki_0 ?_
  refine pm_istore_n (ls2 := [.int l0, .int x2, .int 0, .int l3]) dX4_valueOf_42 rfl rfl (Nat.le_of_ble_eq_true rfl) rfl ?_
  exact gX4_valueOf_j43 hfl again6 l0 x2 0 l3 m hag6
set_option maxRecDepth 100000 in
set_option maxHeartbeats 4000000 in
theorem gX4_valueOf_L6 (hfl : l.flags = flags0) (l0 : Int32) : ∀ (n : Nat) (s : Int32 × Int32 × Int32 × pmM), pm_G l Γ zX4_valueOf (d + 0) 6 [.int l0, .int s.1, .int s.2.1, .int s.2.2.1] [] s.2.2.2 (pm_lp n (X4_valueOf_L6 l0) s) :=
  pm_loop (lsf := fun s : Int32 × Int32 × Int32 × pmM => [.int l0, .int s.1, .int s.2.1, .int s.2.2.1]) (mf := fun s : Int32 × Int32 × Int32 × pmM => s.2.2.2) (fun again6 hag6 s6 => by
    unfold X4_valueOf_L6
    refine pm_iload_n dX4_valueOf_6 rfl rfl ?_
    refine pm_bipush (v := 8) dX4_valueOf_7 kb_8 ?_
    refine pm_icmp_gt (tgt := 49) dX4_valueOf_9 rfl ?_ ?_
    · refine pm_iload_n dX4_valueOf_49 rfl rfl ?_
      exact pm_iret rfl dX4_valueOf_50
    · refine pm_iload_n dX4_valueOf_12 rfl rfl ?_
      refine pm_iload_n dX4_valueOf_13 rfl rfl ?_
      refine pm_ishr dX4_valueOf_14 ?_
      refine pm_iconst (v := 1) dX4_valueOf_15 ki_1 ?_
      refine pm_iand dX4_valueOf_16 ?_
      refine pm_iconst (v := 1) dX4_valueOf_17 ki_1 ?_
      refine pm_icmp_ne (tgt := 33) dX4_valueOf_18 rfl ?_ ?_
      · exact gX4_valueOf_j33 hfl again6 l0 s6.1 s6.2.1 s6.2.2.1 s6.2.2.2 hag6
      · refine pm_iload_n dX4_valueOf_21 rfl rfl ?_
        refine pm_bipush (v := 8) dX4_valueOf_22 kb_8 ?_
        refine pm_icmp_ge (tgt := 33) dX4_valueOf_24 rfl ?_ ?_
        · exact gX4_valueOf_j33 hfl again6 l0 s6.1 s6.2.1 s6.2.2.1 s6.2.2.2 hag6
        · refine pm_iincn (y := zX4_valueOf) dX4_valueOf_27 rfl ki_1 rfl (Nat.le_of_ble_eq_true rfl) (fun x4 => ?_)
          refine pm_eqls (ls2 := [.int l0, .int s6.1, .int x4, .int s6.2.2.1]) rfl ?_
          refine pm_goto (tgt := 43) dX4_valueOf_30 rfl ?_
          exact gX4_valueOf_j43 hfl again6 l0 s6.1 x4 s6.2.2.1 s6.2.2.2 hag6)
set_option maxRecDepth 100000 in
set_option maxHeartbeats 4000000 in
theorem kcX4_valueOf (hfl : l.flags = flags0) (a0 : Int32) (m : pmM) : pm_C l Γ zX4_valueOf (d + 0) [.int a0] m (X4_valueOf a0 m) := by
  refine pm_enter (ls := [.int a0, pmU, pmU, pmU]) hfl (by decide +kernel) rfl (Nat.le_of_ble_eq_true rfl) rfl (Nat.le_of_ble_eq_true rfl) ?_
  unfold X4_valueOf
  refine pm_iconst (v := 0) dX4_valueOf_0 ki_0 ?_
  refine pm_istore_n (ls2 := [.int a0, .int 0, pmU, pmU]) dX4_valueOf_1 rfl rfl (Nat.le_of_ble_eq_true rfl) rfl ?_
  refine pm_iconst (v := 0) dX4_valueOf_2 ki_0 ?_
  refine pm_istore_n (ls2 := [.int a0, .int 0, .int 0, pmU]) dX4_valueOf_3 rfl rfl (Nat.le_of_ble_eq_true rfl) rfl ?_
  refine pm_iconst (v := 0) dX4_valueOf_4 ki_0 ?_
  refine pm_istore_n (ls2 := [.int a0, .int 0, .int 0, .int 0]) dX4_valueOf_5 rfl rfl (Nat.le_of_ble_eq_true rfl) rfl ?_
  exact gX4_valueOf_L6 hfl a0 pm_N (0, 0, 0, m)
-- StruckPage$Shelf.<init>()V
def X5_init (a0 : Nat) (m : pmM) : pmR := pm_na 100 938 m fun r1 m2 => pm_pR 5 a0 0 r1 m2 fun m3 => pm_na 100 3 m3 fun r4 m5 => pm_pR 5 a0 1 r4 m5 fun m6 => pm_oV m6
set_option maxRecDepth 100000 in
set_option maxHeartbeats 4000000 in
theorem kcX5_init (hfl : l.flags = flags0) (a0 : Nat) (m : pmM) : pm_C l Γ zX5_init (d + 0) [.ref a0] m (X5_init a0 m) := by
  refine pm_enter (ls := [.ref a0]) hfl (by decide +kernel) rfl (Nat.le_of_ble_eq_true rfl) rfl (Nat.le_of_ble_eq_true rfl) ?_
  unfold X5_init
  refine pm_aload_n dX5_init_0 rfl rfl ?_
  refine pm_oinit (y := zX5_init) tw_397 tw_184 tw_185 dX5_init_1 (Nat.le_of_ble_eq_true rfl) ?_
  refine pm_aload_n dX5_init_4 rfl rfl ?_
  refine pm_sipush (v := 938) dX5_init_5 ks_938 ?_
  refine pm_newa (y := zX5_init) (atype := .int) (kd := 100) (by decide) tw_230 dX5_init_8 (fun r1 m2 => ?_)
  refine fp_5_0 (y := zX5_init) ⟨tw_398, rfl⟩ dX5_init_10 (fun m3 => ?_)
  refine pm_aload_n dX5_init_13 rfl rfl ?_
  refine pm_iconst (v := 3) dX5_init_14 ki_3 ?_
  refine pm_newa (y := zX5_init) (atype := .int) (kd := 100) (by decide) tw_230 dX5_init_15 (fun r4 m5 => ?_)
  refine fp_5_1 (y := zX5_init) ⟨tw_399, rfl⟩ dX5_init_17 (fun m6 => ?_)
  exact pm_vret rfl dX5_init_20
-- StruckPage$Shelf.clear()V
def X5_clear (a0 : Nat) (m : pmM) : pmR := pm_pI 5 a0 2 0 m fun m1 => pm_pI 5 a0 3 0 m1 fun m2 => pm_oV m2
set_option maxRecDepth 100000 in
set_option maxHeartbeats 4000000 in
theorem kcX5_clear (hfl : l.flags = flags0) (a0 : Nat) (m : pmM) : pm_C l Γ zX5_clear (d + 0) [.ref a0] m (X5_clear a0 m) := by
  refine pm_enter (ls := [.ref a0]) hfl (by decide +kernel) rfl (Nat.le_of_ble_eq_true rfl) rfl (Nat.le_of_ble_eq_true rfl) ?_
  unfold X5_clear
  refine pm_aload_n dX5_clear_0 rfl rfl ?_
  refine pm_iconst (v := 0) dX5_clear_1 ki_0 ?_
  refine fp_5_2 (y := zX5_clear) (Or.inl tw_400) dX5_clear_2 (fun m1 => ?_)
  refine pm_aload_n dX5_clear_5 rfl rfl ?_
  refine pm_iconst (v := 0) dX5_clear_6 ki_0 ?_
  refine fp_5_3 (y := zX5_clear) (Or.inl tw_402) dX5_clear_7 (fun m2 => ?_)
  exact pm_vret rfl dX5_clear_10
-- StruckPage$Shelf.placeOf(I)I
def X5_placeOf (a0 : Int32) (m : pmM) : pmR := pm_oI ((224 : Int32) + (a0 * 238)) m
set_option maxRecDepth 100000 in
set_option maxHeartbeats 4000000 in
theorem kcX5_placeOf (hfl : l.flags = flags0) (a0 : Int32) (m : pmM) : pm_C l Γ zX5_placeOf (d + 0) [.int a0] m (X5_placeOf a0 m) := by
  refine pm_enter (ls := [.int a0]) hfl (by decide +kernel) rfl (Nat.le_of_ble_eq_true rfl) rfl (Nat.le_of_ble_eq_true rfl) ?_
  unfold X5_placeOf
  refine pm_sipush (v := 224) dX5_placeOf_0 ks_224 ?_
  refine pm_iload_n dX5_placeOf_3 rfl rfl ?_
  refine pm_sipush (v := 238) dX5_placeOf_4 ks_238 ?_
  refine pm_imul dX5_placeOf_7 ?_
  refine pm_iadd dX5_placeOf_8 ?_
  exact pm_iret rfl dX5_placeOf_9
-- StruckPage$Shelf.keepWork(LStruckPage$Desk;)V
def X5_keepWork_j34 (m : pmM) : pmR := pm_oV m
def X5_keepWork (a0 : Nat) (a1 : Nat) (m : pmM) : pmR := pm_gI 5 a0 2 m fun x1 => if (16 : Int32) ≤ x1 then (X5_keepWork_j34 m) else (pm_gR 5 a0 0 m fun r2 => pm_gI 5 a0 2 m fun x3 => pm_rc 0 a1 m <| pm_cV (X0_writeTo a1 r2 (x3 * 14) m) fun m4 => pm_gI 5 a0 2 m4 fun x5 => pm_pI 5 a0 2 (x5 + 1) m4 fun m6 => X5_keepWork_j34 m6)
set_option maxRecDepth 100000 in
set_option maxHeartbeats 4000000 in
theorem gX5_keepWork_j34 (hfl : l.flags = flags0) (m : pmM) : pm_G l Γ zX5_keepWork (d + 1) 34 [pmU, pmU] [] m (X5_keepWork_j34 m) := by
  unfold X5_keepWork_j34
  exact pm_vret rfl dX5_keepWork_34
set_option maxRecDepth 100000 in
set_option maxHeartbeats 4000000 in
theorem kcX5_keepWork (hfl : l.flags = flags0) (a0 : Nat) (a1 : Nat) (m : pmM) : pm_C l Γ zX5_keepWork (d + 1) [.ref a0, .ref a1] m (X5_keepWork a0 a1 m) := by
  refine pm_enter (ls := [.ref a0, .ref a1]) hfl (by decide +kernel) rfl (Nat.le_of_ble_eq_true rfl) rfl (Nat.le_of_ble_eq_true rfl) ?_
  unfold X5_keepWork
  refine pm_aload_n dX5_keepWork_0 rfl rfl ?_
  refine fg_5_2 (y := zX5_keepWork) (Or.inl tw_400) dX5_keepWork_1 (fun x1 => ?_)
  refine pm_bipush (v := 16) dX5_keepWork_4 kb_16 ?_
  refine pm_icmp_ge (tgt := 34) dX5_keepWork_6 rfl ?_ ?_
  · refine pm_drop (ls2 := [pmU, pmU]) (Nat.le_refl _) (pm_le_spec (pm_le_u (pm_le_u (pm_le_n)))) ?_
    exact gX5_keepWork_j34 hfl m
  · refine pm_aload_n dX5_keepWork_9 rfl rfl ?_
    refine pm_aload_n dX5_keepWork_10 rfl rfl ?_
    refine fg_5_0 (y := zX5_keepWork) (Or.inl tw_398) dX5_keepWork_11 (fun r2 => ?_)
    refine pm_aload_n dX5_keepWork_14 rfl rfl ?_
    refine fg_5_2 (y := zX5_keepWork) (Or.inl tw_400) dX5_keepWork_15 (fun x3 => ?_)
    refine pm_bipush (v := 14) dX5_keepWork_18 kb_14 ?_
    refine pm_imul dX5_keepWork_20 ?_
    refine pm_rcv (fun hb9 hc9 => ?_)
    refine pm_kV (d := d + 0) rfl (pm_VN (y := zX5_keepWork) (z := zX0_writeTo) (As := [.ref r2, .int (x3 * 14)]) zkX0_writeTo pm_q0 (by decide) tw_521 tw_523 tw_5 dX5_keepWork_21 rfl rfl (Nat.le_of_ble_eq_true rfl) hb9 hc9) (kcX0_writeTo (d := d + 0) hfl a1 r2 (x3 * 14) m) (fun m4 => ?_)
    refine pm_aload_n dX5_keepWork_24 rfl rfl ?_
    refine pm_dup dX5_keepWork_25 rfl ?_
    refine fg_5_2 (y := zX5_keepWork) (Or.inl tw_400) dX5_keepWork_26 (fun x5 => ?_)
    refine pm_iconst (v := 1) dX5_keepWork_29 ki_1 ?_
    refine pm_iadd dX5_keepWork_30 ?_
    refine fp_5_2 (y := zX5_keepWork) (Or.inl tw_400) dX5_keepWork_31 (fun m6 => ?_)
    refine pm_drop (ls2 := [pmU, pmU]) (Nat.le_refl _) (pm_le_spec (pm_le_u (pm_le_u (pm_le_n)))) ?_
    exact gX5_keepWork_j34 hfl m6
-- StruckPage$Shelf.takeWorkBack(LStruckPage$Desk;)Z
def X5_takeWorkBack (a0 : Nat) (a1 : Nat) (m : pmM) : pmR := pm_gI 5 a0 2 m fun x1 => if x1 = 0 then (pm_oI 0 m) else (pm_gI 5 a0 2 m fun x2 => pm_pI 5 a0 2 (x2 - 1) m fun m3 => pm_gR 5 a0 0 m3 fun r4 => pm_gI 5 a0 2 m3 fun x5 => pm_rc 0 a1 m3 <| pm_cV (X0_readBack a1 r4 (x5 * 14) m3) fun m6 => pm_oI 1 m6)
set_option maxRecDepth 100000 in
set_option maxHeartbeats 4000000 in
theorem kcX5_takeWorkBack (hfl : l.flags = flags0) (a0 : Nat) (a1 : Nat) (m : pmM) : pm_C l Γ zX5_takeWorkBack (d + 1) [.ref a0, .ref a1] m (X5_takeWorkBack a0 a1 m) := by
  refine pm_enter (ls := [.ref a0, .ref a1]) hfl (by decide +kernel) rfl (Nat.le_of_ble_eq_true rfl) rfl (Nat.le_of_ble_eq_true rfl) ?_
  unfold X5_takeWorkBack
  refine pm_aload_n dX5_takeWorkBack_0 rfl rfl ?_
  refine fg_5_2 (y := zX5_takeWorkBack) (Or.inl tw_400) dX5_takeWorkBack_1 (fun x1 => ?_)
  refine pm_if_ne (tgt := 9) dX5_takeWorkBack_4 rfl ?_ ?_
  · refine pm_aload_n dX5_takeWorkBack_9 rfl rfl ?_
    refine pm_dup dX5_takeWorkBack_10 rfl ?_
    refine fg_5_2 (y := zX5_takeWorkBack) (Or.inl tw_400) dX5_takeWorkBack_11 (fun x2 => ?_)
    refine pm_iconst (v := 1) dX5_takeWorkBack_14 ki_1 ?_
    refine pm_isub dX5_takeWorkBack_15 ?_
    refine fp_5_2 (y := zX5_takeWorkBack) (Or.inl tw_400) dX5_takeWorkBack_16 (fun m3 => ?_)
    refine pm_aload_n dX5_takeWorkBack_19 rfl rfl ?_
    refine pm_aload_n dX5_takeWorkBack_20 rfl rfl ?_
    refine fg_5_0 (y := zX5_takeWorkBack) (Or.inl tw_398) dX5_takeWorkBack_21 (fun r4 => ?_)
    refine pm_aload_n dX5_takeWorkBack_24 rfl rfl ?_
    refine fg_5_2 (y := zX5_takeWorkBack) (Or.inl tw_400) dX5_takeWorkBack_25 (fun x5 => ?_)
    refine pm_bipush (v := 14) dX5_takeWorkBack_28 kb_14 ?_
    refine pm_imul dX5_takeWorkBack_30 ?_
    refine pm_rcv (fun hb9 hc9 => ?_)
    refine pm_kV (d := d + 0) rfl (pm_VN (y := zX5_takeWorkBack) (z := zX0_readBack) (As := [.ref r4, .int (x5 * 14)]) zkX0_readBack pm_q0 (by decide) tw_505 tw_507 tw_3 dX5_takeWorkBack_31 rfl rfl (Nat.le_of_ble_eq_true rfl) hb9 hc9) (kcX0_readBack (d := d + 0) hfl a1 r4 (x5 * 14) m3) (fun m6 => ?_)
    refine pm_iconst (v := 1) dX5_takeWorkBack_34 ki_1 ?_
    exact pm_nret (ty := .boolean) (w := 1) rfl (by decide) (by decide) dX5_takeWorkBack_35
  · refine pm_iconst (v := 0) dX5_takeWorkBack_7 ki_0 ?_
    exact pm_nret (ty := .boolean) (w := 0) rfl (by decide) (by decide) dX5_takeWorkBack_8
-- StruckPage$Shelf.keepImage(LStruckPage$Desk;)Z
def X5_keepImage (a0 : Nat) (a1 : Nat) (m : pmM) : pmR := pm_gI 5 a0 3 m fun x1 => if x1 < 3 then (pm_gI 5 a0 3 m fun x2 => pm_cI (X5_placeOf x2 m) fun x4 m3 => pm_gR 5 a0 0 m3 fun r5 => pm_rc 0 a1 m3 <| pm_cV (X0_writeTo a1 r5 x4 m3) fun m6 => pm_gR 5 a0 0 m6 fun r7 => pm_gR 5 a0 0 m6 fun r8 => pm_cp r7 0 r8 (x4 + 14) 224 m6 fun m9 => pm_gR 5 a0 1 m9 fun r10 => pm_gI 5 a0 3 m9 fun x11 => pm_gI 5 a0 2 m9 fun x12 => pm_st 100 r10 x11 x12 m9 fun m13 => pm_gI 5 a0 3 m13 fun x14 => pm_pI 5 a0 3 (x14 + 1) m13 fun m15 => pm_oI 1 m15) else (pm_oI 0 m)
set_option maxRecDepth 100000 in
set_option maxHeartbeats 4000000 in
theorem kcX5_keepImage (hfl : l.flags = flags0) (a0 : Nat) (a1 : Nat) (m : pmM) : pm_C l Γ zX5_keepImage (d + 1) [.ref a0, .ref a1] m (X5_keepImage a0 a1 m) := by
  refine pm_enter (ls := [.ref a0, .ref a1, pmU]) hfl (by decide +kernel) rfl (Nat.le_of_ble_eq_true rfl) rfl (Nat.le_of_ble_eq_true rfl) ?_
  unfold X5_keepImage
  refine pm_aload_n dX5_keepImage_0 rfl rfl ?_
  refine fg_5_3 (y := zX5_keepImage) (Or.inl tw_402) dX5_keepImage_1 (fun x1 => ?_)
  refine pm_iconst (v := 3) dX5_keepImage_4 ki_3 ?_
  refine pm_icmp_lt (tgt := 10) dX5_keepImage_5 rfl ?_ ?_
  · refine pm_aload_n dX5_keepImage_10 rfl rfl ?_
    refine fg_5_3 (y := zX5_keepImage) (Or.inl tw_402) dX5_keepImage_11 (fun x2 => ?_)
    refine pm_kI (d := d + 0) rfl (pm_S (y := zX5_keepImage) (z := zX5_placeOf) (As := [.int x2]) zkX5_placeOf tw_518 tw_519 dX5_keepImage_14 rfl rfl (Nat.le_of_ble_eq_true rfl)) (kcX5_placeOf (d := d + 0) hfl x2 m) (fun x4 m3 => ?_)
    refine pm_istore_n (ls2 := [.ref a0, .ref a1, .int x4]) dX5_keepImage_17 rfl rfl (Nat.le_of_ble_eq_true rfl) rfl ?_
    refine pm_aload_n dX5_keepImage_18 rfl rfl ?_
    refine pm_aload_n dX5_keepImage_19 rfl rfl ?_
    refine fg_5_0 (y := zX5_keepImage) (Or.inl tw_398) dX5_keepImage_20 (fun r5 => ?_)
    refine pm_iload_n dX5_keepImage_23 rfl rfl ?_
    refine pm_rcv (fun hb9 hc9 => ?_)
    refine pm_kV (d := d + 0) rfl (pm_VN (y := zX5_keepImage) (z := zX0_writeTo) (As := [.ref r5, .int x4]) zkX0_writeTo pm_q0 (by decide) tw_521 tw_523 tw_5 dX5_keepImage_24 rfl rfl (Nat.le_of_ble_eq_true rfl) hb9 hc9) (kcX0_writeTo (d := d + 0) hfl a1 r5 x4 m3) (fun m6 => ?_)
    refine pm_aload_n dX5_keepImage_27 rfl rfl ?_
    refine fg_5_0 (y := zX5_keepImage) (Or.inl tw_398) dX5_keepImage_28 (fun r7 => ?_)
    refine pm_iconst (v := 0) dX5_keepImage_31 ki_0 ?_
    refine pm_aload_n dX5_keepImage_32 rfl rfl ?_
    refine fg_5_0 (y := zX5_keepImage) (Or.inl tw_398) dX5_keepImage_33 (fun r8 => ?_)
    refine pm_iload_n dX5_keepImage_36 rfl rfl ?_
    refine pm_bipush (v := 14) dX5_keepImage_37 kb_14 ?_
    refine pm_iadd dX5_keepImage_39 ?_
    refine pm_sipush (v := 224) dX5_keepImage_40 ks_224 ?_
    refine pm_copy (y := zX5_keepImage) tw_525 tw_280 tw_279 tw_160 dX5_keepImage_43 (Nat.le_of_ble_eq_true rfl) (fun m9 => ?_)
    refine pm_aload_n dX5_keepImage_46 rfl rfl ?_
    refine fg_5_1 (y := zX5_keepImage) (Or.inl tw_399) dX5_keepImage_47 (fun r10 => ?_)
    refine pm_aload_n dX5_keepImage_50 rfl rfl ?_
    refine fg_5_3 (y := zX5_keepImage) (Or.inl tw_402) dX5_keepImage_51 (fun x11 => ?_)
    refine pm_aload_n dX5_keepImage_54 rfl rfl ?_
    refine fg_5_2 (y := zX5_keepImage) (Or.inl tw_400) dX5_keepImage_55 (fun x12 => ?_)
    refine pm_iast (y := zX5_keepImage) dX5_keepImage_58 (fun m13 => ?_)
    refine pm_aload_n dX5_keepImage_59 rfl rfl ?_
    refine pm_dup dX5_keepImage_60 rfl ?_
    refine fg_5_3 (y := zX5_keepImage) (Or.inl tw_402) dX5_keepImage_61 (fun x14 => ?_)
    refine pm_iconst (v := 1) dX5_keepImage_64 ki_1 ?_
    refine pm_iadd dX5_keepImage_65 ?_
    refine fp_5_3 (y := zX5_keepImage) (Or.inl tw_402) dX5_keepImage_66 (fun m15 => ?_)
    refine pm_iconst (v := 1) dX5_keepImage_69 ki_1 ?_
    exact pm_nret (ty := .boolean) (w := 1) rfl (by decide) (by decide) dX5_keepImage_70
  · refine pm_iconst (v := 0) dX5_keepImage_8 ki_0 ?_
    exact pm_nret (ty := .boolean) (w := 0) rfl (by decide) (by decide) dX5_keepImage_9
-- StruckPage$Shelf.takeImageBack(LStruckPage$Desk;)Z
def X5_takeImageBack (a0 : Nat) (a1 : Nat) (m : pmM) : pmR := pm_gI 5 a0 3 m fun x1 => if x1 = 0 then (pm_oI 0 m) else (pm_gI 5 a0 3 m fun x2 => pm_pI 5 a0 3 (x2 - 1) m fun m3 => pm_gI 5 a0 3 m3 fun x4 => pm_cI (X5_placeOf x4 m3) fun x6 m5 => pm_gR 5 a0 0 m5 fun r7 => pm_rc 0 a1 m5 <| pm_cV (X0_readBack a1 r7 x6 m5) fun m8 => pm_gR 5 a0 0 m8 fun r9 => pm_gR 5 a0 0 m8 fun r10 => pm_cp r9 (x6 + 14) r10 0 224 m8 fun m11 => pm_gR 5 a0 1 m11 fun r12 => pm_gI 5 a0 3 m11 fun x13 => pm_ld 100 r12 x13 m11 fun x14 => pm_pI 5 a0 2 x14 m11 fun m15 => pm_oI 1 m15)
set_option maxRecDepth 100000 in
set_option maxHeartbeats 4000000 in
theorem kcX5_takeImageBack (hfl : l.flags = flags0) (a0 : Nat) (a1 : Nat) (m : pmM) : pm_C l Γ zX5_takeImageBack (d + 1) [.ref a0, .ref a1] m (X5_takeImageBack a0 a1 m) := by
  refine pm_enter (ls := [.ref a0, .ref a1, pmU]) hfl (by decide +kernel) rfl (Nat.le_of_ble_eq_true rfl) rfl (Nat.le_of_ble_eq_true rfl) ?_
  unfold X5_takeImageBack
  refine pm_aload_n dX5_takeImageBack_0 rfl rfl ?_
  refine fg_5_3 (y := zX5_takeImageBack) (Or.inl tw_402) dX5_takeImageBack_1 (fun x1 => ?_)
  refine pm_if_ne (tgt := 9) dX5_takeImageBack_4 rfl ?_ ?_
  · refine pm_aload_n dX5_takeImageBack_9 rfl rfl ?_
    refine pm_dup dX5_takeImageBack_10 rfl ?_
    refine fg_5_3 (y := zX5_takeImageBack) (Or.inl tw_402) dX5_takeImageBack_11 (fun x2 => ?_)
    refine pm_iconst (v := 1) dX5_takeImageBack_14 ki_1 ?_
    refine pm_isub dX5_takeImageBack_15 ?_
    refine fp_5_3 (y := zX5_takeImageBack) (Or.inl tw_402) dX5_takeImageBack_16 (fun m3 => ?_)
    refine pm_aload_n dX5_takeImageBack_19 rfl rfl ?_
    refine fg_5_3 (y := zX5_takeImageBack) (Or.inl tw_402) dX5_takeImageBack_20 (fun x4 => ?_)
    refine pm_kI (d := d + 0) rfl (pm_S (y := zX5_takeImageBack) (z := zX5_placeOf) (As := [.int x4]) zkX5_placeOf tw_518 tw_519 dX5_takeImageBack_23 rfl rfl (Nat.le_of_ble_eq_true rfl)) (kcX5_placeOf (d := d + 0) hfl x4 m3) (fun x6 m5 => ?_)
    refine pm_istore_n (ls2 := [.ref a0, .ref a1, .int x6]) dX5_takeImageBack_26 rfl rfl (Nat.le_of_ble_eq_true rfl) rfl ?_
    refine pm_aload_n dX5_takeImageBack_27 rfl rfl ?_
    refine pm_aload_n dX5_takeImageBack_28 rfl rfl ?_
    refine fg_5_0 (y := zX5_takeImageBack) (Or.inl tw_398) dX5_takeImageBack_29 (fun r7 => ?_)
    refine pm_iload_n dX5_takeImageBack_32 rfl rfl ?_
    refine pm_rcv (fun hb9 hc9 => ?_)
    refine pm_kV (d := d + 0) rfl (pm_VN (y := zX5_takeImageBack) (z := zX0_readBack) (As := [.ref r7, .int x6]) zkX0_readBack pm_q0 (by decide) tw_505 tw_507 tw_3 dX5_takeImageBack_33 rfl rfl (Nat.le_of_ble_eq_true rfl) hb9 hc9) (kcX0_readBack (d := d + 0) hfl a1 r7 x6 m5) (fun m8 => ?_)
    refine pm_aload_n dX5_takeImageBack_36 rfl rfl ?_
    refine fg_5_0 (y := zX5_takeImageBack) (Or.inl tw_398) dX5_takeImageBack_37 (fun r9 => ?_)
    refine pm_iload_n dX5_takeImageBack_40 rfl rfl ?_
    refine pm_bipush (v := 14) dX5_takeImageBack_41 kb_14 ?_
    refine pm_iadd dX5_takeImageBack_43 ?_
    refine pm_aload_n dX5_takeImageBack_44 rfl rfl ?_
    refine fg_5_0 (y := zX5_takeImageBack) (Or.inl tw_398) dX5_takeImageBack_45 (fun r10 => ?_)
    refine pm_iconst (v := 0) dX5_takeImageBack_48 ki_0 ?_
    refine pm_sipush (v := 224) dX5_takeImageBack_49 ks_224 ?_
    refine pm_copy (y := zX5_takeImageBack) tw_525 tw_280 tw_279 tw_160 dX5_takeImageBack_52 (Nat.le_of_ble_eq_true rfl) (fun m11 => ?_)
    refine pm_aload_n dX5_takeImageBack_55 rfl rfl ?_
    refine pm_aload_n dX5_takeImageBack_56 rfl rfl ?_
    refine fg_5_1 (y := zX5_takeImageBack) (Or.inl tw_399) dX5_takeImageBack_57 (fun r12 => ?_)
    refine pm_aload_n dX5_takeImageBack_60 rfl rfl ?_
    refine fg_5_3 (y := zX5_takeImageBack) (Or.inl tw_402) dX5_takeImageBack_61 (fun x13 => ?_)
    refine pm_iald (y := zX5_takeImageBack) dX5_takeImageBack_64 (fun x14 => ?_)
    refine fp_5_2 (y := zX5_takeImageBack) (Or.inl tw_400) dX5_takeImageBack_65 (fun m15 => ?_)
    refine pm_iconst (v := 1) dX5_takeImageBack_68 ki_1 ?_
    exact pm_nret (ty := .boolean) (w := 1) rfl (by decide) (by decide) dX5_takeImageBack_69
  · refine pm_iconst (v := 0) dX5_takeImageBack_7 ki_0 ?_
    exact pm_nret (ty := .boolean) (w := 0) rfl (by decide) (by decide) dX5_takeImageBack_8
-- StruckPage$Shelf.struckInImage(I)I
def X5_struckInImage_j27 (t0 : Int32) (m : pmM) : pmR := pm_oI t0 m
def X5_struckInImage (a0 : Nat) (a1 : Int32) (m : pmM) : pmR := pm_gI 5 a0 3 m fun x1 => if x1 ≤ 0 then (X5_struckInImage_j27 0 m) else (pm_gR 5 a0 0 m fun r2 => pm_gI 5 a0 3 m fun x3 => pm_cI (X5_placeOf (x3 - 1) m) fun x5 m4 => pm_ld 100 r2 (x5 + a1) m4 fun x6 => X5_struckInImage_j27 x6 m4)
set_option maxRecDepth 100000 in
set_option maxHeartbeats 4000000 in
theorem gX5_struckInImage_j27 (hfl : l.flags = flags0) (t0 : Int32) (m : pmM) : pm_G l Γ zX5_struckInImage (d + 1) 27 [pmU, pmU] [.int t0] m (X5_struckInImage_j27 t0 m) := by
  unfold X5_struckInImage_j27
  exact pm_iret rfl dX5_struckInImage_27
set_option maxRecDepth 100000 in
set_option maxHeartbeats 4000000 in
theorem kcX5_struckInImage (hfl : l.flags = flags0) (a0 : Nat) (a1 : Int32) (m : pmM) : pm_C l Γ zX5_struckInImage (d + 1) [.ref a0, .int a1] m (X5_struckInImage a0 a1 m) := by
  refine pm_enter (ls := [.ref a0, .int a1]) hfl (by decide +kernel) rfl (Nat.le_of_ble_eq_true rfl) rfl (Nat.le_of_ble_eq_true rfl) ?_
  unfold X5_struckInImage
  refine pm_aload_n dX5_struckInImage_0 rfl rfl ?_
  refine fg_5_3 (y := zX5_struckInImage) (Or.inl tw_402) dX5_struckInImage_1 (fun x1 => ?_)
  refine pm_if_le (tgt := 26) dX5_struckInImage_4 rfl ?_ ?_
  · refine pm_iconst (v := 0) dX5_struckInImage_26 ki_0 ?_
    refine pm_drop (ls2 := [pmU, pmU]) (Nat.le_refl _) (pm_le_spec (pm_le_u (pm_le_u (pm_le_n)))) ?_
    exact gX5_struckInImage_j27 hfl 0 m
  · refine pm_aload_n dX5_struckInImage_7 rfl rfl ?_
    refine fg_5_0 (y := zX5_struckInImage) (Or.inl tw_398) dX5_struckInImage_8 (fun r2 => ?_)
    refine pm_aload_n dX5_struckInImage_11 rfl rfl ?_
    refine fg_5_3 (y := zX5_struckInImage) (Or.inl tw_402) dX5_struckInImage_12 (fun x3 => ?_)
    refine pm_iconst (v := 1) dX5_struckInImage_15 ki_1 ?_
    refine pm_isub dX5_struckInImage_16 ?_
    refine pm_kI (d := d + 0) rfl (pm_S (y := zX5_struckInImage) (z := zX5_placeOf) (As := [.int (x3 - 1)]) zkX5_placeOf tw_518 tw_519 dX5_struckInImage_17 rfl rfl (Nat.le_of_ble_eq_true rfl)) (kcX5_placeOf (d := d + 0) hfl (x3 - 1) m) (fun x5 m4 => ?_)
    refine pm_iload_n dX5_struckInImage_20 rfl rfl ?_
    refine pm_iadd dX5_struckInImage_21 ?_
    refine pm_iald (y := zX5_struckInImage) dX5_struckInImage_22 (fun x6 => ?_)
    refine pm_goto (tgt := 27) dX5_struckInImage_23 rfl ?_
    refine pm_drop (ls2 := [pmU, pmU]) (Nat.le_refl _) (pm_le_spec (pm_le_u (pm_le_u (pm_le_n)))) ?_
    exact gX5_struckInImage_j27 hfl x6 m4
-- StruckPage$Steps.<init>()V
def X6_init (a0 : Nat) (m : pmM) : pmR := pm_na 100 30 m fun r1 m2 => pm_pR 6 a0 0 r1 m2 fun m3 => pm_na 100 30 m3 fun r4 m5 => pm_pR 6 a0 1 r4 m5 fun m6 => pm_na 100 30 m6 fun r7 m8 => pm_pR 6 a0 2 r7 m8 fun m9 => pm_na 100 30 m9 fun r10 m11 => pm_pR 6 a0 3 r10 m11 fun m12 => pm_na 100 30 m12 fun r13 m14 => pm_pR 6 a0 4 r13 m14 fun m15 => pm_oV m15
set_option maxRecDepth 100000 in
set_option maxHeartbeats 4000000 in
theorem kcX6_init (hfl : l.flags = flags0) (a0 : Nat) (m : pmM) : pm_C l Γ zX6_init (d + 0) [.ref a0] m (X6_init a0 m) := by
  refine pm_enter (ls := [.ref a0]) hfl (by decide +kernel) rfl (Nat.le_of_ble_eq_true rfl) rfl (Nat.le_of_ble_eq_true rfl) ?_
  unfold X6_init
  refine pm_aload_n dX6_init_0 rfl rfl ?_
  refine pm_oinit (y := zX6_init) tw_317 tw_184 tw_185 dX6_init_1 (Nat.le_of_ble_eq_true rfl) ?_
  refine pm_aload_n dX6_init_4 rfl rfl ?_
  refine pm_bipush (v := 30) dX6_init_5 kb_30 ?_
  refine pm_newa (y := zX6_init) (atype := .int) (kd := 100) (by decide) tw_230 dX6_init_7 (fun r1 m2 => ?_)
  refine fp_6_0 (y := zX6_init) ⟨tw_318, rfl⟩ dX6_init_9 (fun m3 => ?_)
  refine pm_aload_n dX6_init_12 rfl rfl ?_
  refine pm_bipush (v := 30) dX6_init_13 kb_30 ?_
  refine pm_newa (y := zX6_init) (atype := .int) (kd := 100) (by decide) tw_230 dX6_init_15 (fun r4 m5 => ?_)
  refine fp_6_1 (y := zX6_init) ⟨tw_319, rfl⟩ dX6_init_17 (fun m6 => ?_)
  refine pm_aload_n dX6_init_20 rfl rfl ?_
  refine pm_bipush (v := 30) dX6_init_21 kb_30 ?_
  refine pm_newa (y := zX6_init) (atype := .int) (kd := 100) (by decide) tw_230 dX6_init_23 (fun r7 m8 => ?_)
  refine fp_6_2 (y := zX6_init) ⟨tw_320, rfl⟩ dX6_init_25 (fun m9 => ?_)
  refine pm_aload_n dX6_init_28 rfl rfl ?_
  refine pm_bipush (v := 30) dX6_init_29 kb_30 ?_
  refine pm_newa (y := zX6_init) (atype := .int) (kd := 100) (by decide) tw_230 dX6_init_31 (fun r10 m11 => ?_)
  refine fp_6_3 (y := zX6_init) ⟨tw_321, rfl⟩ dX6_init_33 (fun m12 => ?_)
  refine pm_aload_n dX6_init_36 rfl rfl ?_
  refine pm_bipush (v := 30) dX6_init_37 kb_30 ?_
  refine pm_newa (y := zX6_init) (atype := .int) (kd := 100) (by decide) tw_230 dX6_init_39 (fun r13 m14 => ?_)
  refine fp_6_4 (y := zX6_init) ⟨tw_322, rfl⟩ dX6_init_41 (fun m15 => ?_)
  exact pm_vret rfl dX6_init_44
-- StruckPage$Steps.kindTaken(LStruckPage$Text;)I
def X6_kindTaken_j93 (t0 : Int32) (m : pmM) : pmR := pm_oI t0 m
def X6_kindTaken (a0 : Nat) (m : pmM) : pmR := pm_rc 7 a0 m <| pm_cI (X7_took a0 15 m) fun x2 m1 => if x2 = 0 then (pm_rc 7 a0 m1 <| pm_cI (X7_took a0 16 m1) fun x4 m3 => if x4 = 0 then (pm_rc 7 a0 m3 <| pm_cI (X7_took a0 17 m3) fun x6 m5 => if x6 = 0 then (pm_rc 7 a0 m5 <| pm_cI (X7_took a0 18 m5) fun x8 m7 => if x8 = 0 then (pm_rc 7 a0 m7 <| pm_cI (X7_took a0 19 m7) fun x10 m9 => if x10 = 0 then (pm_rc 7 a0 m9 <| pm_cI (X7_took a0 20 m9) fun x12 m11 => if x12 = 0 then (pm_rc 7 a0 m11 <| pm_cI (X7_took a0 21 m11) fun x14 m13 => if x14 = 0 then (X6_kindTaken_j93 (-1) m13) else (X6_kindTaken_j93 6 m13)) else (X6_kindTaken_j93 5 m11)) else (X6_kindTaken_j93 4 m9)) else (X6_kindTaken_j93 3 m7)) else (X6_kindTaken_j93 2 m5)) else (X6_kindTaken_j93 1 m3)) else (X6_kindTaken_j93 0 m1)
set_option maxRecDepth 100000 in
set_option maxHeartbeats 4000000 in
theorem gX6_kindTaken_j93 (hfl : l.flags = flags0) (t0 : Int32) (m : pmM) : pm_G l Γ zX6_kindTaken (d + 6) 93 [pmU] [.int t0] m (X6_kindTaken_j93 t0 m) := by
  unfold X6_kindTaken_j93
  exact pm_iret rfl dX6_kindTaken_93
set_option maxRecDepth 100000 in
set_option maxHeartbeats 4000000 in
theorem kcX6_kindTaken (hfl : l.flags = flags0) (a0 : Nat) (m : pmM) : pm_C l Γ zX6_kindTaken (d + 6) [.ref a0] m (X6_kindTaken a0 m) := by
  refine pm_enter (ls := [.ref a0]) hfl (by decide +kernel) rfl (Nat.le_of_ble_eq_true rfl) rfl (Nat.le_of_ble_eq_true rfl) ?_
  unfold X6_kindTaken
  refine pm_aload_n dX6_kindTaken_0 rfl rfl ?_
  refine pm_ldcs (y := zX6_kindTaken) (own := "StruckPage$Steps") (tx := "strike") (k := 15) (by decide +kernel) rfl dX6_kindTaken_1 ?_
  refine pm_rcv (fun hb9 hc9 => ?_)
  refine pm_kI (d := d + 5) rfl (pm_VN (y := zX6_kindTaken) (z := zX7_took) (As := [.ref 15]) zkX7_took pm_q7 (by decide) tw_959 tw_788 tw_39 dX6_kindTaken_3 rfl rfl (Nat.le_of_ble_eq_true rfl) hb9 hc9) (kcX7_took (d := d + 0) hfl a0 15 m) (fun x2 m1 => ?_)
  refine pm_if_eq (tgt := 13) dX6_kindTaken_6 rfl ?_ ?_
  · refine pm_aload_n dX6_kindTaken_13 rfl rfl ?_
    refine pm_ldcs (y := zX6_kindTaken) (own := "StruckPage$Steps") (tx := "run") (k := 16) (by decide +kernel) rfl dX6_kindTaken_14 ?_
    refine pm_rcv (fun hb9 hc9 => ?_)
    refine pm_kI (d := d + 5) rfl (pm_VN (y := zX6_kindTaken) (z := zX7_took) (As := [.ref 16]) zkX7_took pm_q7 (by decide) tw_959 tw_788 tw_39 dX6_kindTaken_16 rfl rfl (Nat.le_of_ble_eq_true rfl) hb9 hc9) (kcX7_took (d := d + 0) hfl a0 16 m1) (fun x4 m3 => ?_)
    refine pm_if_eq (tgt := 26) dX6_kindTaken_19 rfl ?_ ?_
    · refine pm_aload_n dX6_kindTaken_26 rfl rfl ?_
      refine pm_ldcs (y := zX6_kindTaken) (own := "StruckPage$Steps") (tx := "begin") (k := 17) (by decide +kernel) rfl dX6_kindTaken_27 ?_
      refine pm_rcv (fun hb9 hc9 => ?_)
      refine pm_kI (d := d + 5) rfl (pm_VN (y := zX6_kindTaken) (z := zX7_took) (As := [.ref 17]) zkX7_took pm_q7 (by decide) tw_959 tw_788 tw_39 dX6_kindTaken_29 rfl rfl (Nat.le_of_ble_eq_true rfl) hb9 hc9) (kcX7_took (d := d + 0) hfl a0 17 m3) (fun x6 m5 => ?_)
      refine pm_if_eq (tgt := 39) dX6_kindTaken_32 rfl ?_ ?_
      · refine pm_aload_n dX6_kindTaken_39 rfl rfl ?_
        refine pm_ldcs (y := zX6_kindTaken) (own := "StruckPage$Steps") (tx := "fill") (k := 18) (by decide +kernel) rfl dX6_kindTaken_40 ?_
        refine pm_rcv (fun hb9 hc9 => ?_)
        refine pm_kI (d := d + 5) rfl (pm_VN (y := zX6_kindTaken) (z := zX7_took) (As := [.ref 18]) zkX7_took pm_q7 (by decide) tw_959 tw_788 tw_39 dX6_kindTaken_42 rfl rfl (Nat.le_of_ble_eq_true rfl) hb9 hc9) (kcX7_took (d := d + 0) hfl a0 18 m5) (fun x8 m7 => ?_)
        refine pm_if_eq (tgt := 52) dX6_kindTaken_45 rfl ?_ ?_
        · refine pm_aload_n dX6_kindTaken_52 rfl rfl ?_
          refine pm_ldcs (y := zX6_kindTaken) (own := "StruckPage$Steps") (tx := "wipe") (k := 19) (by decide +kernel) rfl dX6_kindTaken_53 ?_
          refine pm_rcv (fun hb9 hc9 => ?_)
          refine pm_kI (d := d + 5) rfl (pm_VN (y := zX6_kindTaken) (z := zX7_took) (As := [.ref 19]) zkX7_took pm_q7 (by decide) tw_959 tw_788 tw_39 dX6_kindTaken_55 rfl rfl (Nat.le_of_ble_eq_true rfl) hb9 hc9) (kcX7_took (d := d + 0) hfl a0 19 m7) (fun x10 m9 => ?_)
          refine pm_if_eq (tgt := 65) dX6_kindTaken_58 rfl ?_ ?_
          · refine pm_aload_n dX6_kindTaken_65 rfl rfl ?_
            refine pm_ldcs (y := zX6_kindTaken) (own := "StruckPage$Steps") (tx := "set") (k := 20) (by decide +kernel) rfl dX6_kindTaken_66 ?_
            refine pm_rcv (fun hb9 hc9 => ?_)
            refine pm_kI (d := d + 5) rfl (pm_VN (y := zX6_kindTaken) (z := zX7_took) (As := [.ref 20]) zkX7_took pm_q7 (by decide) tw_959 tw_788 tw_39 dX6_kindTaken_68 rfl rfl (Nat.le_of_ble_eq_true rfl) hb9 hc9) (kcX7_took (d := d + 0) hfl a0 20 m9) (fun x12 m11 => ?_)
            refine pm_if_eq (tgt := 78) dX6_kindTaken_71 rfl ?_ ?_
            · refine pm_aload_n dX6_kindTaken_78 rfl rfl ?_
              refine pm_ldcs (y := zX6_kindTaken) (own := "StruckPage$Steps") (tx := "again") (k := 21) (by decide +kernel) rfl dX6_kindTaken_79 ?_
              refine pm_rcv (fun hb9 hc9 => ?_)
              refine pm_kI (d := d + 5) rfl (pm_VN (y := zX6_kindTaken) (z := zX7_took) (As := [.ref 21]) zkX7_took pm_q7 (by decide) tw_959 tw_788 tw_39 dX6_kindTaken_81 rfl rfl (Nat.le_of_ble_eq_true rfl) hb9 hc9) (kcX7_took (d := d + 0) hfl a0 21 m11) (fun x14 m13 => ?_)
              refine pm_if_eq (tgt := 92) dX6_kindTaken_84 rfl ?_ ?_
              · refine pm_iconst (v := (-1)) dX6_kindTaken_92 ki_n1 ?_
                refine pm_drop (ls2 := [pmU]) (Nat.le_refl _) (pm_le_spec (pm_le_u (pm_le_n))) ?_
                exact gX6_kindTaken_j93 hfl (-1) m13
              · refine pm_bipush (v := 6) dX6_kindTaken_87 kb_6 ?_
                refine pm_goto (tgt := 93) dX6_kindTaken_89 rfl ?_
                refine pm_drop (ls2 := [pmU]) (Nat.le_refl _) (pm_le_spec (pm_le_u (pm_le_n))) ?_
                exact gX6_kindTaken_j93 hfl 6 m13
            · refine pm_iconst (v := 5) dX6_kindTaken_74 ki_5 ?_
              refine pm_goto (tgt := 93) dX6_kindTaken_75 rfl ?_
              refine pm_drop (ls2 := [pmU]) (Nat.le_refl _) (pm_le_spec (pm_le_u (pm_le_n))) ?_
              exact gX6_kindTaken_j93 hfl 5 m11
          · refine pm_iconst (v := 4) dX6_kindTaken_61 ki_4 ?_
            refine pm_goto (tgt := 93) dX6_kindTaken_62 rfl ?_
            refine pm_drop (ls2 := [pmU]) (Nat.le_refl _) (pm_le_spec (pm_le_u (pm_le_n))) ?_
            exact gX6_kindTaken_j93 hfl 4 m9
        · refine pm_iconst (v := 3) dX6_kindTaken_48 ki_3 ?_
          refine pm_goto (tgt := 93) dX6_kindTaken_49 rfl ?_
          refine pm_drop (ls2 := [pmU]) (Nat.le_refl _) (pm_le_spec (pm_le_u (pm_le_n))) ?_
          exact gX6_kindTaken_j93 hfl 3 m7
      · refine pm_iconst (v := 2) dX6_kindTaken_35 ki_2 ?_
        refine pm_goto (tgt := 93) dX6_kindTaken_36 rfl ?_
        refine pm_drop (ls2 := [pmU]) (Nat.le_refl _) (pm_le_spec (pm_le_u (pm_le_n))) ?_
        exact gX6_kindTaken_j93 hfl 2 m5
    · refine pm_iconst (v := 1) dX6_kindTaken_22 ki_1 ?_
      refine pm_goto (tgt := 93) dX6_kindTaken_23 rfl ?_
      refine pm_drop (ls2 := [pmU]) (Nat.le_refl _) (pm_le_spec (pm_le_u (pm_le_n))) ?_
      exact gX6_kindTaken_j93 hfl 1 m3
  · refine pm_iconst (v := 0) dX6_kindTaken_9 ki_0 ?_
    refine pm_goto (tgt := 93) dX6_kindTaken_10 rfl ?_
    refine pm_drop (ls2 := [pmU]) (Nat.le_refl _) (pm_le_spec (pm_le_u (pm_le_n))) ?_
    exact gX6_kindTaken_j93 hfl 0 m1
-- StruckPage$Steps.readFirst(LStruckPage$Text;III)Z
def X6_readFirst (a0 : Nat) (a1 : Nat) (a2 : Int32) (a3 : Int32) (a4 : Int32) (m : pmM) : pmR := pm_rc 7 a1 m <| pm_cI (X7_takeNumber a1 a3 a4 m) fun x2 m1 => if x2 = 0 then (pm_oI 0 m1) else (pm_gR 6 a0 1 m1 fun r3 => pm_gI 7 a1 5 m1 fun x4 => pm_st 100 r3 a2 x4 m1 fun m5 => pm_oI 1 m5)
set_option maxRecDepth 100000 in
set_option maxHeartbeats 4000000 in
theorem kcX6_readFirst (hfl : l.flags = flags0) (a0 : Nat) (a1 : Nat) (a2 : Int32) (a3 : Int32) (a4 : Int32) (m : pmM) : pm_C l Γ zX6_readFirst (d + 2) [.ref a0, .ref a1, .int a2, .int a3, .int a4] m (X6_readFirst a0 a1 a2 a3 a4 m) := by
  refine pm_enter (ls := [.ref a0, .ref a1, .int a2, .int a3, .int a4]) hfl (by decide +kernel) rfl (Nat.le_of_ble_eq_true rfl) rfl (Nat.le_of_ble_eq_true rfl) ?_
  unfold X6_readFirst
  refine pm_aload_n dX6_readFirst_0 rfl rfl ?_
  refine pm_iload_n dX6_readFirst_1 rfl rfl ?_
  refine pm_iload dX6_readFirst_2 rfl ?_
  refine pm_rcv (fun hb9 hc9 => ?_)
  refine pm_kI (d := d + 1) rfl (pm_VN (y := zX6_readFirst) (z := zX7_takeNumber) (As := [.int a3, .int a4]) zkX7_takeNumber pm_q7 (by decide) tw_975 tw_847 tw_41 dX6_readFirst_4 rfl rfl (Nat.le_of_ble_eq_true rfl) hb9 hc9) (kcX7_takeNumber (d := d + 0) hfl a1 a3 a4 m) (fun x2 m1 => ?_)
  refine pm_if_ne (tgt := 12) dX6_readFirst_7 rfl ?_ ?_
  · refine pm_aload_n dX6_readFirst_12 rfl rfl ?_
    refine fg_6_1 (y := zX6_readFirst) (Or.inl tw_319) dX6_readFirst_13 (fun r3 => ?_)
    refine pm_iload_n dX6_readFirst_16 rfl rfl ?_
    refine pm_aload_n dX6_readFirst_17 rfl rfl ?_
    refine fg_7_5 (y := zX6_readFirst) (Or.inr tw_205) dX6_readFirst_18 (fun x4 => ?_)
    refine pm_iast (y := zX6_readFirst) dX6_readFirst_21 (fun m5 => ?_)
    refine pm_iconst (v := 1) dX6_readFirst_22 ki_1 ?_
    exact pm_nret (ty := .boolean) (w := 1) rfl (by decide) (by decide) dX6_readFirst_23
  · refine pm_iconst (v := 0) dX6_readFirst_10 ki_0 ?_
    exact pm_nret (ty := .boolean) (w := 0) rfl (by decide) (by decide) dX6_readFirst_11
-- StruckPage$Steps.readSecond(LStruckPage$Text;II)Z
def X6_readSecond (a0 : Nat) (a1 : Nat) (a2 : Int32) (a3 : Int32) (m : pmM) : pmR := pm_rc 7 a1 m <| pm_cI (X7_takeNumber a1 0 a3 m) fun x2 m1 => if x2 = 0 then (pm_oI 0 m1) else (pm_gR 6 a0 2 m1 fun r3 => pm_gI 7 a1 5 m1 fun x4 => pm_st 100 r3 a2 x4 m1 fun m5 => pm_oI 1 m5)
set_option maxRecDepth 100000 in
set_option maxHeartbeats 4000000 in
theorem kcX6_readSecond (hfl : l.flags = flags0) (a0 : Nat) (a1 : Nat) (a2 : Int32) (a3 : Int32) (m : pmM) : pm_C l Γ zX6_readSecond (d + 2) [.ref a0, .ref a1, .int a2, .int a3] m (X6_readSecond a0 a1 a2 a3 m) := by
  refine pm_enter (ls := [.ref a0, .ref a1, .int a2, .int a3]) hfl (by decide +kernel) rfl (Nat.le_of_ble_eq_true rfl) rfl (Nat.le_of_ble_eq_true rfl) ?_
  unfold X6_readSecond
  refine pm_aload_n dX6_readSecond_0 rfl rfl ?_
  refine pm_iconst (v := 0) dX6_readSecond_1 ki_0 ?_
  refine pm_iload_n dX6_readSecond_2 rfl rfl ?_
  refine pm_rcv (fun hb9 hc9 => ?_)
  refine pm_kI (d := d + 1) rfl (pm_VN (y := zX6_readSecond) (z := zX7_takeNumber) (As := [.int 0, .int a3]) zkX7_takeNumber pm_q7 (by decide) tw_975 tw_847 tw_41 dX6_readSecond_3 rfl rfl (Nat.le_of_ble_eq_true rfl) hb9 hc9) (kcX7_takeNumber (d := d + 0) hfl a1 0 a3 m) (fun x2 m1 => ?_)
  refine pm_if_ne (tgt := 11) dX6_readSecond_6 rfl ?_ ?_
  · refine pm_aload_n dX6_readSecond_11 rfl rfl ?_
    refine fg_6_2 (y := zX6_readSecond) (Or.inl tw_320) dX6_readSecond_12 (fun r3 => ?_)
    refine pm_iload_n dX6_readSecond_15 rfl rfl ?_
    refine pm_aload_n dX6_readSecond_16 rfl rfl ?_
    refine fg_7_5 (y := zX6_readSecond) (Or.inr tw_205) dX6_readSecond_17 (fun x4 => ?_)
    refine pm_iast (y := zX6_readSecond) dX6_readSecond_20 (fun m5 => ?_)
    refine pm_iconst (v := 1) dX6_readSecond_21 ki_1 ?_
    exact pm_nret (ty := .boolean) (w := 1) rfl (by decide) (by decide) dX6_readSecond_22
  · refine pm_iconst (v := 0) dX6_readSecond_9 ki_0 ?_
    exact pm_nret (ty := .boolean) (w := 0) rfl (by decide) (by decide) dX6_readSecond_10
-- StruckPage$Steps.readStrike(LStruckPage$Text;I)Z
def X6_readStrike_j37 (m : pmM) : pmR := pm_oI 0 m
def X6_readStrike (a0 : Nat) (a1 : Nat) (a2 : Int32) (m : pmM) : pmR := pm_gI 6 a0 6 m fun x1 => pm_rc 6 a0 m <| pm_cI (X6_readFirst a0 a1 a2 0 (x1 - 1) m) fun x3 m2 => if x3 = 0 then (X6_readStrike_j37 m2) else (pm_rc 6 a0 m2 <| pm_cI (X6_readSecond a0 a1 a2 7 m2) fun x5 m4 => if x5 = 0 then (X6_readStrike_j37 m4) else (pm_rc 7 a1 m4 <| pm_cI (X7_takeNumber a1 0 7 m4) fun x7 m6 => if x7 = 0 then (X6_readStrike_j37 m6) else (pm_gR 6 a0 3 m6 fun r8 => pm_gI 7 a1 5 m6 fun x9 => pm_st 100 r8 a2 x9 m6 fun m10 => pm_oI 1 m10)))
set_option maxRecDepth 100000 in
set_option maxHeartbeats 4000000 in
theorem gX6_readStrike_j37 (hfl : l.flags = flags0) (m : pmM) : pm_G l Γ zX6_readStrike (d + 3) 37 [pmU, pmU, pmU] [] m (X6_readStrike_j37 m) := by
  unfold X6_readStrike_j37
  refine pm_iconst (v := 0) dX6_readStrike_37 ki_0 ?_
  exact pm_nret (ty := .boolean) (w := 0) rfl (by decide) (by decide) dX6_readStrike_38
set_option maxRecDepth 100000 in
set_option maxHeartbeats 4000000 in
theorem kcX6_readStrike (hfl : l.flags = flags0) (a0 : Nat) (a1 : Nat) (a2 : Int32) (m : pmM) : pm_C l Γ zX6_readStrike (d + 3) [.ref a0, .ref a1, .int a2] m (X6_readStrike a0 a1 a2 m) := by
  refine pm_enter (ls := [.ref a0, .ref a1, .int a2]) hfl (by decide +kernel) rfl (Nat.le_of_ble_eq_true rfl) rfl (Nat.le_of_ble_eq_true rfl) ?_
  unfold X6_readStrike
  refine pm_aload_n dX6_readStrike_0 rfl rfl ?_
  refine pm_aload_n dX6_readStrike_1 rfl rfl ?_
  refine pm_iload_n dX6_readStrike_2 rfl rfl ?_
  refine pm_iconst (v := 0) dX6_readStrike_3 ki_0 ?_
  refine pm_aload_n dX6_readStrike_4 rfl rfl ?_
  refine fg_6_6 (y := zX6_readStrike) (Or.inl tw_325) dX6_readStrike_5 (fun x1 => ?_)
  refine pm_iconst (v := 1) dX6_readStrike_8 ki_1 ?_
  refine pm_isub dX6_readStrike_9 ?_
  refine pm_rcv (fun hb9 hc9 => ?_)
  refine pm_kI (d := d + 2) rfl (pm_V (y := zX6_readStrike) (z := zX6_readFirst) (As := [.ref a1, .int a2, .int 0, .int (x1 - 1)]) zkX6_readFirst pm_q6 (by decide) tw_971 tw_973 tw_60 dX6_readStrike_10 rfl rfl (Nat.le_of_ble_eq_true rfl) hb9 hc9) (kcX6_readFirst (d := d + 0) hfl a0 a1 a2 0 (x1 - 1) m) (fun x3 m2 => ?_)
  refine pm_if_eq (tgt := 37) dX6_readStrike_13 rfl ?_ ?_
  · refine pm_drop (ls2 := [pmU, pmU, pmU]) (Nat.le_refl _) (pm_le_spec (pm_le_u (pm_le_u (pm_le_u (pm_le_n))))) ?_
    exact gX6_readStrike_j37 hfl m2
  · refine pm_aload_n dX6_readStrike_16 rfl rfl ?_
    refine pm_aload_n dX6_readStrike_17 rfl rfl ?_
    refine pm_iload_n dX6_readStrike_18 rfl rfl ?_
    refine pm_bipush (v := 7) dX6_readStrike_19 kb_7 ?_
    refine pm_rcv (fun hb9 hc9 => ?_)
    refine pm_kI (d := d + 2) rfl (pm_V (y := zX6_readStrike) (z := zX6_readSecond) (As := [.ref a1, .int a2, .int 7]) zkX6_readSecond pm_q6 (by decide) tw_976 tw_978 tw_61 dX6_readStrike_21 rfl rfl (Nat.le_of_ble_eq_true rfl) hb9 hc9) (kcX6_readSecond (d := d + 0) hfl a0 a1 a2 7 m2) (fun x5 m4 => ?_)
    refine pm_if_eq (tgt := 37) dX6_readStrike_24 rfl ?_ ?_
    · refine pm_drop (ls2 := [pmU, pmU, pmU]) (Nat.le_refl _) (pm_le_spec (pm_le_u (pm_le_u (pm_le_u (pm_le_n))))) ?_
      exact gX6_readStrike_j37 hfl m4
    · refine pm_aload_n dX6_readStrike_27 rfl rfl ?_
      refine pm_iconst (v := 0) dX6_readStrike_28 ki_0 ?_
      refine pm_bipush (v := 7) dX6_readStrike_29 kb_7 ?_
      refine pm_rcv (fun hb9 hc9 => ?_)
      refine pm_kI (d := d + 2) rfl (pm_VN (y := zX6_readStrike) (z := zX7_takeNumber) (As := [.int 0, .int 7]) zkX7_takeNumber pm_q7 (by decide) tw_975 tw_847 tw_41 dX6_readStrike_31 rfl rfl (Nat.le_of_ble_eq_true rfl) hb9 hc9) (kcX7_takeNumber (d := d + 1) hfl a1 0 7 m4) (fun x7 m6 => ?_)
      refine pm_if_ne (tgt := 39) dX6_readStrike_34 rfl ?_ ?_
      · refine pm_aload_n dX6_readStrike_39 rfl rfl ?_
        refine fg_6_3 (y := zX6_readStrike) (Or.inl tw_321) dX6_readStrike_40 (fun r8 => ?_)
        refine pm_iload_n dX6_readStrike_43 rfl rfl ?_
        refine pm_aload_n dX6_readStrike_44 rfl rfl ?_
        refine fg_7_5 (y := zX6_readStrike) (Or.inr tw_205) dX6_readStrike_45 (fun x9 => ?_)
        refine pm_iast (y := zX6_readStrike) dX6_readStrike_48 (fun m10 => ?_)
        refine pm_iconst (v := 1) dX6_readStrike_49 ki_1 ?_
        exact pm_nret (ty := .boolean) (w := 1) rfl (by decide) (by decide) dX6_readStrike_50
      · refine pm_drop (ls2 := [pmU, pmU, pmU]) (Nat.le_refl _) (pm_le_spec (pm_le_u (pm_le_u (pm_le_u (pm_le_n))))) ?_
        exact gX6_readStrike_j37 hfl m6
-- StruckPage$Steps.readAgain(LStruckPage$Text;II)Z
def X6_readAgain_j32 (rs : Nat → Nat → Int32 → pmM → pmR) (m : pmM) : pmR := pm_oI 0 m
def X6_readAgain (rs : Nat → Nat → Int32 → pmM → pmR) (a0 : Nat) (a1 : Nat) (a2 : Int32) (a3 : Int32) (m : pmM) : pmR := pm_rc 6 a0 m <| pm_cI (X6_readFirst a0 a1 a2 0 60 m) fun x2 m1 => if x2 = 0 then (X6_readAgain_j32 rs m1) else (pm_rc 7 a1 m1 <| pm_cI (X7_takeSign a1 91 m1) fun x4 m3 => if x4 = 0 then (X6_readAgain_j32 rs m3) else (pm_rc 6 a0 m3 <| pm_cI (rs a0 a1 (a3 + 1) m3) fun x6 m5 => if x6 = 0 then (X6_readAgain_j32 rs m5) else (pm_gR 6 a0 4 m5 fun r7 => pm_gI 6 a0 5 m5 fun x8 => pm_st 100 r7 a2 x8 m5 fun m9 => pm_rc 7 a1 m9 <| pm_cI (X7_takeSign a1 93 m9) fun x11 m10 => pm_oI (vp_nar .boolean x11) m10)))
set_option maxRecDepth 100000 in
set_option maxHeartbeats 4000000 in
theorem gX6_readAgain_j32 (hfl : l.flags = flags0) (rs : Nat → Nat → Int32 → pmM → pmR) (m : pmM) (hrs : ∀ (j : Nat) (b0 : Nat) (b1 : Nat) (b2 : Int32) (m : pmM), pm_C l Γ zX6_readSteps (d + j + 6) [.ref b0, .ref b1, .int b2] m (rs b0 b1 b2 m)) : pm_G l Γ zX6_readAgain (d + 7) 32 [pmU, pmU, pmU, pmU] [] m (X6_readAgain_j32 rs m) := by
  unfold X6_readAgain_j32
  refine pm_iconst (v := 0) dX6_readAgain_32 ki_0 ?_
  exact pm_nret (ty := .boolean) (w := 0) rfl (by decide) (by decide) dX6_readAgain_33
set_option maxRecDepth 100000 in
set_option maxHeartbeats 4000000 in
theorem kcX6_readAgain (hfl : l.flags = flags0) (rs : Nat → Nat → Int32 → pmM → pmR) (a0 : Nat) (a1 : Nat) (a2 : Int32) (a3 : Int32) (m : pmM) (hrs : ∀ (j : Nat) (b0 : Nat) (b1 : Nat) (b2 : Int32) (m : pmM), pm_C l Γ zX6_readSteps (d + j + 6) [.ref b0, .ref b1, .int b2] m (rs b0 b1 b2 m)) : pm_C l Γ zX6_readAgain (d + 7) [.ref a0, .ref a1, .int a2, .int a3] m (X6_readAgain rs a0 a1 a2 a3 m) := by
  refine pm_enter (ls := [.ref a0, .ref a1, .int a2, .int a3]) hfl (by decide +kernel) rfl (Nat.le_of_ble_eq_true rfl) rfl (Nat.le_of_ble_eq_true rfl) ?_
  unfold X6_readAgain
  refine pm_aload_n dX6_readAgain_0 rfl rfl ?_
  refine pm_aload_n dX6_readAgain_1 rfl rfl ?_
  refine pm_iload_n dX6_readAgain_2 rfl rfl ?_
  refine pm_iconst (v := 0) dX6_readAgain_3 ki_0 ?_
  refine pm_bipush (v := 60) dX6_readAgain_4 kb_60 ?_
  refine pm_rcv (fun hb9 hc9 => ?_)
  refine pm_kI (d := d + 6) rfl (pm_V (y := zX6_readAgain) (z := zX6_readFirst) (As := [.ref a1, .int a2, .int 0, .int 60]) zkX6_readFirst pm_q6 (by decide) tw_971 tw_973 tw_60 dX6_readAgain_6 rfl rfl (Nat.le_of_ble_eq_true rfl) hb9 hc9) (kcX6_readFirst (d := d + 4) hfl a0 a1 a2 0 60 m) (fun x2 m1 => ?_)
  refine pm_if_eq (tgt := 32) dX6_readAgain_9 rfl ?_ ?_
  · refine pm_drop (ls2 := [pmU, pmU, pmU, pmU]) (Nat.le_refl _) (pm_le_spec (pm_le_u (pm_le_u (pm_le_u (pm_le_u (pm_le_n)))))) ?_
    exact gX6_readAgain_j32 hfl rs m1 hrs
  · refine pm_aload_n dX6_readAgain_12 rfl rfl ?_
    refine pm_bipush (v := 91) dX6_readAgain_13 kb_91 ?_
    refine pm_rcv (fun hb9 hc9 => ?_)
    refine pm_kI (d := d + 6) rfl (pm_VN (y := zX6_readAgain) (z := zX7_takeSign) (As := [.int 91]) zkX7_takeSign pm_q7 (by decide) tw_984 tw_864 tw_45 dX6_readAgain_15 rfl rfl (Nat.le_of_ble_eq_true rfl) hb9 hc9) (kcX7_takeSign (d := d + 5) hfl a1 91 m1) (fun x4 m3 => ?_)
    refine pm_if_eq (tgt := 32) dX6_readAgain_18 rfl ?_ ?_
    · refine pm_drop (ls2 := [pmU, pmU, pmU, pmU]) (Nat.le_refl _) (pm_le_spec (pm_le_u (pm_le_u (pm_le_u (pm_le_u (pm_le_n)))))) ?_
      exact gX6_readAgain_j32 hfl rs m3 hrs
    · refine pm_aload_n dX6_readAgain_21 rfl rfl ?_
      refine pm_aload_n dX6_readAgain_22 rfl rfl ?_
      refine pm_iload_n dX6_readAgain_23 rfl rfl ?_
      refine pm_iconst (v := 1) dX6_readAgain_24 ki_1 ?_
      refine pm_iadd dX6_readAgain_25 ?_
      refine pm_rcv (fun hb9 hc9 => ?_)
      refine pm_kI (d := d + 6) rfl (pm_V (y := zX6_readAgain) (z := zX6_readSteps) (As := [.ref a1, .int (a3 + 1)]) zkX6_readSteps pm_q6 (by decide) tw_945 tw_947 tw_57 dX6_readAgain_26 rfl rfl (Nat.le_of_ble_eq_true rfl) hb9 hc9) (hrs 0 a0 a1 (a3 + 1) m3) (fun x6 m5 => ?_)
      refine pm_if_ne (tgt := 34) dX6_readAgain_29 rfl ?_ ?_
      · refine pm_aload_n dX6_readAgain_34 rfl rfl ?_
        refine fg_6_4 (y := zX6_readAgain) (Or.inl tw_322) dX6_readAgain_35 (fun r7 => ?_)
        refine pm_iload_n dX6_readAgain_38 rfl rfl ?_
        refine pm_aload_n dX6_readAgain_39 rfl rfl ?_
        refine fg_6_5 (y := zX6_readAgain) (Or.inl tw_323) dX6_readAgain_40 (fun x8 => ?_)
        refine pm_iast (y := zX6_readAgain) dX6_readAgain_43 (fun m9 => ?_)
        refine pm_aload_n dX6_readAgain_44 rfl rfl ?_
        refine pm_bipush (v := 93) dX6_readAgain_45 kb_93 ?_
        refine pm_rcv (fun hb9 hc9 => ?_)
        refine pm_kI (d := d + 6) rfl (pm_VN (y := zX6_readAgain) (z := zX7_takeSign) (As := [.int 93]) zkX7_takeSign pm_q7 (by decide) tw_984 tw_864 tw_45 dX6_readAgain_47 rfl rfl (Nat.le_of_ble_eq_true rfl) hb9 hc9) (kcX7_takeSign (d := d + 5) hfl a1 93 m9) (fun x11 m10 => ?_)
        exact pm_nret (ty := .boolean) (w := vp_nar .boolean x11) rfl (by decide) rfl dX6_readAgain_50
      · refine pm_drop (ls2 := [pmU, pmU, pmU, pmU]) (Nat.le_refl _) (pm_le_spec (pm_le_u (pm_le_u (pm_le_u (pm_le_u (pm_le_n)))))) ?_
        exact gX6_readAgain_j32 hfl rs m5 hrs
end GEN7
