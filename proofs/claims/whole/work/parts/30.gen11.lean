section GEN11
variable {l : Launch} {Γ : pmG} {d : Nat}
-- StruckPage.often(I)I
abbrev zX8_often : pmY := (⟨"StruckPage", "often", "(I)I"⟩, cX8_often, 6, some .int, [])
def X8_often_j77 (t0 : Int32) (m : pmM) : pmR := pm_oI t0 m
def X8_often_j55 (again25 : (Int32 × Int32 × Int32 × pmM) → pmR) (l0 : Nat) (l1 : Int32) (l2 : Int32) (l3 : Int32) (l4 : Int32) (m : pmM) : pmR := pm_bI (l4 + 1) fun x5 => again25 (l2, l3, x5, m)
def X8_often_L25 (l0 : Nat) (l1 : Int32) (again25 : (Int32 × Int32 × Int32 × pmM) → pmR) (s25 : Int32 × Int32 × Int32 × pmM) : pmR := if (15 : Int32) < s25.2.2.1 then (if s25.2.1 = (-1) then (pm_oI (-1) s25.2.2.2) else (if l1 = 0 then (X8_often_j77 s25.2.1 s25.2.2.2) else (X8_often_j77 s25.1 s25.2.2.2))) else (pm_gR 8 l0 8 s25.2.2.2 fun r2 => pm_rc 0 r2 s25.2.2.2 <| pm_cI (X0_timesSaid r2 s25.2.2.1 s25.2.2.2) fun x4 m3 => if x4 ≤ s25.1 then (X8_often_j55 again25 l0 l1 s25.1 s25.2.1 s25.2.2.1 m3) else (X8_often_j55 again25 l0 l1 x4 s25.2.2.1 s25.2.2.1 m3))
def X8_often_j15 (l0 : Nat) (l1 : Int32) (t0 : Int32) (t1 : Nat) (m : pmM) : pmR := pm_rc 8 t1 m <| pm_cV (X8_must t1 t0 m) fun m1 => pm_lp pm_N (X8_often_L25 l0 l1) (0, (-1), 0, m1)
def X8_often_j10 (l0 : Nat) (l1 : Int32) (t0 : Nat) (m : pmM) : pmR := X8_often_j15 l0 l1 1 t0 m
def X8_often (a0 : Nat) (a1 : Int32) (m : pmM) : pmR := if a1 = 0 then (X8_often_j10 a0 a1 a0 m) else (if a1 = 1 then (X8_often_j10 a0 a1 a0 m) else (X8_often_j15 a0 a1 0 a0 m))
theorem zkX8_often : pm_zOk zX8_often 1 := ⟨rfl, tw_1306, tw_158, by decide +kernel, by decide⟩
set_option maxRecDepth 100000 in
set_option maxHeartbeats 4000000 in
theorem gX8_often_j77 (hfl : l.flags = flags0) (t0 : Int32) (m : pmM) : pm_G l Γ zX8_often (d + 4) 77 [pmU, pmU, pmU, pmU, pmU, pmU] [.int t0] m (X8_often_j77 t0 m) := by
  unfold X8_often_j77
  exact pm_iret rfl dX8_often_77
set_option maxRecDepth 100000 in
set_option maxHeartbeats 4000000 in
theorem gX8_often_j55 (hfl : l.flags = flags0) (again25 : (Int32 × Int32 × Int32 × pmM) → pmR) (l0 : Nat) (l1 : Int32) (l2 : Int32) (l3 : Int32) (l4 : Int32) (m : pmM) (hag25 : ∀ s : Int32 × Int32 × Int32 × pmM, pm_G l Γ zX8_often (d + 4) 25 [.ref l0, .int l1, .int s.1, .int s.2.1, .int s.2.2.1, pmU] [] s.2.2.2 (again25 s)) : pm_G l Γ zX8_often (d + 4) 55 [.ref l0, .int l1, .int l2, .int l3, .int l4, pmU] [] m (X8_often_j55 again25 l0 l1 l2 l3 l4 m) := by
  unfold X8_often_j55
  refine pm_iincn (y := zX8_often) dX8_often_55 rfl ki_1 rfl (Nat.le_of_ble_eq_true rfl) (fun x5 => ?_)
  refine pm_eqls (ls2 := [.ref l0, .int l1, .int l2, .int l3, .int x5, pmU]) rfl ?_
  refine pm_goto (tgt := 25) dX8_often_58 rfl ?_
  exact hag25 (l2, l3, x5, m)
set_option maxRecDepth 100000 in
set_option maxHeartbeats 4000000 in
theorem gX8_often_L25 (hfl : l.flags = flags0) (l0 : Nat) (l1 : Int32) : ∀ (n : Nat) (s : Int32 × Int32 × Int32 × pmM), pm_G l Γ zX8_often (d + 4) 25 [.ref l0, .int l1, .int s.1, .int s.2.1, .int s.2.2.1, pmU] [] s.2.2.2 (pm_lp n (X8_often_L25 l0 l1) s) :=
  pm_loop (lsf := fun s : Int32 × Int32 × Int32 × pmM => [.ref l0, .int l1, .int s.1, .int s.2.1, .int s.2.2.1, pmU]) (mf := fun s : Int32 × Int32 × Int32 × pmM => s.2.2.2) (fun again25 hag25 s25 => by
    unfold X8_often_L25
    refine pm_iload dX8_often_25 rfl ?_
    refine pm_bipush (v := 15) dX8_often_27 kb_15 ?_
    refine pm_icmp_gt (tgt := 61) dX8_often_29 rfl ?_ ?_
    · refine pm_iload_n dX8_often_61 rfl rfl ?_
      refine pm_iconst (v := (-1)) dX8_often_62 ki_n1 ?_
      refine pm_icmp_ne (tgt := 68) dX8_often_63 rfl ?_ ?_
      · refine pm_iload_n dX8_often_68 rfl rfl ?_
        refine pm_if_ne (tgt := 76) dX8_often_69 rfl ?_ ?_
        · refine pm_iload_n dX8_often_76 rfl rfl ?_
          refine pm_drop (ls2 := [pmU, pmU, pmU, pmU, pmU, pmU]) (Nat.le_refl _) (pm_le_spec (pm_le_u (pm_le_u (pm_le_u (pm_le_u (pm_le_u (pm_le_u (pm_le_n)))))))) ?_
          exact gX8_often_j77 hfl s25.1 s25.2.2.2
        · refine pm_iload_n dX8_often_72 rfl rfl ?_
          refine pm_goto (tgt := 77) dX8_often_73 rfl ?_
          refine pm_drop (ls2 := [pmU, pmU, pmU, pmU, pmU, pmU]) (Nat.le_refl _) (pm_le_spec (pm_le_u (pm_le_u (pm_le_u (pm_le_u (pm_le_u (pm_le_u (pm_le_n)))))))) ?_
          exact gX8_often_j77 hfl s25.2.1 s25.2.2.2
      · refine pm_iconst (v := (-1)) dX8_often_66 ki_n1 ?_
        exact pm_iret rfl dX8_often_67
    · refine pm_aload_n dX8_often_32 rfl rfl ?_
      refine fg_8_8 (y := zX8_often) (Or.inl tw_448) dX8_often_33 (fun r2 => ?_)
      refine pm_iload dX8_often_36 rfl ?_
      refine pm_rcv (fun hb9 hc9 => ?_)
      refine pm_kI rfl (pm_VN (y := zX8_often) (z := zX0_timesSaid) (As := [.int s25.2.2.1]) zkX0_timesSaid pm_q0 (by decide) tw_1307 tw_1309 tw_95 dX8_often_38 rfl rfl (Nat.le_of_ble_eq_true rfl) hb9 hc9) (kcX0_timesSaid hfl r2 s25.2.2.1 s25.2.2.2) (fun x4 m3 => ?_)
      refine pm_istore (ls2 := [.ref l0, .int l1, .int s25.1, .int s25.2.1, .int s25.2.2.1, .int x4]) dX8_often_41 rfl (Nat.le_of_ble_eq_true rfl) rfl ?_
      refine pm_iload dX8_often_43 rfl ?_
      refine pm_iload_n dX8_often_45 rfl rfl ?_
      refine pm_icmp_le (tgt := 55) dX8_often_46 rfl ?_ ?_
      · refine pm_drop (ls2 := [.ref l0, .int l1, .int s25.1, .int s25.2.1, .int s25.2.2.1, pmU]) (Nat.le_refl _) (pm_le_spec (pm_le_v (pm_le_v (pm_le_v (pm_le_v (pm_le_v (pm_le_u (pm_le_n)))))))) ?_
        exact gX8_often_j55 hfl again25 l0 l1 s25.1 s25.2.1 s25.2.2.1 m3 hag25
      · refine pm_iload dX8_often_49 rfl ?_
        refine pm_istore_n (ls2 := [.ref l0, .int l1, .int x4, .int s25.2.1, .int s25.2.2.1, .int x4]) dX8_often_51 rfl rfl (Nat.le_of_ble_eq_true rfl) rfl ?_
        refine pm_iload dX8_often_52 rfl ?_
        refine pm_istore_n (ls2 := [.ref l0, .int l1, .int x4, .int s25.2.2.1, .int s25.2.2.1, .int x4]) dX8_often_54 rfl rfl (Nat.le_of_ble_eq_true rfl) rfl ?_
        refine pm_drop (ls2 := [.ref l0, .int l1, .int x4, .int s25.2.2.1, .int s25.2.2.1, pmU]) (Nat.le_refl _) (pm_le_spec (pm_le_v (pm_le_v (pm_le_v (pm_le_v (pm_le_v (pm_le_u (pm_le_n)))))))) ?_
        exact gX8_often_j55 hfl again25 l0 l1 x4 s25.2.2.1 s25.2.2.1 m3 hag25)
set_option maxRecDepth 100000 in
set_option maxHeartbeats 4000000 in
theorem gX8_often_j15 (hfl : l.flags = flags0) (l0 : Nat) (l1 : Int32) (t0 : Int32) (t1 : Nat) (m : pmM) : pm_G l Γ zX8_often (d + 4) 15 [.ref l0, .int l1, pmU, pmU, pmU, pmU] [.int t0, .ref t1] m (X8_often_j15 l0 l1 t0 t1 m) := by
  unfold X8_often_j15
  refine pm_rcv (fun hb9 hc9 => ?_)
  refine pm_kV rfl (pm_V (y := zX8_often) (z := zX8_must) (As := [.int t0]) zkX8_must pm_q8 (by decide) tw_687 tw_689 tw_30 dX8_often_15 rfl rfl (Nat.le_of_ble_eq_true rfl) hb9 hc9) (kcX8_must hfl t1 t0 m) (fun m1 => ?_)
  refine pm_iconst (v := 0) dX8_often_18 ki_0 ?_
  refine pm_istore_n (ls2 := [.ref l0, .int l1, .int 0, pmU, pmU, pmU]) dX8_often_19 rfl rfl (Nat.le_of_ble_eq_true rfl) rfl ?_
  refine pm_iconst (v := (-1)) dX8_often_20 ki_n1 ?_
  refine pm_istore_n (ls2 := [.ref l0, .int l1, .int 0, .int (-1), pmU, pmU]) dX8_often_21 rfl rfl (Nat.le_of_ble_eq_true rfl) rfl ?_
  refine pm_iconst (v := 0) dX8_often_22 ki_0 ?_
  refine pm_istore (ls2 := [.ref l0, .int l1, .int 0, .int (-1), .int 0, pmU]) dX8_often_23 rfl (Nat.le_of_ble_eq_true rfl) rfl ?_
  exact gX8_often_L25 hfl l0 l1 pm_N (0, (-1), 0, m1)
set_option maxRecDepth 100000 in
set_option maxHeartbeats 4000000 in
theorem gX8_often_j10 (hfl : l.flags = flags0) (l0 : Nat) (l1 : Int32) (t0 : Nat) (m : pmM) : pm_G l Γ zX8_often (d + 4) 10 [.ref l0, .int l1, pmU, pmU, pmU, pmU] [.ref t0] m (X8_often_j10 l0 l1 t0 m) := by
  unfold X8_often_j10
  refine pm_iconst (v := 1) dX8_often_10 ki_1 ?_
  refine pm_goto (tgt := 15) dX8_often_11 rfl ?_
  exact gX8_often_j15 hfl l0 l1 1 t0 m
set_option maxRecDepth 100000 in
set_option maxHeartbeats 4000000 in
theorem kcX8_often (hfl : l.flags = flags0) (a0 : Nat) (a1 : Int32) (m : pmM) : pm_C l Γ zX8_often (d + 4) [.ref a0, .int a1] m (X8_often a0 a1 m) := by
  refine pm_enter (ls := [.ref a0, .int a1, pmU, pmU, pmU, pmU]) hfl (by decide +kernel) rfl (Nat.le_of_ble_eq_true rfl) rfl (Nat.le_of_ble_eq_true rfl) ?_
  unfold X8_often
  refine pm_aload_n dX8_often_0 rfl rfl ?_
  refine pm_iload_n dX8_often_1 rfl rfl ?_
  refine pm_if_eq (tgt := 10) dX8_often_2 rfl ?_ ?_
  · exact gX8_often_j10 hfl a0 a1 a0 m
  · refine pm_iload_n dX8_often_5 rfl rfl ?_
    refine pm_iconst (v := 1) dX8_often_6 ki_1 ?_
    refine pm_icmp_ne (tgt := 14) dX8_often_7 rfl ?_ ?_
    · refine pm_iconst (v := 0) dX8_often_14 ki_0 ?_
      exact gX8_often_j15 hfl a0 a1 0 a0 m
    · exact gX8_often_j10 hfl a0 a1 a0 m
-- StruckPage.deeds(I)I
abbrev zX8_deeds : pmY := (⟨"StruckPage", "deeds", "(I)I"⟩, cX8_deeds, 4, some .int, [])
def X8_deeds_j52 (again23 : (Int32 × Int32 × pmM) → pmR) (l0 : Nat) (l1 : Int32) (l2 : Int32) (l3 : Int32) (m : pmM) : pmR := pm_bI (l3 + 1) fun x7 => again23 (l2, x7, m)
def X8_deeds_L23 (l0 : Nat) (l1 : Int32) (again23 : (Int32 × Int32 × pmM) → pmR) (s23 : Int32 × Int32 × pmM) : pmR := pm_gR 8 l0 1 s23.2.2 fun r2 => pm_gI 2 r2 3 s23.2.2 fun x3 => if x3 ≤ s23.2.1 then (pm_oI s23.1 s23.2.2) else (pm_gR 8 l0 8 s23.2.2 fun r4 => pm_rc 0 r4 s23.2.2 <| pm_cI (X0_firstLeft r4 s23.2.1 s23.2.2) fun x6 m5 => if x6 = l1 then (pm_bI (s23.1 ||| ((1 : Int32) <<< (s23.2.1 &&& 31))) fun x8 => X8_deeds_j52 again23 l0 l1 x8 s23.2.1 m5) else (X8_deeds_j52 again23 l0 l1 s23.1 s23.2.1 m5))
def X8_deeds_j16 (l0 : Nat) (l1 : Int32) (t0 : Int32) (t1 : Nat) (m : pmM) : pmR := pm_rc 8 t1 m <| pm_cV (X8_must t1 t0 m) fun m1 => pm_lp pm_N (X8_deeds_L23 l0 l1) (0, 0, m1)
def X8_deeds_j15 (l0 : Nat) (l1 : Int32) (t0 : Nat) (m : pmM) : pmR := X8_deeds_j16 l0 l1 0 t0 m
def X8_deeds (a0 : Nat) (a1 : Int32) (m : pmM) : pmR := if a1 < 0 then (X8_deeds_j15 a0 a1 a0 m) else (if (15 : Int32) < a1 then (X8_deeds_j15 a0 a1 a0 m) else (X8_deeds_j16 a0 a1 1 a0 m))
theorem zkX8_deeds : pm_zOk zX8_deeds 1 := ⟨rfl, tw_1317, tw_158, by decide +kernel, by decide⟩
set_option maxRecDepth 100000 in
set_option maxHeartbeats 4000000 in
theorem gX8_deeds_j52 (hfl : l.flags = flags0) (again23 : (Int32 × Int32 × pmM) → pmR) (l0 : Nat) (l1 : Int32) (l2 : Int32) (l3 : Int32) (m : pmM) (hag23 : ∀ s : Int32 × Int32 × pmM, pm_G l Γ zX8_deeds (d + 5) 23 [.ref l0, .int l1, .int s.1, .int s.2.1] [] s.2.2 (again23 s)) : pm_G l Γ zX8_deeds (d + 5) 52 [.ref l0, .int l1, .int l2, .int l3] [] m (X8_deeds_j52 again23 l0 l1 l2 l3 m) := by
  unfold X8_deeds_j52
  refine pm_iincn (y := zX8_deeds) dX8_deeds_52 rfl ki_1 rfl (Nat.le_of_ble_eq_true rfl) (fun x7 => ?_)
  refine pm_eqls (ls2 := [.ref l0, .int l1, .int l2, .int x7]) rfl ?_
  refine pm_goto (tgt := 23) dX8_deeds_55 rfl ?_
  exact hag23 (l2, x7, m)
set_option maxRecDepth 100000 in
set_option maxHeartbeats 4000000 in
theorem gX8_deeds_L23 (hfl : l.flags = flags0) (l0 : Nat) (l1 : Int32) : ∀ (n : Nat) (s : Int32 × Int32 × pmM), pm_G l Γ zX8_deeds (d + 5) 23 [.ref l0, .int l1, .int s.1, .int s.2.1] [] s.2.2 (pm_lp n (X8_deeds_L23 l0 l1) s) :=
  pm_loop (lsf := fun s : Int32 × Int32 × pmM => [.ref l0, .int l1, .int s.1, .int s.2.1]) (mf := fun s : Int32 × Int32 × pmM => s.2.2) (fun again23 hag23 s23 => by
    unfold X8_deeds_L23
    refine pm_iload_n dX8_deeds_23 rfl rfl ?_
    refine pm_aload_n dX8_deeds_24 rfl rfl ?_
    refine fg_8_1 (y := zX8_deeds) (Or.inl tw_441) dX8_deeds_25 (fun r2 => ?_)
    refine fg_2_3 (y := zX8_deeds) (Or.inr tw_248) dX8_deeds_28 (fun x3 => ?_)
    refine pm_icmp_ge (tgt := 58) dX8_deeds_31 rfl ?_ ?_
    · refine pm_iload_n dX8_deeds_58 rfl rfl ?_
      exact pm_iret rfl dX8_deeds_59
    · refine pm_aload_n dX8_deeds_34 rfl rfl ?_
      refine fg_8_8 (y := zX8_deeds) (Or.inl tw_448) dX8_deeds_35 (fun r4 => ?_)
      refine pm_iload_n dX8_deeds_38 rfl rfl ?_
      refine pm_rcv (fun hb9 hc9 => ?_)
      refine pm_kI rfl (pm_VN (y := zX8_deeds) (z := zX0_firstLeft) (As := [.int s23.2.1]) zkX0_firstLeft pm_q0 (by decide) tw_1128 tw_1130 tw_84 dX8_deeds_39 rfl rfl (Nat.le_of_ble_eq_true rfl) hb9 hc9) (kcX0_firstLeft hfl r4 s23.2.1 s23.2.2) (fun x6 m5 => ?_)
      refine pm_iload_n dX8_deeds_42 rfl rfl ?_
      refine pm_icmp_ne (tgt := 52) dX8_deeds_43 rfl ?_ ?_
      · exact gX8_deeds_j52 hfl again23 l0 l1 s23.1 s23.2.1 m5 hag23
      · refine pm_iload_n dX8_deeds_46 rfl rfl ?_
        refine pm_iconst (v := 1) dX8_deeds_47 ki_1 ?_
        refine pm_iload_n dX8_deeds_48 rfl rfl ?_
        refine pm_ishl dX8_deeds_49 ?_
        refine pm_ior dX8_deeds_50 ?_
        refine pm_bIn (fun x8 => ?_)
        refine pm_istore_n (ls2 := [.ref l0, .int l1, .int x8, .int s23.2.1]) dX8_deeds_51 rfl rfl (Nat.le_of_ble_eq_true rfl) rfl ?_
        exact gX8_deeds_j52 hfl again23 l0 l1 x8 s23.2.1 m5 hag23)
set_option maxRecDepth 100000 in
set_option maxHeartbeats 4000000 in
theorem gX8_deeds_j16 (hfl : l.flags = flags0) (l0 : Nat) (l1 : Int32) (t0 : Int32) (t1 : Nat) (m : pmM) : pm_G l Γ zX8_deeds (d + 5) 16 [.ref l0, .int l1, pmU, pmU] [.int t0, .ref t1] m (X8_deeds_j16 l0 l1 t0 t1 m) := by
  unfold X8_deeds_j16
  refine pm_rcv (fun hb9 hc9 => ?_)
  refine pm_kV rfl (pm_V (y := zX8_deeds) (z := zX8_must) (As := [.int t0]) zkX8_must pm_q8 (by decide) tw_687 tw_689 tw_30 dX8_deeds_16 rfl rfl (Nat.le_of_ble_eq_true rfl) hb9 hc9) (kcX8_must hfl t1 t0 m) (fun m1 => ?_)
  refine pm_iconst (v := 0) dX8_deeds_19 ki_0 ?_
  refine pm_istore_n (ls2 := [.ref l0, .int l1, .int 0, pmU]) dX8_deeds_20 rfl rfl (Nat.le_of_ble_eq_true rfl) rfl ?_
  refine pm_iconst (v := 0) dX8_deeds_21 ki_0 ?_
  refine pm_istore_n (ls2 := [.ref l0, .int l1, .int 0, .int 0]) dX8_deeds_22 rfl rfl (Nat.le_of_ble_eq_true rfl) rfl ?_
  exact gX8_deeds_L23 hfl l0 l1 pm_N (0, 0, m1)
set_option maxRecDepth 100000 in
set_option maxHeartbeats 4000000 in
theorem gX8_deeds_j15 (hfl : l.flags = flags0) (l0 : Nat) (l1 : Int32) (t0 : Nat) (m : pmM) : pm_G l Γ zX8_deeds (d + 5) 15 [.ref l0, .int l1, pmU, pmU] [.ref t0] m (X8_deeds_j15 l0 l1 t0 m) := by
  unfold X8_deeds_j15
  refine pm_iconst (v := 0) dX8_deeds_15 ki_0 ?_
  exact gX8_deeds_j16 hfl l0 l1 0 t0 m
set_option maxRecDepth 100000 in
set_option maxHeartbeats 4000000 in
theorem kcX8_deeds (hfl : l.flags = flags0) (a0 : Nat) (a1 : Int32) (m : pmM) : pm_C l Γ zX8_deeds (d + 5) [.ref a0, .int a1] m (X8_deeds a0 a1 m) := by
  refine pm_enter (ls := [.ref a0, .int a1, pmU, pmU]) hfl (by decide +kernel) rfl (Nat.le_of_ble_eq_true rfl) rfl (Nat.le_of_ble_eq_true rfl) ?_
  unfold X8_deeds
  refine pm_aload_n dX8_deeds_0 rfl rfl ?_
  refine pm_iload_n dX8_deeds_1 rfl rfl ?_
  refine pm_if_lt (tgt := 15) dX8_deeds_2 rfl ?_ ?_
  · exact gX8_deeds_j15 hfl a0 a1 a0 m
  · refine pm_iload_n dX8_deeds_5 rfl rfl ?_
    refine pm_bipush (v := 15) dX8_deeds_6 kb_15 ?_
    refine pm_icmp_gt (tgt := 15) dX8_deeds_8 rfl ?_ ?_
    · exact gX8_deeds_j15 hfl a0 a1 a0 m
    · refine pm_iconst (v := 1) dX8_deeds_11 ki_1 ?_
      refine pm_goto (tgt := 16) dX8_deeds_12 rfl ?_
      exact gX8_deeds_j16 hfl a0 a1 1 a0 m
-- StruckPage.longest(I)I
abbrev zX8_longest : pmY := (⟨"StruckPage", "longest", "(I)I"⟩, cX8_longest, 5, some .int, [])
def X8_longest_j78 (t0 : Int32) (m : pmM) : pmR := pm_oI t0 m
def X8_longest_j63 (again25 : (Int32 × Int32 × Int32 × pmM) → pmR) (l0 : Nat) (l1 : Int32) (l2 : Int32) (l3 : Int32) (l4 : Int32) (m : pmM) : pmR := pm_bI (l4 + 1) fun x7 => again25 (l2, l3, x7, m)
def X8_longest_L25 (l0 : Nat) (l1 : Int32) (again25 : (Int32 × Int32 × Int32 × pmM) → pmR) (s25 : Int32 × Int32 × Int32 × pmM) : pmR := pm_gR 8 l0 1 s25.2.2.2 fun r2 => pm_gI 2 r2 3 s25.2.2.2 fun x3 => if x3 ≤ s25.2.2.1 then (if l1 = 0 then (X8_longest_j78 s25.2.1 s25.2.2.2) else (X8_longest_j78 s25.1 s25.2.2.2)) else (pm_gR 8 l0 8 s25.2.2.2 fun r4 => pm_rc 0 r4 s25.2.2.2 <| pm_cI (X0_leftIn r4 s25.2.2.1 s25.2.2.2) fun x6 m5 => if x6 ≤ s25.1 then (X8_longest_j63 again25 l0 l1 s25.1 s25.2.1 s25.2.2.1 m5) else (pm_gR 8 l0 8 m5 fun r8 => pm_rc 0 r8 m5 <| pm_cI (X0_leftIn r8 s25.2.2.1 m5) fun x10 m9 => X8_longest_j63 again25 l0 l1 x10 s25.2.2.1 s25.2.2.1 m9))
def X8_longest_j15 (l0 : Nat) (l1 : Int32) (t0 : Int32) (t1 : Nat) (m : pmM) : pmR := pm_rc 8 t1 m <| pm_cV (X8_must t1 t0 m) fun m1 => pm_lp pm_N (X8_longest_L25 l0 l1) ((-1), (-1), 0, m1)
def X8_longest_j10 (l0 : Nat) (l1 : Int32) (t0 : Nat) (m : pmM) : pmR := X8_longest_j15 l0 l1 1 t0 m
def X8_longest (a0 : Nat) (a1 : Int32) (m : pmM) : pmR := if a1 = 0 then (X8_longest_j10 a0 a1 a0 m) else (if a1 = 1 then (X8_longest_j10 a0 a1 a0 m) else (X8_longest_j15 a0 a1 0 a0 m))
theorem zkX8_longest : pm_zOk zX8_longest 1 := ⟨rfl, tw_1324, tw_158, by decide +kernel, by decide⟩
set_option maxRecDepth 100000 in
set_option maxHeartbeats 4000000 in
theorem gX8_longest_j78 (hfl : l.flags = flags0) (t0 : Int32) (m : pmM) : pm_G l Γ zX8_longest (d + 2) 78 [pmU, pmU, pmU, pmU, pmU] [.int t0] m (X8_longest_j78 t0 m) := by
  unfold X8_longest_j78
  exact pm_iret rfl dX8_longest_78
set_option maxRecDepth 100000 in
set_option maxHeartbeats 4000000 in
theorem gX8_longest_j63 (hfl : l.flags = flags0) (again25 : (Int32 × Int32 × Int32 × pmM) → pmR) (l0 : Nat) (l1 : Int32) (l2 : Int32) (l3 : Int32) (l4 : Int32) (m : pmM) (hag25 : ∀ s : Int32 × Int32 × Int32 × pmM, pm_G l Γ zX8_longest (d + 2) 25 [.ref l0, .int l1, .int s.1, .int s.2.1, .int s.2.2.1] [] s.2.2.2 (again25 s)) : pm_G l Γ zX8_longest (d + 2) 63 [.ref l0, .int l1, .int l2, .int l3, .int l4] [] m (X8_longest_j63 again25 l0 l1 l2 l3 l4 m) := by
  unfold X8_longest_j63
  refine pm_iincn (y := zX8_longest) dX8_longest_63 rfl ki_1 rfl (Nat.le_of_ble_eq_true rfl) (fun x7 => ?_)
  refine pm_eqls (ls2 := [.ref l0, .int l1, .int l2, .int l3, .int x7]) rfl ?_
  refine pm_goto (tgt := 25) dX8_longest_66 rfl ?_
  exact hag25 (l2, l3, x7, m)
set_option maxRecDepth 100000 in
set_option maxHeartbeats 4000000 in
theorem gX8_longest_L25 (hfl : l.flags = flags0) (l0 : Nat) (l1 : Int32) : ∀ (n : Nat) (s : Int32 × Int32 × Int32 × pmM), pm_G l Γ zX8_longest (d + 2) 25 [.ref l0, .int l1, .int s.1, .int s.2.1, .int s.2.2.1] [] s.2.2.2 (pm_lp n (X8_longest_L25 l0 l1) s) :=
  pm_loop (lsf := fun s : Int32 × Int32 × Int32 × pmM => [.ref l0, .int l1, .int s.1, .int s.2.1, .int s.2.2.1]) (mf := fun s : Int32 × Int32 × Int32 × pmM => s.2.2.2) (fun again25 hag25 s25 => by
    unfold X8_longest_L25
    refine pm_iload dX8_longest_25 rfl ?_
    refine pm_aload_n dX8_longest_27 rfl rfl ?_
    refine fg_8_1 (y := zX8_longest) (Or.inl tw_441) dX8_longest_28 (fun r2 => ?_)
    refine fg_2_3 (y := zX8_longest) (Or.inr tw_248) dX8_longest_31 (fun x3 => ?_)
    refine pm_icmp_ge (tgt := 69) dX8_longest_34 rfl ?_ ?_
    · refine pm_iload_n dX8_longest_69 rfl rfl ?_
      refine pm_if_ne (tgt := 77) dX8_longest_70 rfl ?_ ?_
      · refine pm_iload_n dX8_longest_77 rfl rfl ?_
        refine pm_drop (ls2 := [pmU, pmU, pmU, pmU, pmU]) (Nat.le_refl _) (pm_le_spec (pm_le_u (pm_le_u (pm_le_u (pm_le_u (pm_le_u (pm_le_n))))))) ?_
        exact gX8_longest_j78 hfl s25.1 s25.2.2.2
      · refine pm_iload_n dX8_longest_73 rfl rfl ?_
        refine pm_goto (tgt := 78) dX8_longest_74 rfl ?_
        refine pm_drop (ls2 := [pmU, pmU, pmU, pmU, pmU]) (Nat.le_refl _) (pm_le_spec (pm_le_u (pm_le_u (pm_le_u (pm_le_u (pm_le_u (pm_le_n))))))) ?_
        exact gX8_longest_j78 hfl s25.2.1 s25.2.2.2
    · refine pm_aload_n dX8_longest_37 rfl rfl ?_
      refine fg_8_8 (y := zX8_longest) (Or.inl tw_448) dX8_longest_38 (fun r4 => ?_)
      refine pm_iload dX8_longest_41 rfl ?_
      refine pm_rcv (fun hb9 hc9 => ?_)
      refine pm_kI rfl (pm_VN (y := zX8_longest) (z := zX0_leftIn) (As := [.int s25.2.2.1]) zkX0_leftIn pm_q0 (by decide) tw_1095 tw_1097 tw_82 dX8_longest_43 rfl rfl (Nat.le_of_ble_eq_true rfl) hb9 hc9) (kcX0_leftIn hfl r4 s25.2.2.1 s25.2.2.2) (fun x6 m5 => ?_)
      refine pm_iload_n dX8_longest_46 rfl rfl ?_
      refine pm_icmp_le (tgt := 63) dX8_longest_47 rfl ?_ ?_
      · exact gX8_longest_j63 hfl again25 l0 l1 s25.1 s25.2.1 s25.2.2.1 m5 hag25
      · refine pm_aload_n dX8_longest_50 rfl rfl ?_
        refine fg_8_8 (y := zX8_longest) (Or.inl tw_448) dX8_longest_51 (fun r8 => ?_)
        refine pm_iload dX8_longest_54 rfl ?_
        refine pm_rcv (fun hb9 hc9 => ?_)
        refine pm_kI rfl (pm_VN (y := zX8_longest) (z := zX0_leftIn) (As := [.int s25.2.2.1]) zkX0_leftIn pm_q0 (by decide) tw_1095 tw_1097 tw_82 dX8_longest_56 rfl rfl (Nat.le_of_ble_eq_true rfl) hb9 hc9) (kcX0_leftIn hfl r8 s25.2.2.1 m5) (fun x10 m9 => ?_)
        refine pm_istore_n (ls2 := [.ref l0, .int l1, .int x10, .int s25.2.1, .int s25.2.2.1]) dX8_longest_59 rfl rfl (Nat.le_of_ble_eq_true rfl) rfl ?_
        refine pm_iload dX8_longest_60 rfl ?_
        refine pm_istore_n (ls2 := [.ref l0, .int l1, .int x10, .int s25.2.2.1, .int s25.2.2.1]) dX8_longest_62 rfl rfl (Nat.le_of_ble_eq_true rfl) rfl ?_
        exact gX8_longest_j63 hfl again25 l0 l1 x10 s25.2.2.1 s25.2.2.1 m9 hag25)
set_option maxRecDepth 100000 in
set_option maxHeartbeats 4000000 in
theorem gX8_longest_j15 (hfl : l.flags = flags0) (l0 : Nat) (l1 : Int32) (t0 : Int32) (t1 : Nat) (m : pmM) : pm_G l Γ zX8_longest (d + 2) 15 [.ref l0, .int l1, pmU, pmU, pmU] [.int t0, .ref t1] m (X8_longest_j15 l0 l1 t0 t1 m) := by
  unfold X8_longest_j15
  refine pm_rcv (fun hb9 hc9 => ?_)
  refine pm_kV rfl (pm_V (y := zX8_longest) (z := zX8_must) (As := [.int t0]) zkX8_must pm_q8 (by decide) tw_687 tw_689 tw_30 dX8_longest_15 rfl rfl (Nat.le_of_ble_eq_true rfl) hb9 hc9) (kcX8_must hfl t1 t0 m) (fun m1 => ?_)
  refine pm_iconst (v := (-1)) dX8_longest_18 ki_n1 ?_
  refine pm_istore_n (ls2 := [.ref l0, .int l1, .int (-1), pmU, pmU]) dX8_longest_19 rfl rfl (Nat.le_of_ble_eq_true rfl) rfl ?_
  refine pm_iconst (v := (-1)) dX8_longest_20 ki_n1 ?_
  refine pm_istore_n (ls2 := [.ref l0, .int l1, .int (-1), .int (-1), pmU]) dX8_longest_21 rfl rfl (Nat.le_of_ble_eq_true rfl) rfl ?_
  refine pm_iconst (v := 0) dX8_longest_22 ki_0 ?_
  refine pm_istore (ls2 := [.ref l0, .int l1, .int (-1), .int (-1), .int 0]) dX8_longest_23 rfl (Nat.le_of_ble_eq_true rfl) rfl ?_
  exact gX8_longest_L25 hfl l0 l1 pm_N ((-1), (-1), 0, m1)
set_option maxRecDepth 100000 in
set_option maxHeartbeats 4000000 in
theorem gX8_longest_j10 (hfl : l.flags = flags0) (l0 : Nat) (l1 : Int32) (t0 : Nat) (m : pmM) : pm_G l Γ zX8_longest (d + 2) 10 [.ref l0, .int l1, pmU, pmU, pmU] [.ref t0] m (X8_longest_j10 l0 l1 t0 m) := by
  unfold X8_longest_j10
  refine pm_iconst (v := 1) dX8_longest_10 ki_1 ?_
  refine pm_goto (tgt := 15) dX8_longest_11 rfl ?_
  exact gX8_longest_j15 hfl l0 l1 1 t0 m
set_option maxRecDepth 100000 in
set_option maxHeartbeats 4000000 in
theorem kcX8_longest (hfl : l.flags = flags0) (a0 : Nat) (a1 : Int32) (m : pmM) : pm_C l Γ zX8_longest (d + 2) [.ref a0, .int a1] m (X8_longest a0 a1 m) := by
  refine pm_enter (ls := [.ref a0, .int a1, pmU, pmU, pmU]) hfl (by decide +kernel) rfl (Nat.le_of_ble_eq_true rfl) rfl (Nat.le_of_ble_eq_true rfl) ?_
  unfold X8_longest
  refine pm_aload_n dX8_longest_0 rfl rfl ?_
  refine pm_iload_n dX8_longest_1 rfl rfl ?_
  refine pm_if_eq (tgt := 10) dX8_longest_2 rfl ?_ ?_
  · exact gX8_longest_j10 hfl a0 a1 a0 m
  · refine pm_iload_n dX8_longest_5 rfl rfl ?_
    refine pm_iconst (v := 1) dX8_longest_6 ki_1 ?_
    refine pm_icmp_ne (tgt := 14) dX8_longest_7 rfl ?_ ?_
    · refine pm_iconst (v := 0) dX8_longest_14 ki_0 ?_
      exact gX8_longest_j15 hfl a0 a1 0 a0 m
    · exact gX8_longest_j10 hfl a0 a1 a0 m
-- StruckPage.cost(III)I
abbrev zX8_cost : pmY := (⟨"StruckPage", "cost", "(III)I"⟩, cX8_cost, 4, some .int, [])
def X8_cost_j23 (l0 : Nat) (l1 : Int32) (l2 : Int32) (l3 : Int32) (t0 : Int32) (t1 : Nat) (m : pmM) : pmR := pm_rc 8 t1 m <| pm_cV (X8_must t1 t0 m) fun m3 => pm_gR 8 l0 8 m3 fun r4 => pm_rc 0 r4 m3 <| pm_cI (X0_priceOf r4 l1 l2 l3 m3) fun x6 m5 => pm_oI x6 m5
def X8_cost (a0 : Nat) (a1 : Int32) (a2 : Int32) (a3 : Int32) (m : pmM) : pmR := pm_rc 8 a0 m <| pm_cV (X8_mustBeWord a0 a1 a2 m) fun m1 => pm_rc 8 a0 m1 <| pm_cV (X8_mustBeWord a0 a1 a3 m1) fun m2 => if a3 < a2 then (X8_cost_j23 a0 a1 a2 a3 0 a0 m2) else (X8_cost_j23 a0 a1 a2 a3 1 a0 m2)
theorem zkX8_cost : pm_zOk zX8_cost 3 := ⟨rfl, tw_1171, tw_158, by decide +kernel, by decide⟩
set_option maxRecDepth 100000 in
set_option maxHeartbeats 4000000 in
theorem gX8_cost_j23 (hfl : l.flags = flags0) (l0 : Nat) (l1 : Int32) (l2 : Int32) (l3 : Int32) (t0 : Int32) (t1 : Nat) (m : pmM) : pm_G l Γ zX8_cost (d + 4) 23 [.ref l0, .int l1, .int l2, .int l3] [.int t0, .ref t1] m (X8_cost_j23 l0 l1 l2 l3 t0 t1 m) := by
  unfold X8_cost_j23
  refine pm_rcv (fun hb9 hc9 => ?_)
  refine pm_kV rfl (pm_V (y := zX8_cost) (z := zX8_must) (As := [.int t0]) zkX8_must pm_q8 (by decide) tw_687 tw_689 tw_30 dX8_cost_23 rfl rfl (Nat.le_of_ble_eq_true rfl) hb9 hc9) (kcX8_must hfl t1 t0 m) (fun m3 => ?_)
  refine pm_aload_n dX8_cost_26 rfl rfl ?_
  refine fg_8_8 (y := zX8_cost) (Or.inl tw_448) dX8_cost_27 (fun r4 => ?_)
  refine pm_iload_n dX8_cost_30 rfl rfl ?_
  refine pm_iload_n dX8_cost_31 rfl rfl ?_
  refine pm_iload_n dX8_cost_32 rfl rfl ?_
  refine pm_rcv (fun hb9 hc9 => ?_)
  refine pm_kI rfl (pm_VN (y := zX8_cost) (z := zX0_priceOf) (As := [.int l1, .int l2, .int l3]) zkX0_priceOf pm_q0 (by decide) tw_1172 tw_1011 tw_68 dX8_cost_33 rfl rfl (Nat.le_of_ble_eq_true rfl) hb9 hc9) (kcX0_priceOf hfl r4 l1 l2 l3 m3) (fun x6 m5 => ?_)
  exact pm_iret rfl dX8_cost_36
set_option maxRecDepth 100000 in
set_option maxHeartbeats 4000000 in
theorem kcX8_cost (hfl : l.flags = flags0) (a0 : Nat) (a1 : Int32) (a2 : Int32) (a3 : Int32) (m : pmM) : pm_C l Γ zX8_cost (d + 4) [.ref a0, .int a1, .int a2, .int a3] m (X8_cost a0 a1 a2 a3 m) := by
  refine pm_enter (ls := [.ref a0, .int a1, .int a2, .int a3]) hfl (by decide +kernel) rfl (Nat.le_of_ble_eq_true rfl) rfl (Nat.le_of_ble_eq_true rfl) ?_
  unfold X8_cost
  refine pm_aload_n dX8_cost_0 rfl rfl ?_
  refine pm_iload_n dX8_cost_1 rfl rfl ?_
  refine pm_iload_n dX8_cost_2 rfl rfl ?_
  refine pm_rcv (fun hb9 hc9 => ?_)
  refine pm_kV rfl (pm_V (y := zX8_cost) (z := zX8_mustBeWord) (As := [.int a1, .int a2]) zkX8_mustBeWord pm_q8 (by decide) tw_1143 tw_1145 tw_86 dX8_cost_3 rfl rfl (Nat.le_of_ble_eq_true rfl) hb9 hc9) (kcX8_mustBeWord hfl a0 a1 a2 m) (fun m1 => ?_)
  refine pm_aload_n dX8_cost_6 rfl rfl ?_
  refine pm_iload_n dX8_cost_7 rfl rfl ?_
  refine pm_iload_n dX8_cost_8 rfl rfl ?_
  refine pm_rcv (fun hb9 hc9 => ?_)
  refine pm_kV rfl (pm_V (y := zX8_cost) (z := zX8_mustBeWord) (As := [.int a1, .int a3]) zkX8_mustBeWord pm_q8 (by decide) tw_1143 tw_1145 tw_86 dX8_cost_9 rfl rfl (Nat.le_of_ble_eq_true rfl) hb9 hc9) (kcX8_mustBeWord hfl a0 a1 a3 m1) (fun m2 => ?_)
  refine pm_aload_n dX8_cost_12 rfl rfl ?_
  refine pm_iload_n dX8_cost_13 rfl rfl ?_
  refine pm_iload_n dX8_cost_14 rfl rfl ?_
  refine pm_icmp_gt (tgt := 22) dX8_cost_15 rfl ?_ ?_
  · refine pm_iconst (v := 0) dX8_cost_22 ki_0 ?_
    exact gX8_cost_j23 hfl a0 a1 a2 a3 0 a0 m2
  · refine pm_iconst (v := 1) dX8_cost_18 ki_1 ?_
    refine pm_goto (tgt := 23) dX8_cost_19 rfl ?_
    exact gX8_cost_j23 hfl a0 a1 a2 a3 1 a0 m2
-- StruckPage.would(IIIIIII)I
abbrev zX8_would : pmY := (⟨"StruckPage", "would", "(IIIIIII)I"⟩, cX8_would, 8, some .int, [])
def X8_would_j114 (l0 : Nat) (l1 : Int32) (l2 : Int32) (l3 : Int32) (l4 : Int32) (l5 : Int32) (l6 : Int32) (l7 : Int32) (t0 : Int32) (t1 : Nat) (m : pmM) : pmR := pm_rc 8 t1 m <| pm_cV (X8_must t1 t0 m) fun m4 => pm_gR 8 l0 3 m4 fun r5 => pm_rc 1 r5 m4 <| pm_cI (X1_priceFor r5 l1 l2 l3 l4 l5 l6 l7 m4) fun x7 m6 => pm_oI x7 m6
def X8_would_j113 (l0 : Nat) (l1 : Int32) (l2 : Int32) (l3 : Int32) (l4 : Int32) (l5 : Int32) (l6 : Int32) (l7 : Int32) (t0 : Nat) (m : pmM) : pmR := X8_would_j114 l0 l1 l2 l3 l4 l5 l6 l7 0 t0 m
def X8_would_j79 (l0 : Nat) (l1 : Int32) (l2 : Int32) (l3 : Int32) (l4 : Int32) (l5 : Int32) (l6 : Int32) (l7 : Int32) (t0 : Int32) (t1 : Nat) (m : pmM) : pmR := pm_rc 8 t1 m <| pm_cV (X8_must t1 t0 m) fun m3 => if l6 < 0 then (X8_would_j113 l0 l1 l2 l3 l4 l5 l6 l7 l0 m3) else (if (200 : Int32) < l6 then (X8_would_j113 l0 l1 l2 l3 l4 l5 l6 l7 l0 m3) else (if l7 < 0 then (X8_would_j113 l0 l1 l2 l3 l4 l5 l6 l7 l0 m3) else (if (999 : Int32) < l7 then (X8_would_j113 l0 l1 l2 l3 l4 l5 l6 l7 l0 m3) else (X8_would_j114 l0 l1 l2 l3 l4 l5 l6 l7 1 l0 m3))))
def X8_would_j78 (l0 : Nat) (l1 : Int32) (l2 : Int32) (l3 : Int32) (l4 : Int32) (l5 : Int32) (l6 : Int32) (l7 : Int32) (t0 : Nat) (m : pmM) : pmR := X8_would_j79 l0 l1 l2 l3 l4 l5 l6 l7 0 t0 m
def X8_would_j58 (l0 : Nat) (l1 : Int32) (l2 : Int32) (l3 : Int32) (l4 : Int32) (l5 : Int32) (l6 : Int32) (l7 : Int32) (t0 : Int32) (t1 : Nat) (m : pmM) : pmR := pm_rc 8 t1 m <| pm_cV (X8_must t1 t0 m) fun m2 => if l5 < 0 then (X8_would_j78 l0 l1 l2 l3 l4 l5 l6 l7 l0 m2) else (if (48 : Int32) < l5 then (X8_would_j78 l0 l1 l2 l3 l4 l5 l6 l7 l0 m2) else (X8_would_j79 l0 l1 l2 l3 l4 l5 l6 l7 1 l0 m2))
def X8_would_j57 (l0 : Nat) (l1 : Int32) (l2 : Int32) (l3 : Int32) (l4 : Int32) (l5 : Int32) (l6 : Int32) (l7 : Int32) (t0 : Nat) (m : pmM) : pmR := X8_would_j58 l0 l1 l2 l3 l4 l5 l6 l7 0 t0 m
def X8_would_j27 (l0 : Nat) (l1 : Int32) (l2 : Int32) (l3 : Int32) (l4 : Int32) (l5 : Int32) (l6 : Int32) (l7 : Int32) (t0 : Int32) (t1 : Nat) (m : pmM) : pmR := pm_rc 8 t1 m <| pm_cV (X8_must t1 t0 m) fun m1 => if l3 < 0 then (X8_would_j57 l0 l1 l2 l3 l4 l5 l6 l7 l0 m1) else (if (8 : Int32) ≤ l3 then (X8_would_j57 l0 l1 l2 l3 l4 l5 l6 l7 l0 m1) else (if l4 < 0 then (X8_would_j57 l0 l1 l2 l3 l4 l5 l6 l7 l0 m1) else (if (6 : Int32) ≤ l4 then (X8_would_j57 l0 l1 l2 l3 l4 l5 l6 l7 l0 m1) else (X8_would_j58 l0 l1 l2 l3 l4 l5 l6 l7 1 l0 m1))))
def X8_would_j26 (l0 : Nat) (l1 : Int32) (l2 : Int32) (l3 : Int32) (l4 : Int32) (l5 : Int32) (l6 : Int32) (l7 : Int32) (t0 : Nat) (m : pmM) : pmR := X8_would_j27 l0 l1 l2 l3 l4 l5 l6 l7 0 t0 m
def X8_would (a0 : Nat) (a1 : Int32) (a2 : Int32) (a3 : Int32) (a4 : Int32) (a5 : Int32) (a6 : Int32) (a7 : Int32) (m : pmM) : pmR := if a1 < 1 then (X8_would_j26 a0 a1 a2 a3 a4 a5 a6 a7 a0 m) else (if (8 : Int32) < a1 then (X8_would_j26 a0 a1 a2 a3 a4 a5 a6 a7 a0 m) else (if a2 < 0 then (X8_would_j26 a0 a1 a2 a3 a4 a5 a6 a7 a0 m) else (if (8 : Int32) < a2 then (X8_would_j26 a0 a1 a2 a3 a4 a5 a6 a7 a0 m) else (X8_would_j27 a0 a1 a2 a3 a4 a5 a6 a7 1 a0 m))))
theorem zkX8_would : pm_zOk zX8_would 7 := ⟨rfl, tw_1179, tw_158, by decide +kernel, by decide⟩
set_option maxRecDepth 100000 in
set_option maxHeartbeats 4000000 in
theorem gX8_would_j114 (hfl : l.flags = flags0) (l0 : Nat) (l1 : Int32) (l2 : Int32) (l3 : Int32) (l4 : Int32) (l5 : Int32) (l6 : Int32) (l7 : Int32) (t0 : Int32) (t1 : Nat) (m : pmM) : pm_G l Γ zX8_would (d + 3) 114 [.ref l0, .int l1, .int l2, .int l3, .int l4, .int l5, .int l6, .int l7] [.int t0, .ref t1] m (X8_would_j114 l0 l1 l2 l3 l4 l5 l6 l7 t0 t1 m) := by
  unfold X8_would_j114
  refine pm_rcv (fun hb9 hc9 => ?_)
  refine pm_kV rfl (pm_V (y := zX8_would) (z := zX8_must) (As := [.int t0]) zkX8_must pm_q8 (by decide) tw_687 tw_689 tw_30 dX8_would_114 rfl rfl (Nat.le_of_ble_eq_true rfl) hb9 hc9) (kcX8_must hfl t1 t0 m) (fun m4 => ?_)
  refine pm_aload_n dX8_would_117 rfl rfl ?_
  refine fg_8_3 (y := zX8_would) (Or.inl tw_443) dX8_would_118 (fun r5 => ?_)
  refine pm_iload_n dX8_would_121 rfl rfl ?_
  refine pm_iload_n dX8_would_122 rfl rfl ?_
  refine pm_iload_n dX8_would_123 rfl rfl ?_
  refine pm_iload dX8_would_124 rfl ?_
  refine pm_iload dX8_would_126 rfl ?_
  refine pm_iload dX8_would_128 rfl ?_
  refine pm_iload dX8_would_130 rfl ?_
  refine pm_rcv (fun hb9 hc9 => ?_)
  refine pm_kI rfl (pm_VN (y := zX8_would) (z := zX1_priceFor) (As := [.int l1, .int l2, .int l3, .int l4, .int l5, .int l6, .int l7]) zkX1_priceFor pm_q1 (by decide) tw_1180 tw_1018 tw_69 dX8_would_132 rfl rfl (Nat.le_of_ble_eq_true rfl) hb9 hc9) (kcX1_priceFor hfl r5 l1 l2 l3 l4 l5 l6 l7 m4) (fun x7 m6 => ?_)
  exact pm_iret rfl dX8_would_135
set_option maxRecDepth 100000 in
set_option maxHeartbeats 4000000 in
theorem gX8_would_j113 (hfl : l.flags = flags0) (l0 : Nat) (l1 : Int32) (l2 : Int32) (l3 : Int32) (l4 : Int32) (l5 : Int32) (l6 : Int32) (l7 : Int32) (t0 : Nat) (m : pmM) : pm_G l Γ zX8_would (d + 3) 113 [.ref l0, .int l1, .int l2, .int l3, .int l4, .int l5, .int l6, .int l7] [.ref t0] m (X8_would_j113 l0 l1 l2 l3 l4 l5 l6 l7 t0 m) := by
  unfold X8_would_j113
  refine pm_iconst (v := 0) dX8_would_113 ki_0 ?_
  exact gX8_would_j114 hfl l0 l1 l2 l3 l4 l5 l6 l7 0 t0 m
set_option maxRecDepth 100000 in
set_option maxHeartbeats 4000000 in
theorem gX8_would_j79 (hfl : l.flags = flags0) (l0 : Nat) (l1 : Int32) (l2 : Int32) (l3 : Int32) (l4 : Int32) (l5 : Int32) (l6 : Int32) (l7 : Int32) (t0 : Int32) (t1 : Nat) (m : pmM) : pm_G l Γ zX8_would (d + 3) 79 [.ref l0, .int l1, .int l2, .int l3, .int l4, .int l5, .int l6, .int l7] [.int t0, .ref t1] m (X8_would_j79 l0 l1 l2 l3 l4 l5 l6 l7 t0 t1 m) := by
  unfold X8_would_j79
  refine pm_rcv (fun hb9 hc9 => ?_)
  refine pm_kV rfl (pm_V (y := zX8_would) (z := zX8_must) (As := [.int t0]) zkX8_must pm_q8 (by decide) tw_687 tw_689 tw_30 dX8_would_79 rfl rfl (Nat.le_of_ble_eq_true rfl) hb9 hc9) (kcX8_must hfl t1 t0 m) (fun m3 => ?_)
  refine pm_aload_n dX8_would_82 rfl rfl ?_
  refine pm_iload dX8_would_83 rfl ?_
  refine pm_if_lt (tgt := 113) dX8_would_85 rfl ?_ ?_
  · exact gX8_would_j113 hfl l0 l1 l2 l3 l4 l5 l6 l7 l0 m3
  · refine pm_iload dX8_would_88 rfl ?_
    refine pm_sipush (v := 200) dX8_would_90 ks_200 ?_
    refine pm_icmp_gt (tgt := 113) dX8_would_93 rfl ?_ ?_
    · exact gX8_would_j113 hfl l0 l1 l2 l3 l4 l5 l6 l7 l0 m3
    · refine pm_iload dX8_would_96 rfl ?_
      refine pm_if_lt (tgt := 113) dX8_would_98 rfl ?_ ?_
      · exact gX8_would_j113 hfl l0 l1 l2 l3 l4 l5 l6 l7 l0 m3
      · refine pm_iload dX8_would_101 rfl ?_
        refine pm_sipush (v := 999) dX8_would_103 ks_999 ?_
        refine pm_icmp_gt (tgt := 113) dX8_would_106 rfl ?_ ?_
        · exact gX8_would_j113 hfl l0 l1 l2 l3 l4 l5 l6 l7 l0 m3
        · refine pm_iconst (v := 1) dX8_would_109 ki_1 ?_
          refine pm_goto (tgt := 114) dX8_would_110 rfl ?_
          exact gX8_would_j114 hfl l0 l1 l2 l3 l4 l5 l6 l7 1 l0 m3
set_option maxRecDepth 100000 in
set_option maxHeartbeats 4000000 in
theorem gX8_would_j78 (hfl : l.flags = flags0) (l0 : Nat) (l1 : Int32) (l2 : Int32) (l3 : Int32) (l4 : Int32) (l5 : Int32) (l6 : Int32) (l7 : Int32) (t0 : Nat) (m : pmM) : pm_G l Γ zX8_would (d + 3) 78 [.ref l0, .int l1, .int l2, .int l3, .int l4, .int l5, .int l6, .int l7] [.ref t0] m (X8_would_j78 l0 l1 l2 l3 l4 l5 l6 l7 t0 m) := by
  unfold X8_would_j78
  refine pm_iconst (v := 0) dX8_would_78 ki_0 ?_
  exact gX8_would_j79 hfl l0 l1 l2 l3 l4 l5 l6 l7 0 t0 m
set_option maxRecDepth 100000 in
set_option maxHeartbeats 4000000 in
theorem gX8_would_j58 (hfl : l.flags = flags0) (l0 : Nat) (l1 : Int32) (l2 : Int32) (l3 : Int32) (l4 : Int32) (l5 : Int32) (l6 : Int32) (l7 : Int32) (t0 : Int32) (t1 : Nat) (m : pmM) : pm_G l Γ zX8_would (d + 3) 58 [.ref l0, .int l1, .int l2, .int l3, .int l4, .int l5, .int l6, .int l7] [.int t0, .ref t1] m (X8_would_j58 l0 l1 l2 l3 l4 l5 l6 l7 t0 t1 m) := by
  unfold X8_would_j58
  refine pm_rcv (fun hb9 hc9 => ?_)
  refine pm_kV rfl (pm_V (y := zX8_would) (z := zX8_must) (As := [.int t0]) zkX8_must pm_q8 (by decide) tw_687 tw_689 tw_30 dX8_would_58 rfl rfl (Nat.le_of_ble_eq_true rfl) hb9 hc9) (kcX8_must hfl t1 t0 m) (fun m2 => ?_)
  refine pm_aload_n dX8_would_61 rfl rfl ?_
  refine pm_iload dX8_would_62 rfl ?_
  refine pm_if_lt (tgt := 78) dX8_would_64 rfl ?_ ?_
  · exact gX8_would_j78 hfl l0 l1 l2 l3 l4 l5 l6 l7 l0 m2
  · refine pm_iload dX8_would_67 rfl ?_
    refine pm_bipush (v := 48) dX8_would_69 kb_48 ?_
    refine pm_icmp_gt (tgt := 78) dX8_would_71 rfl ?_ ?_
    · exact gX8_would_j78 hfl l0 l1 l2 l3 l4 l5 l6 l7 l0 m2
    · refine pm_iconst (v := 1) dX8_would_74 ki_1 ?_
      refine pm_goto (tgt := 79) dX8_would_75 rfl ?_
      exact gX8_would_j79 hfl l0 l1 l2 l3 l4 l5 l6 l7 1 l0 m2
set_option maxRecDepth 100000 in
set_option maxHeartbeats 4000000 in
theorem gX8_would_j57 (hfl : l.flags = flags0) (l0 : Nat) (l1 : Int32) (l2 : Int32) (l3 : Int32) (l4 : Int32) (l5 : Int32) (l6 : Int32) (l7 : Int32) (t0 : Nat) (m : pmM) : pm_G l Γ zX8_would (d + 3) 57 [.ref l0, .int l1, .int l2, .int l3, .int l4, .int l5, .int l6, .int l7] [.ref t0] m (X8_would_j57 l0 l1 l2 l3 l4 l5 l6 l7 t0 m) := by
  unfold X8_would_j57
  refine pm_iconst (v := 0) dX8_would_57 ki_0 ?_
  exact gX8_would_j58 hfl l0 l1 l2 l3 l4 l5 l6 l7 0 t0 m
set_option maxRecDepth 100000 in
set_option maxHeartbeats 4000000 in
theorem gX8_would_j27 (hfl : l.flags = flags0) (l0 : Nat) (l1 : Int32) (l2 : Int32) (l3 : Int32) (l4 : Int32) (l5 : Int32) (l6 : Int32) (l7 : Int32) (t0 : Int32) (t1 : Nat) (m : pmM) : pm_G l Γ zX8_would (d + 3) 27 [.ref l0, .int l1, .int l2, .int l3, .int l4, .int l5, .int l6, .int l7] [.int t0, .ref t1] m (X8_would_j27 l0 l1 l2 l3 l4 l5 l6 l7 t0 t1 m) := by
  unfold X8_would_j27
  refine pm_rcv (fun hb9 hc9 => ?_)
  refine pm_kV rfl (pm_V (y := zX8_would) (z := zX8_must) (As := [.int t0]) zkX8_must pm_q8 (by decide) tw_687 tw_689 tw_30 dX8_would_27 rfl rfl (Nat.le_of_ble_eq_true rfl) hb9 hc9) (kcX8_must hfl t1 t0 m) (fun m1 => ?_)
  refine pm_aload_n dX8_would_30 rfl rfl ?_
  refine pm_iload_n dX8_would_31 rfl rfl ?_
  refine pm_if_lt (tgt := 57) dX8_would_32 rfl ?_ ?_
  · exact gX8_would_j57 hfl l0 l1 l2 l3 l4 l5 l6 l7 l0 m1
  · refine pm_iload_n dX8_would_35 rfl rfl ?_
    refine pm_bipush (v := 8) dX8_would_36 kb_8 ?_
    refine pm_icmp_ge (tgt := 57) dX8_would_38 rfl ?_ ?_
    · exact gX8_would_j57 hfl l0 l1 l2 l3 l4 l5 l6 l7 l0 m1
    · refine pm_iload dX8_would_41 rfl ?_
      refine pm_if_lt (tgt := 57) dX8_would_43 rfl ?_ ?_
      · exact gX8_would_j57 hfl l0 l1 l2 l3 l4 l5 l6 l7 l0 m1
      · refine pm_iload dX8_would_46 rfl ?_
        refine pm_bipush (v := 6) dX8_would_48 kb_6 ?_
        refine pm_icmp_ge (tgt := 57) dX8_would_50 rfl ?_ ?_
        · exact gX8_would_j57 hfl l0 l1 l2 l3 l4 l5 l6 l7 l0 m1
        · refine pm_iconst (v := 1) dX8_would_53 ki_1 ?_
          refine pm_goto (tgt := 58) dX8_would_54 rfl ?_
          exact gX8_would_j58 hfl l0 l1 l2 l3 l4 l5 l6 l7 1 l0 m1
set_option maxRecDepth 100000 in
set_option maxHeartbeats 4000000 in
theorem gX8_would_j26 (hfl : l.flags = flags0) (l0 : Nat) (l1 : Int32) (l2 : Int32) (l3 : Int32) (l4 : Int32) (l5 : Int32) (l6 : Int32) (l7 : Int32) (t0 : Nat) (m : pmM) : pm_G l Γ zX8_would (d + 3) 26 [.ref l0, .int l1, .int l2, .int l3, .int l4, .int l5, .int l6, .int l7] [.ref t0] m (X8_would_j26 l0 l1 l2 l3 l4 l5 l6 l7 t0 m) := by
  unfold X8_would_j26
  refine pm_iconst (v := 0) dX8_would_26 ki_0 ?_
  exact gX8_would_j27 hfl l0 l1 l2 l3 l4 l5 l6 l7 0 t0 m
set_option maxRecDepth 100000 in
set_option maxHeartbeats 4000000 in
theorem kcX8_would (hfl : l.flags = flags0) (a0 : Nat) (a1 : Int32) (a2 : Int32) (a3 : Int32) (a4 : Int32) (a5 : Int32) (a6 : Int32) (a7 : Int32) (m : pmM) : pm_C l Γ zX8_would (d + 3) [.ref a0, .int a1, .int a2, .int a3, .int a4, .int a5, .int a6, .int a7] m (X8_would a0 a1 a2 a3 a4 a5 a6 a7 m) := by
  refine pm_enter (ls := [.ref a0, .int a1, .int a2, .int a3, .int a4, .int a5, .int a6, .int a7]) hfl (by decide +kernel) rfl (Nat.le_of_ble_eq_true rfl) rfl (Nat.le_of_ble_eq_true rfl) ?_
  unfold X8_would
  refine pm_aload_n dX8_would_0 rfl rfl ?_
  refine pm_iload_n dX8_would_1 rfl rfl ?_
  refine pm_iconst (v := 1) dX8_would_2 ki_1 ?_
  refine pm_icmp_lt (tgt := 26) dX8_would_3 rfl ?_ ?_
  · exact gX8_would_j26 hfl a0 a1 a2 a3 a4 a5 a6 a7 a0 m
  · refine pm_iload_n dX8_would_6 rfl rfl ?_
    refine pm_bipush (v := 8) dX8_would_7 kb_8 ?_
    refine pm_icmp_gt (tgt := 26) dX8_would_9 rfl ?_ ?_
    · exact gX8_would_j26 hfl a0 a1 a2 a3 a4 a5 a6 a7 a0 m
    · refine pm_iload_n dX8_would_12 rfl rfl ?_
      refine pm_if_lt (tgt := 26) dX8_would_13 rfl ?_ ?_
      · exact gX8_would_j26 hfl a0 a1 a2 a3 a4 a5 a6 a7 a0 m
      · refine pm_iload_n dX8_would_16 rfl rfl ?_
        refine pm_bipush (v := 8) dX8_would_17 kb_8 ?_
        refine pm_icmp_gt (tgt := 26) dX8_would_19 rfl ?_ ?_
        · exact gX8_would_j26 hfl a0 a1 a2 a3 a4 a5 a6 a7 a0 m
        · refine pm_iconst (v := 1) dX8_would_22 ki_1 ?_
          refine pm_goto (tgt := 27) dX8_would_23 rfl ?_
          exact gX8_would_j27 hfl a0 a1 a2 a3 a4 a5 a6 a7 1 a0 m
-- StruckPage.ahead(II)I
abbrev zX8_ahead : pmY := (⟨"StruckPage", "ahead", "(II)I"⟩, cX8_ahead, 3, some .int, [])
def X8_ahead_j26 (l0 : Nat) (l1 : Int32) (l2 : Int32) (t0 : Int32) (t1 : Nat) (m : pmM) : pmR := pm_rc 8 t1 m <| pm_cV (X8_must t1 t0 m) fun m1 => pm_gR 8 l0 9 m1 fun r2 => pm_gR 8 l0 8 m1 fun r3 => pm_rc 0 r2 m1 <| pm_cV (X0_takeOver r2 r3 m1) fun m4 => pm_gR 8 l0 9 m4 fun r5 => pm_rc 0 r5 m4 <| pm_cV (X0_doDeeds r5 l1 m4) fun m6 => if l2 = (0 : Int32) then (pm_gR 8 l0 9 m6 fun r7 => pm_gI 0 r7 4 m6 fun x8 => pm_oI x8 m6) else if l2 = (1 : Int32) then (pm_gR 8 l0 9 m6 fun r9 => pm_rc 0 r9 m6 <| pm_cI (X0_inAllCells r9 m6) fun x11 m10 => pm_oI x11 m10) else (pm_gR 8 l0 9 m6 fun r12 => pm_rc 0 r12 m6 <| pm_cI (X0_leftInAll r12 m6) fun x14 m13 => pm_oI x14 m13)
def X8_ahead_j25 (l0 : Nat) (l1 : Int32) (l2 : Int32) (t0 : Nat) (m : pmM) : pmR := X8_ahead_j26 l0 l1 l2 0 t0 m
def X8_ahead (a0 : Nat) (a1 : Int32) (a2 : Int32) (m : pmM) : pmR := if a1 < 0 then (X8_ahead_j25 a0 a1 a2 a0 m) else (if (999 : Int32) < a1 then (X8_ahead_j25 a0 a1 a2 a0 m) else (if a2 < 0 then (X8_ahead_j25 a0 a1 a2 a0 m) else (if (2 : Int32) < a2 then (X8_ahead_j25 a0 a1 a2 a0 m) else (X8_ahead_j26 a0 a1 a2 1 a0 m))))
theorem zkX8_ahead : pm_zOk zX8_ahead 2 := ⟨rfl, tw_1187, tw_158, by decide +kernel, by decide⟩
set_option maxRecDepth 100000 in
set_option maxHeartbeats 4000000 in
theorem gX8_ahead_j26 (hfl : l.flags = flags0) (l0 : Nat) (l1 : Int32) (l2 : Int32) (t0 : Int32) (t1 : Nat) (m : pmM) : pm_G l Γ zX8_ahead (d + 6) 26 [.ref l0, .int l1, .int l2] [.int t0, .ref t1] m (X8_ahead_j26 l0 l1 l2 t0 t1 m) := by
  unfold X8_ahead_j26
  refine pm_rcv (fun hb9 hc9 => ?_)
  refine pm_kV rfl (pm_V (y := zX8_ahead) (z := zX8_must) (As := [.int t0]) zkX8_must pm_q8 (by decide) tw_687 tw_689 tw_30 dX8_ahead_26 rfl rfl (Nat.le_of_ble_eq_true rfl) hb9 hc9) (kcX8_must hfl t1 t0 m) (fun m1 => ?_)
  refine pm_aload_n dX8_ahead_29 rfl rfl ?_
  refine fg_8_9 (y := zX8_ahead) (Or.inl tw_449) dX8_ahead_30 (fun r2 => ?_)
  refine pm_aload_n dX8_ahead_33 rfl rfl ?_
  refine fg_8_8 (y := zX8_ahead) (Or.inl tw_448) dX8_ahead_34 (fun r3 => ?_)
  refine pm_rcv (fun hb9 hc9 => ?_)
  refine pm_kV rfl (pm_VN (y := zX8_ahead) (z := zX0_takeOver) (As := [.ref r3]) zkX0_takeOver pm_q0 (by decide) tw_557 tw_559 tw_8 dX8_ahead_37 rfl rfl (Nat.le_of_ble_eq_true rfl) hb9 hc9) (kcX0_takeOver hfl r2 r3 m1) (fun m4 => ?_)
  refine pm_aload_n dX8_ahead_40 rfl rfl ?_
  refine fg_8_9 (y := zX8_ahead) (Or.inl tw_449) dX8_ahead_41 (fun r5 => ?_)
  refine pm_iload_n dX8_ahead_44 rfl rfl ?_
  refine pm_rcv (fun hb9 hc9 => ?_)
  refine pm_kV rfl (pm_VN (y := zX8_ahead) (z := zX0_doDeeds) (As := [.int l1]) zkX0_doDeeds pm_q0 (by decide) tw_1188 tw_1035 tw_72 dX8_ahead_45 rfl rfl (Nat.le_of_ble_eq_true rfl) hb9 hc9) (kcX0_doDeeds hfl r5 l1 m4) (fun m6 => ?_)
  refine pm_iload_n dX8_ahead_48 rfl rfl ?_
  refine pm_case (c := (0 : Int32)) (fun h9 => ?_) (fun h9_0 => ?_)
  · refine pm_swL (off := (27)) (tgt := 76) dX8_ahead_49 (by decide) (by rw [h9]; decide) (by decide) ?_
    refine pm_aload_n dX8_ahead_76 rfl rfl ?_
    refine fg_8_9 (y := zX8_ahead) (Or.inl tw_449) dX8_ahead_77 (fun r7 => ?_)
    refine fg_0_4 (y := zX8_ahead) (Or.inr tw_366) dX8_ahead_80 (fun x8 => ?_)
    exact pm_iret rfl dX8_ahead_83
  refine pm_case (c := (1 : Int32)) (fun h9 => ?_) (fun h9_1 => ?_)
  · refine pm_swL (off := (35)) (tgt := 84) dX8_ahead_49 (by decide) (by rw [h9]; decide) (by decide) ?_
    refine pm_aload_n dX8_ahead_84 rfl rfl ?_
    refine fg_8_9 (y := zX8_ahead) (Or.inl tw_449) dX8_ahead_85 (fun r9 => ?_)
    refine pm_rcv (fun hb9 hc9 => ?_)
    refine pm_kI rfl (pm_VN (y := zX8_ahead) (z := zX0_inAllCells) (As := []) zkX0_inAllCells pm_q0 (by decide) tw_1087 tw_1089 tw_80 dX8_ahead_88 rfl rfl (Nat.le_of_ble_eq_true rfl) hb9 hc9) (kcX0_inAllCells hfl r9 m6) (fun x11 m10 => ?_)
    exact pm_iret rfl dX8_ahead_91
  refine pm_swL (tgt := 92) dX8_ahead_49 (by decide) (pm_lk2 l2 0 1 (pm_ne h9_0 (by decide)) (pm_ne h9_1 (by decide))) (by decide) ?_
  refine pm_aload_n dX8_ahead_92 rfl rfl ?_
  refine fg_8_9 (y := zX8_ahead) (Or.inl tw_449) dX8_ahead_93 (fun r12 => ?_)
  refine pm_rcv (fun hb9 hc9 => ?_)
  refine pm_kI rfl (pm_VN (y := zX8_ahead) (z := zX0_leftInAll) (As := []) zkX0_leftInAll pm_q0 (by decide) tw_1086 tw_616 tw_19 dX8_ahead_96 rfl rfl (Nat.le_of_ble_eq_true rfl) hb9 hc9) (kcX0_leftInAll hfl r12 m6) (fun x14 m13 => ?_)
  exact pm_iret rfl dX8_ahead_99
set_option maxRecDepth 100000 in
set_option maxHeartbeats 4000000 in
theorem gX8_ahead_j25 (hfl : l.flags = flags0) (l0 : Nat) (l1 : Int32) (l2 : Int32) (t0 : Nat) (m : pmM) : pm_G l Γ zX8_ahead (d + 6) 25 [.ref l0, .int l1, .int l2] [.ref t0] m (X8_ahead_j25 l0 l1 l2 t0 m) := by
  unfold X8_ahead_j25
  refine pm_iconst (v := 0) dX8_ahead_25 ki_0 ?_
  exact gX8_ahead_j26 hfl l0 l1 l2 0 t0 m
set_option maxRecDepth 100000 in
set_option maxHeartbeats 4000000 in
theorem kcX8_ahead (hfl : l.flags = flags0) (a0 : Nat) (a1 : Int32) (a2 : Int32) (m : pmM) : pm_C l Γ zX8_ahead (d + 6) [.ref a0, .int a1, .int a2] m (X8_ahead a0 a1 a2 m) := by
  refine pm_enter (ls := [.ref a0, .int a1, .int a2]) hfl (by decide +kernel) rfl (Nat.le_of_ble_eq_true rfl) rfl (Nat.le_of_ble_eq_true rfl) ?_
  unfold X8_ahead
  refine pm_aload_n dX8_ahead_0 rfl rfl ?_
  refine pm_iload_n dX8_ahead_1 rfl rfl ?_
  refine pm_if_lt (tgt := 25) dX8_ahead_2 rfl ?_ ?_
  · exact gX8_ahead_j25 hfl a0 a1 a2 a0 m
  · refine pm_iload_n dX8_ahead_5 rfl rfl ?_
    refine pm_sipush (v := 999) dX8_ahead_6 ks_999 ?_
    refine pm_icmp_gt (tgt := 25) dX8_ahead_9 rfl ?_ ?_
    · exact gX8_ahead_j25 hfl a0 a1 a2 a0 m
    · refine pm_iload_n dX8_ahead_12 rfl rfl ?_
      refine pm_if_lt (tgt := 25) dX8_ahead_13 rfl ?_ ?_
      · exact gX8_ahead_j25 hfl a0 a1 a2 a0 m
      · refine pm_iload_n dX8_ahead_16 rfl rfl ?_
        refine pm_iconst (v := 2) dX8_ahead_17 ki_2 ?_
        refine pm_icmp_gt (tgt := 25) dX8_ahead_18 rfl ?_ ?_
        · exact gX8_ahead_j25 hfl a0 a1 a2 a0 m
        · refine pm_iconst (v := 1) dX8_ahead_21 ki_1 ?_
          refine pm_goto (tgt := 26) dX8_ahead_22 rfl ?_
          exact gX8_ahead_j26 hfl a0 a1 a2 1 a0 m
-- StruckPage.ends()I
abbrev zX8_ends : pmY := (⟨"StruckPage", "ends", "()I"⟩, cX8_ends, 2, some .int, [])
def X8_ends_L13 (l0 : Nat) (again13 : (Int32 × pmM) → pmR) (s13 : Int32 × pmM) : pmR := if (999 : Int32) < s13.1 then (pm_oI (-1) s13.2) else (pm_gR 8 l0 9 s13.2 fun r4 => pm_rc 0 r4 s13.2 <| pm_cI (X0_doDeed r4 s13.2) fun x6 m5 => if x6 = 0 then (pm_oI s13.1 m5) else (pm_bI (s13.1 + 1) fun x7 => again13 (x7, m5)))
def X8_ends (a0 : Nat) (m : pmM) : pmR := pm_gR 8 a0 9 m fun r1 => pm_gR 8 a0 8 m fun r2 => pm_rc 0 r1 m <| pm_cV (X0_takeOver r1 r2 m) fun m3 => pm_lp pm_N (X8_ends_L13 a0) (0, m3)
theorem zkX8_ends : pm_zOk zX8_ends 0 := ⟨rfl, tw_556, tw_158, by decide +kernel, by decide⟩
set_option maxRecDepth 100000 in
set_option maxHeartbeats 4000000 in
theorem gX8_ends_L13 (hfl : l.flags = flags0) (l0 : Nat) : ∀ (n : Nat) (s : Int32 × pmM), pm_G l Γ zX8_ends (d + 5) 13 [.ref l0, .int s.1] [] s.2 (pm_lp n (X8_ends_L13 l0) s) :=
  pm_loop (lsf := fun s : Int32 × pmM => [.ref l0, .int s.1]) (mf := fun s : Int32 × pmM => s.2) (fun again13 hag13 s13 => by
    unfold X8_ends_L13
    refine pm_iload_n dX8_ends_13 rfl rfl ?_
    refine pm_sipush (v := 999) dX8_ends_14 ks_999 ?_
    refine pm_icmp_gt (tgt := 38) dX8_ends_17 rfl ?_ ?_
    · refine pm_iconst (v := (-1)) dX8_ends_38 ki_n1 ?_
      exact pm_iret rfl dX8_ends_39
    · refine pm_aload_n dX8_ends_20 rfl rfl ?_
      refine fg_8_9 (y := zX8_ends) (Or.inl tw_449) dX8_ends_21 (fun r4 => ?_)
      refine pm_rcv (fun hb9 hc9 => ?_)
      refine pm_kI rfl (pm_VN (y := zX8_ends) (z := zX0_doDeed) (As := []) zkX0_doDeed pm_q0 (by decide) tw_561 tw_563 tw_9 dX8_ends_24 rfl rfl (Nat.le_of_ble_eq_true rfl) hb9 hc9) (kcX0_doDeed hfl r4 s13.2) (fun x6 m5 => ?_)
      refine pm_if_ne (tgt := 32) dX8_ends_27 rfl ?_ ?_
      · refine pm_iincn (y := zX8_ends) dX8_ends_32 rfl ki_1 rfl (Nat.le_of_ble_eq_true rfl) (fun x7 => ?_)
        refine pm_eqls (ls2 := [.ref l0, .int x7]) rfl ?_
        refine pm_goto (tgt := 13) dX8_ends_35 rfl ?_
        exact hag13 (x7, m5)
      · refine pm_iload_n dX8_ends_30 rfl rfl ?_
        exact pm_iret rfl dX8_ends_31)
set_option maxRecDepth 100000 in
set_option maxHeartbeats 4000000 in
theorem kcX8_ends (hfl : l.flags = flags0) (a0 : Nat) (m : pmM) : pm_C l Γ zX8_ends (d + 5) [.ref a0] m (X8_ends a0 m) := by
  refine pm_enter (ls := [.ref a0, pmU]) hfl (by decide +kernel) rfl (Nat.le_of_ble_eq_true rfl) rfl (Nat.le_of_ble_eq_true rfl) ?_
  unfold X8_ends
  refine pm_aload_n dX8_ends_0 rfl rfl ?_
  refine fg_8_9 (y := zX8_ends) (Or.inl tw_449) dX8_ends_1 (fun r1 => ?_)
  refine pm_aload_n dX8_ends_4 rfl rfl ?_
  refine fg_8_8 (y := zX8_ends) (Or.inl tw_448) dX8_ends_5 (fun r2 => ?_)
  refine pm_rcv (fun hb9 hc9 => ?_)
  refine pm_kV rfl (pm_VN (y := zX8_ends) (z := zX0_takeOver) (As := [.ref r2]) zkX0_takeOver pm_q0 (by decide) tw_557 tw_559 tw_8 dX8_ends_8 rfl rfl (Nat.le_of_ble_eq_true rfl) hb9 hc9) (kcX0_takeOver hfl r1 r2 m) (fun m3 => ?_)
  refine pm_iconst (v := 0) dX8_ends_11 ki_0 ?_
  refine pm_istore_n (ls2 := [.ref a0, .int 0]) dX8_ends_12 rfl rfl (Nat.le_of_ble_eq_true rfl) rfl ?_
  exact gX8_ends_L13 hfl a0 pm_N (0, m3)
-- StruckPage.says()Z
abbrev zX8_says : pmY := (⟨"StruckPage", "says", "()Z"⟩, cX8_says, 1, some .boolean, [])
def X8_says (a0 : Nat) (m : pmM) : pmR := pm_gR 8 a0 8 m fun r1 => pm_gR 8 a0 5 m fun r2 => pm_rc 0 r1 m <| pm_cI (X0_speaks r1 r2 m) fun x4 m3 => pm_oI (vp_nar .boolean x4) m3
theorem zkX8_says : pm_zOk zX8_says 0 := ⟨rfl, tw_609, tw_158, by decide +kernel, by decide⟩
set_option maxRecDepth 100000 in
set_option maxHeartbeats 4000000 in
theorem kcX8_says (hfl : l.flags = flags0) (a0 : Nat) (m : pmM) : pm_C l Γ zX8_says (d + 4) [.ref a0] m (X8_says a0 m) := by
  refine pm_enter (ls := [.ref a0]) hfl (by decide +kernel) rfl (Nat.le_of_ble_eq_true rfl) rfl (Nat.le_of_ble_eq_true rfl) ?_
  unfold X8_says
  refine pm_aload_n dX8_says_0 rfl rfl ?_
  refine fg_8_8 (y := zX8_says) (Or.inl tw_448) dX8_says_1 (fun r1 => ?_)
  refine pm_aload_n dX8_says_4 rfl rfl ?_
  refine fg_8_5 (y := zX8_says) (Or.inl tw_445) dX8_says_5 (fun r2 => ?_)
  refine pm_rcv (fun hb9 hc9 => ?_)
  refine pm_kI rfl (pm_VN (y := zX8_says) (z := zX0_speaks) (As := [.ref r2]) zkX0_speaks pm_q0 (by decide) tw_610 tw_612 tw_18 dX8_says_8 rfl rfl (Nat.le_of_ble_eq_true rfl) hb9 hc9) (kcX0_speaks hfl r1 r2 m) (fun x4 m3 => ?_)
  exact pm_nret (ty := .boolean) (w := vp_nar .boolean x4) rfl (by decide) rfl dX8_says_11
-- StruckPage.ways()J
abbrev zX8_ways : pmY := (⟨"StruckPage", "ways", "()J"⟩, cX8_ways, 1, some .long, [])
def X8_ways (a0 : Nat) (m : pmM) : pmR := pm_gR 8 a0 11 m fun r1 => pm_gR 8 a0 5 m fun r2 => pm_rc 4 r1 m <| pm_cL (X4_waysTo r1 r2 m) fun x4 m3 => pm_oL x4 m3
theorem zkX8_ways : pm_zOk zX8_ways 0 := ⟨rfl, tw_621, tw_158, by decide +kernel, by decide⟩
set_option maxRecDepth 100000 in
set_option maxHeartbeats 4000000 in
theorem kcX8_ways (hfl : l.flags = flags0) (a0 : Nat) (m : pmM) : pm_C l Γ zX8_ways (d + 4) [.ref a0] m (X8_ways a0 m) := by
  refine pm_enter (ls := [.ref a0]) hfl (by decide +kernel) rfl (Nat.le_of_ble_eq_true rfl) rfl (Nat.le_of_ble_eq_true rfl) ?_
  unfold X8_ways
  refine pm_aload_n dX8_ways_0 rfl rfl ?_
  refine fg_8_11 (y := zX8_ways) (Or.inl tw_451) dX8_ways_1 (fun r1 => ?_)
  refine pm_aload_n dX8_ways_4 rfl rfl ?_
  refine fg_8_5 (y := zX8_ways) (Or.inl tw_445) dX8_ways_5 (fun r2 => ?_)
  refine pm_rcv (fun hb9 hc9 => ?_)
  refine pm_kL rfl (pm_VN (y := zX8_ways) (z := zX4_waysTo) (As := [.ref r2]) zkX4_waysTo pm_q4 (by decide) tw_622 tw_624 tw_20 dX8_ways_8 rfl rfl (Nat.le_of_ble_eq_true rfl) hb9 hc9) (kcX4_waysTo hfl r1 r2 m) (fun x4 m3 => ?_)
  exact pm_lret rfl dX8_ways_11
-- StruckPage.strokes()I
abbrev zX8_strokes : pmY := (⟨"StruckPage", "strokes", "()I"⟩, cX8_strokes, 1, some .int, [])
def X8_strokes (a0 : Nat) (m : pmM) : pmR := pm_gR 8 a0 11 m fun r1 => pm_gR 8 a0 8 m fun r2 => pm_gR 8 a0 5 m fun r3 => pm_rc 4 r1 m <| pm_cV (X4_seekFewest r1 r2 r3 m) fun m4 => pm_gR 8 a0 11 m4 fun r5 => pm_gR 8 a0 5 m4 fun r6 => pm_gI 3 r6 1 m4 fun x7 => pm_rc 4 r5 m4 <| pm_cI (X4_foundFewest r5 x7 m4) fun x9 m8 => pm_oI x9 m8
theorem zkX8_strokes : pm_zOk zX8_strokes 0 := ⟨rfl, tw_634, tw_158, by decide +kernel, by decide⟩
set_option maxRecDepth 100000 in
set_option maxHeartbeats 4000000 in
theorem kcX8_strokes (hfl : l.flags = flags0) (a0 : Nat) (m : pmM) : pm_C l Γ zX8_strokes (d + 4) [.ref a0] m (X8_strokes a0 m) := by
  refine pm_enter (ls := [.ref a0]) hfl (by decide +kernel) rfl (Nat.le_of_ble_eq_true rfl) rfl (Nat.le_of_ble_eq_true rfl) ?_
  unfold X8_strokes
  refine pm_aload_n dX8_strokes_0 rfl rfl ?_
  refine fg_8_11 (y := zX8_strokes) (Or.inl tw_451) dX8_strokes_1 (fun r1 => ?_)
  refine pm_aload_n dX8_strokes_4 rfl rfl ?_
  refine fg_8_8 (y := zX8_strokes) (Or.inl tw_448) dX8_strokes_5 (fun r2 => ?_)
  refine pm_aload_n dX8_strokes_8 rfl rfl ?_
  refine fg_8_5 (y := zX8_strokes) (Or.inl tw_445) dX8_strokes_9 (fun r3 => ?_)
  refine pm_rcv (fun hb9 hc9 => ?_)
  refine pm_kV rfl (pm_VN (y := zX8_strokes) (z := zX4_seekFewest) (As := [.ref r2, .ref r3]) zkX4_seekFewest pm_q4 (by decide) tw_635 tw_637 tw_22 dX8_strokes_12 rfl rfl (Nat.le_of_ble_eq_true rfl) hb9 hc9) (kcX4_seekFewest hfl r1 r2 r3 m) (fun m4 => ?_)
  refine pm_aload_n dX8_strokes_15 rfl rfl ?_
  refine fg_8_11 (y := zX8_strokes) (Or.inl tw_451) dX8_strokes_16 (fun r5 => ?_)
  refine pm_aload_n dX8_strokes_19 rfl rfl ?_
  refine fg_8_5 (y := zX8_strokes) (Or.inl tw_445) dX8_strokes_20 (fun r6 => ?_)
  refine fg_3_1 (y := zX8_strokes) (Or.inr tw_307) dX8_strokes_23 (fun x7 => ?_)
  refine pm_rcv (fun hb9 hc9 => ?_)
  refine pm_kI rfl (pm_VN (y := zX8_strokes) (z := zX4_foundFewest) (As := [.int x7]) zkX4_foundFewest pm_q4 (by decide) tw_655 tw_657 tw_27 dX8_strokes_26 rfl rfl (Nat.le_of_ble_eq_true rfl) hb9 hc9) (kcX4_foundFewest hfl r5 x7 m4) (fun x9 m8 => ?_)
  exact pm_iret rfl dX8_strokes_29
-- StruckPage.best()J
abbrev zX8_best : pmY := (⟨"StruckPage", "best", "()J"⟩, cX8_best, 1, some .long, [])
def X8_best (a0 : Nat) (m : pmM) : pmR := pm_gR 8 a0 11 m fun r1 => pm_gR 8 a0 8 m fun r2 => pm_gR 8 a0 5 m fun r3 => pm_rc 4 r1 m <| pm_cV (X4_seekFewest r1 r2 r3 m) fun m4 => pm_gR 8 a0 11 m4 fun r5 => pm_gR 8 a0 5 m4 fun r6 => pm_gI 3 r6 1 m4 fun x7 => pm_rc 4 r5 m4 <| pm_cL (X4_foundMany r5 x7 m4) fun x9 m8 => pm_oL x9 m8
theorem zkX8_best : pm_zOk zX8_best 0 := ⟨rfl, tw_662, tw_158, by decide +kernel, by decide⟩
set_option maxRecDepth 100000 in
set_option maxHeartbeats 4000000 in
theorem kcX8_best (hfl : l.flags = flags0) (a0 : Nat) (m : pmM) : pm_C l Γ zX8_best (d + 4) [.ref a0] m (X8_best a0 m) := by
  refine pm_enter (ls := [.ref a0]) hfl (by decide +kernel) rfl (Nat.le_of_ble_eq_true rfl) rfl (Nat.le_of_ble_eq_true rfl) ?_
  unfold X8_best
  refine pm_aload_n dX8_best_0 rfl rfl ?_
  refine fg_8_11 (y := zX8_best) (Or.inl tw_451) dX8_best_1 (fun r1 => ?_)
  refine pm_aload_n dX8_best_4 rfl rfl ?_
  refine fg_8_8 (y := zX8_best) (Or.inl tw_448) dX8_best_5 (fun r2 => ?_)
  refine pm_aload_n dX8_best_8 rfl rfl ?_
  refine fg_8_5 (y := zX8_best) (Or.inl tw_445) dX8_best_9 (fun r3 => ?_)
  refine pm_rcv (fun hb9 hc9 => ?_)
  refine pm_kV rfl (pm_VN (y := zX8_best) (z := zX4_seekFewest) (As := [.ref r2, .ref r3]) zkX4_seekFewest pm_q4 (by decide) tw_635 tw_637 tw_22 dX8_best_12 rfl rfl (Nat.le_of_ble_eq_true rfl) hb9 hc9) (kcX4_seekFewest hfl r1 r2 r3 m) (fun m4 => ?_)
  refine pm_aload_n dX8_best_15 rfl rfl ?_
  refine fg_8_11 (y := zX8_best) (Or.inl tw_451) dX8_best_16 (fun r5 => ?_)
  refine pm_aload_n dX8_best_19 rfl rfl ?_
  refine fg_8_5 (y := zX8_best) (Or.inl tw_445) dX8_best_20 (fun r6 => ?_)
  refine fg_3_1 (y := zX8_best) (Or.inr tw_307) dX8_best_23 (fun x7 => ?_)
  refine pm_rcv (fun hb9 hc9 => ?_)
  refine pm_kL rfl (pm_VN (y := zX8_best) (z := zX4_foundMany) (As := [.int x7]) zkX4_foundMany pm_q4 (by decide) tw_663 tw_665 tw_28 dX8_best_26 rfl rfl (Nat.le_of_ble_eq_true rfl) hb9 hc9) (kcX4_foundMany hfl r5 x7 m4) (fun x9 m8 => ?_)
  exact pm_lret rfl dX8_best_29
-- StruckPage.unlike(I)J
abbrev zX8_unlike : pmY := (⟨"StruckPage", "unlike", "(I)J"⟩, cX8_unlike, 2, some .long, [])
def X8_unlike_j16 (l0 : Nat) (l1 : Int32) (t0 : Int32) (t1 : Nat) (m : pmM) : pmR := pm_rc 8 t1 m <| pm_cV (X8_must t1 t0 m) fun m1 => pm_gR 8 l0 11 m1 fun r2 => pm_rc 4 r2 m1 <| pm_cL (X4_unlikeRows r2 l1 m1) fun x4 m3 => pm_oL x4 m3
def X8_unlike_j15 (l0 : Nat) (l1 : Int32) (t0 : Nat) (m : pmM) : pmR := X8_unlike_j16 l0 l1 0 t0 m
def X8_unlike (a0 : Nat) (a1 : Int32) (m : pmM) : pmR := if a1 < 0 then (X8_unlike_j15 a0 a1 a0 m) else (if (12 : Int32) < a1 then (X8_unlike_j15 a0 a1 a0 m) else (X8_unlike_j16 a0 a1 1 a0 m))
theorem zkX8_unlike : pm_zOk zX8_unlike 1 := ⟨rfl, tw_1195, tw_158, by decide +kernel, by decide⟩
set_option maxRecDepth 100000 in
set_option maxHeartbeats 4000000 in
theorem gX8_unlike_j16 (hfl : l.flags = flags0) (l0 : Nat) (l1 : Int32) (t0 : Int32) (t1 : Nat) (m : pmM) : pm_G l Γ zX8_unlike (d + 4) 16 [.ref l0, .int l1] [.int t0, .ref t1] m (X8_unlike_j16 l0 l1 t0 t1 m) := by
  unfold X8_unlike_j16
  refine pm_rcv (fun hb9 hc9 => ?_)
  refine pm_kV rfl (pm_V (y := zX8_unlike) (z := zX8_must) (As := [.int t0]) zkX8_must pm_q8 (by decide) tw_687 tw_689 tw_30 dX8_unlike_16 rfl rfl (Nat.le_of_ble_eq_true rfl) hb9 hc9) (kcX8_must hfl t1 t0 m) (fun m1 => ?_)
  refine pm_aload_n dX8_unlike_19 rfl rfl ?_
  refine fg_8_11 (y := zX8_unlike) (Or.inl tw_451) dX8_unlike_20 (fun r2 => ?_)
  refine pm_iload_n dX8_unlike_23 rfl rfl ?_
  refine pm_rcv (fun hb9 hc9 => ?_)
  refine pm_kL rfl (pm_VN (y := zX8_unlike) (z := zX4_unlikeRows) (As := [.int l1]) zkX4_unlikeRows pm_q4 (by decide) tw_1196 tw_1198 tw_87 dX8_unlike_24 rfl rfl (Nat.le_of_ble_eq_true rfl) hb9 hc9) (kcX4_unlikeRows hfl r2 l1 m1) (fun x4 m3 => ?_)
  exact pm_lret rfl dX8_unlike_27
set_option maxRecDepth 100000 in
set_option maxHeartbeats 4000000 in
theorem gX8_unlike_j15 (hfl : l.flags = flags0) (l0 : Nat) (l1 : Int32) (t0 : Nat) (m : pmM) : pm_G l Γ zX8_unlike (d + 4) 15 [.ref l0, .int l1] [.ref t0] m (X8_unlike_j15 l0 l1 t0 m) := by
  unfold X8_unlike_j15
  refine pm_iconst (v := 0) dX8_unlike_15 ki_0 ?_
  exact gX8_unlike_j16 hfl l0 l1 0 t0 m
set_option maxRecDepth 100000 in
set_option maxHeartbeats 4000000 in
theorem kcX8_unlike (hfl : l.flags = flags0) (a0 : Nat) (a1 : Int32) (m : pmM) : pm_C l Γ zX8_unlike (d + 4) [.ref a0, .int a1] m (X8_unlike a0 a1 m) := by
  refine pm_enter (ls := [.ref a0, .int a1]) hfl (by decide +kernel) rfl (Nat.le_of_ble_eq_true rfl) rfl (Nat.le_of_ble_eq_true rfl) ?_
  unfold X8_unlike
  refine pm_aload_n dX8_unlike_0 rfl rfl ?_
  refine pm_iload_n dX8_unlike_1 rfl rfl ?_
  refine pm_if_lt (tgt := 15) dX8_unlike_2 rfl ?_ ?_
  · exact gX8_unlike_j15 hfl a0 a1 a0 m
  · refine pm_iload_n dX8_unlike_5 rfl rfl ?_
    refine pm_bipush (v := 12) dX8_unlike_6 kb_12 ?_
    refine pm_icmp_gt (tgt := 15) dX8_unlike_8 rfl ?_ ?_
    · exact gX8_unlike_j15 hfl a0 a1 a0 m
    · refine pm_iconst (v := 1) dX8_unlike_11 ki_1 ?_
      refine pm_goto (tgt := 16) dX8_unlike_12 rfl ?_
      exact gX8_unlike_j16 hfl a0 a1 1 a0 m
end GEN11
