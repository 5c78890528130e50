section GEN12
variable {l : Launch} {Γ : pmG} {d : Nat}
-- StruckPage.named(III)I
abbrev zX8_named : pmY := (⟨"StruckPage", "named", "(III)I"⟩, cX8_named, 3, some .int, [])
def X8_named (a0 : Int32) (a1 : Int32) (a2 : Int32) (m : pmM) : pmR := pm_oI ((((100 : Int32) * a0) + ((10 : Int32) * a1)) + a2) m
theorem zkX8_named : pm_zOk zX8_named 3 := ⟨rfl, tw_1219, tw_158, by decide +kernel, by decide⟩
set_option maxRecDepth 100000 in
set_option maxHeartbeats 4000000 in
theorem kcX8_named (hfl : l.flags = flags0) (a0 : Int32) (a1 : Int32) (a2 : Int32) (m : pmM) : pm_C l Γ zX8_named (d + 0) [.int a0, .int a1, .int a2] m (X8_named a0 a1 a2 m) := by
  refine pm_enter (ls := [.int a0, .int a1, .int a2]) hfl (by decide +kernel) rfl (Nat.le_of_ble_eq_true rfl) rfl (Nat.le_of_ble_eq_true rfl) ?_
  unfold X8_named
  refine pm_bipush (v := 100) dX8_named_0 kb_100 ?_
  refine pm_iload_n dX8_named_2 rfl rfl ?_
  refine pm_imul dX8_named_3 ?_
  refine pm_bipush (v := 10) dX8_named_4 kb_10 ?_
  refine pm_iload_n dX8_named_6 rfl rfl ?_
  refine pm_imul dX8_named_7 ?_
  refine pm_iadd dX8_named_8 ?_
  refine pm_iload_n dX8_named_9 rfl rfl ?_
  refine pm_iadd dX8_named_10 ?_
  exact pm_iret rfl dX8_named_11
-- StruckPage.forged(I)I
abbrev zX8_forged : pmY := (⟨"StruckPage", "forged", "(I)I"⟩, cX8_forged, 7, some .int, [])
def X8_forged_j156 (t0 : Int32) (m : pmM) : pmR := pm_oI t0 m
def X8_forged_j129 (again36 : (Int32 × Int32 × Int32 × pmM) → pmR) (again51 : (Int32 × Int32 × Int32 × pmM) → pmR) (again70 : (Int32 × Int32 × Int32 × pmM) → pmR) (l0 : Nat) (l1 : Int32) (l2 : Int32) (l3 : Int32) (l4 : Int32) (l5 : Int32) (l6 : Int32) (m : pmM) : pmR := pm_bI (l6 + 1) fun x21 => again70 (l2, l3, x21, m)
def X8_forged_j125 (again36 : (Int32 × Int32 × Int32 × pmM) → pmR) (again51 : (Int32 × Int32 × Int32 × pmM) → pmR) (again70 : (Int32 × Int32 × Int32 × pmM) → pmR) (l0 : Nat) (l1 : Int32) (l2 : Int32) (l4 : Int32) (l5 : Int32) (l6 : Int32) (t0 : Int32) (m : pmM) : pmR := pm_bI (l2 + 1) fun x22 => X8_forged_j129 again36 again51 again70 l0 l1 x22 t0 l4 l5 l6 m
def X8_forged_L70 (again36 : (Int32 × Int32 × Int32 × pmM) → pmR) (again51 : (Int32 × Int32 × Int32 × pmM) → pmR) (l0 : Nat) (l1 : Int32) (l4 : Int32) (l5 : Int32) (again70 : (Int32 × Int32 × Int32 × pmM) → pmR) (s70 : Int32 × Int32 × Int32 × pmM) : pmR := pm_gR 8 l0 1 s70.2.2.2 fun r11 => pm_gR 2 r11 0 s70.2.2.2 fun r12 => pm_ld 100 r12 l4 s70.2.2.2 fun x13 => if x13 ≤ s70.2.2.1 then (pm_bI (l5 + 1) fun x14 => again51 (s70.1, s70.2.1, x14, s70.2.2.2)) else (pm_gR 8 l0 9 s70.2.2.2 fun r15 => pm_gR 8 l0 5 s70.2.2.2 fun r16 => pm_cI (X8_bitsOf l5 s70.2.2.1 s70.2.2.2) fun x18 m17 => pm_rc 0 r15 m17 <| pm_cI (X0_speaksBehind r15 r16 l4 x18 m17) fun x20 m19 => if x20 = 0 then (X8_forged_j129 again36 again51 again70 l0 l1 s70.1 s70.2.1 l4 l5 s70.2.2.1 m19) else (if s70.1 = 0 then (pm_cI (X8_named l4 l5 s70.2.2.1 m19) fun x24 m23 => X8_forged_j125 again36 again51 again70 l0 l1 s70.1 l4 l5 s70.2.2.1 x24 m23) else (X8_forged_j125 again36 again51 again70 l0 l1 s70.1 l4 l5 s70.2.2.1 s70.2.1 m19)))
def X8_forged_L51 (again36 : (Int32 × Int32 × Int32 × pmM) → pmR) (l0 : Nat) (l1 : Int32) (l4 : Int32) (again51 : (Int32 × Int32 × Int32 × pmM) → pmR) (s51 : Int32 × Int32 × Int32 × pmM) : pmR := pm_gR 8 l0 1 s51.2.2.2 fun r7 => pm_gR 2 r7 0 s51.2.2.2 fun r8 => pm_ld 100 r8 l4 s51.2.2.2 fun x9 => if x9 ≤ s51.2.2.1 then (pm_bI (l4 + 1) fun x10 => again36 (s51.1, s51.2.1, x10, s51.2.2.2)) else (pm_lp pm_N (X8_forged_L70 again36 again51 l0 l1 l4 s51.2.2.1) (s51.1, s51.2.1, s51.2.2.1, s51.2.2.2))
def X8_forged_L36 (l0 : Nat) (l1 : Int32) (again36 : (Int32 × Int32 × Int32 × pmM) → pmR) (s36 : Int32 × Int32 × Int32 × pmM) : pmR := pm_gR 8 l0 1 s36.2.2.2 fun r5 => pm_gI 2 r5 3 s36.2.2.2 fun x6 => if x6 ≤ s36.2.2.1 then (if l1 = 0 then (X8_forged_j156 s36.1 s36.2.2.2) else (X8_forged_j156 s36.2.1 s36.2.2.2)) else (pm_lp pm_N (X8_forged_L51 again36 l0 l1 s36.2.2.1) (s36.1, s36.2.1, 0, s36.2.2.2))
def X8_forged_j15 (l0 : Nat) (l1 : Int32) (t0 : Int32) (t1 : Nat) (m : pmM) : pmR := pm_rc 8 t1 m <| pm_cV (X8_must t1 t0 m) fun m1 => pm_gR 8 l0 9 m1 fun r2 => pm_gR 8 l0 8 m1 fun r3 => pm_rc 0 r2 m1 <| pm_cV (X0_takeOver r2 r3 m1) fun m4 => pm_lp pm_N (X8_forged_L36 l0 l1) (0, (-1), 0, m4)
def X8_forged_j10 (l0 : Nat) (l1 : Int32) (t0 : Nat) (m : pmM) : pmR := X8_forged_j15 l0 l1 1 t0 m
def X8_forged (a0 : Nat) (a1 : Int32) (m : pmM) : pmR := if a1 = 0 then (X8_forged_j10 a0 a1 a0 m) else (if a1 = 1 then (X8_forged_j10 a0 a1 a0 m) else (X8_forged_j15 a0 a1 0 a0 m))
theorem zkX8_forged : pm_zOk zX8_forged 1 := ⟨rfl, tw_1210, tw_158, by decide +kernel, by decide⟩
set_option maxRecDepth 100000 in
set_option maxHeartbeats 4000000 in
theorem gX8_forged_j156 (hfl : l.flags = flags0) (t0 : Int32) (m : pmM) : pm_G l Γ zX8_forged (d + 5) 156 [pmU, pmU, pmU, pmU, pmU, pmU, pmU] [.int t0] m (X8_forged_j156 t0 m) := by
  unfold X8_forged_j156
  exact pm_iret rfl dX8_forged_156
set_option maxRecDepth 100000 in
set_option maxHeartbeats 4000000 in
theorem gX8_forged_j129 (hfl : l.flags = flags0) (again36 : (Int32 × Int32 × Int32 × pmM) → pmR) (again51 : (Int32 × Int32 × Int32 × pmM) → pmR) (again70 : (Int32 × Int32 × Int32 × pmM) → pmR) (l0 : Nat) (l1 : Int32) (l2 : Int32) (l3 : Int32) (l4 : Int32) (l5 : Int32) (l6 : Int32) (m : pmM) (hag36 : ∀ s : Int32 × Int32 × Int32 × pmM, pm_G l Γ zX8_forged (d + 5) 36 [.ref l0, .int l1, .int s.1, .int s.2.1, .int s.2.2.1, pmU, pmU] [] s.2.2.2 (again36 s)) (hag51 : ∀ s : Int32 × Int32 × Int32 × pmM, pm_G l Γ zX8_forged (d + 5) 51 [.ref l0, .int l1, .int s.1, .int s.2.1, .int l4, .int s.2.2.1, pmU] [] s.2.2.2 (again51 s)) (hag70 : ∀ s : Int32 × Int32 × Int32 × pmM, pm_G l Γ zX8_forged (d + 5) 70 [.ref l0, .int l1, .int s.1, .int s.2.1, .int l4, .int l5, .int s.2.2.1] [] s.2.2.2 (again70 s)) : pm_G l Γ zX8_forged (d + 5) 129 [.ref l0, .int l1, .int l2, .int l3, .int l4, .int l5, .int l6] [] m (X8_forged_j129 again36 again51 again70 l0 l1 l2 l3 l4 l5 l6 m) := by
  unfold X8_forged_j129
  refine pm_iincn (y := zX8_forged) dX8_forged_129 rfl ki_1 rfl (Nat.le_of_ble_eq_true rfl) (fun x21 => ?_)
  refine pm_eqls (ls2 := [.ref l0, .int l1, .int l2, .int l3, .int l4, .int l5, .int x21]) rfl ?_
  refine pm_goto (tgt := 70) dX8_forged_132 rfl ?_
  exact hag70 (l2, l3, x21, m)
set_option maxRecDepth 100000 in
set_option maxHeartbeats 4000000 in
theorem gX8_forged_j125 (hfl : l.flags = flags0) (again36 : (Int32 × Int32 × Int32 × pmM) → pmR) (again51 : (Int32 × Int32 × Int32 × pmM) → pmR) (again70 : (Int32 × Int32 × Int32 × pmM) → pmR) (l0 : Nat) (l1 : Int32) (l2 : Int32) (l4 : Int32) (l5 : Int32) (l6 : Int32) (t0 : Int32) (m : pmM) (hag36 : ∀ s : Int32 × Int32 × Int32 × pmM, pm_G l Γ zX8_forged (d + 5) 36 [.ref l0, .int l1, .int s.1, .int s.2.1, .int s.2.2.1, pmU, pmU] [] s.2.2.2 (again36 s)) (hag51 : ∀ s : Int32 × Int32 × Int32 × pmM, pm_G l Γ zX8_forged (d + 5) 51 [.ref l0, .int l1, .int s.1, .int s.2.1, .int l4, .int s.2.2.1, pmU] [] s.2.2.2 (again51 s)) (hag70 : ∀ s : Int32 × Int32 × Int32 × pmM, pm_G l Γ zX8_forged (d + 5) 70 [.ref l0, .int l1, .int s.1, .int s.2.1, .int l4, .int l5, .int s.2.2.1] [] s.2.2.2 (again70 s)) : pm_G l Γ zX8_forged (d + 5) 125 [.ref l0, .int l1, .int l2, pmU, .int l4, .int l5, .int l6] [.int t0] m (X8_forged_j125 again36 again51 again70 l0 l1 l2 l4 l5 l6 t0 m) := by
  unfold X8_forged_j125
  refine pm_istore_n (ls2 := [.ref l0, .int l1, .int l2, .int t0, .int l4, .int l5, .int l6]) dX8_forged_125 rfl rfl (Nat.le_of_ble_eq_true rfl) rfl ?_
  refine pm_iincn (y := zX8_forged) dX8_forged_126 rfl ki_1 rfl (Nat.le_of_ble_eq_true rfl) (fun x22 => ?_)
  refine pm_eqls (ls2 := [.ref l0, .int l1, .int x22, .int t0, .int l4, .int l5, .int l6]) rfl ?_
  exact gX8_forged_j129 hfl again36 again51 again70 l0 l1 x22 t0 l4 l5 l6 m hag36 hag51 hag70
set_option maxRecDepth 100000 in
set_option maxHeartbeats 4000000 in
theorem gX8_forged_L70 (hfl : l.flags = flags0) (again36 : (Int32 × Int32 × Int32 × pmM) → pmR) (again51 : (Int32 × Int32 × Int32 × pmM) → pmR) (l0 : Nat) (l1 : Int32) (l4 : Int32) (l5 : Int32) (hag36 : ∀ s : Int32 × Int32 × Int32 × pmM, pm_G l Γ zX8_forged (d + 5) 36 [.ref l0, .int l1, .int s.1, .int s.2.1, .int s.2.2.1, pmU, pmU] [] s.2.2.2 (again36 s)) (hag51 : ∀ s : Int32 × Int32 × Int32 × pmM, pm_G l Γ zX8_forged (d + 5) 51 [.ref l0, .int l1, .int s.1, .int s.2.1, .int l4, .int s.2.2.1, pmU] [] s.2.2.2 (again51 s)) : ∀ (n : Nat) (s : Int32 × Int32 × Int32 × pmM), pm_G l Γ zX8_forged (d + 5) 70 [.ref l0, .int l1, .int s.1, .int s.2.1, .int l4, .int l5, .int s.2.2.1] [] s.2.2.2 (pm_lp n (X8_forged_L70 again36 again51 l0 l1 l4 l5) s) :=
  pm_loop (lsf := fun s : Int32 × Int32 × Int32 × pmM => [.ref l0, .int l1, .int s.1, .int s.2.1, .int l4, .int l5, .int s.2.2.1]) (mf := fun s : Int32 × Int32 × Int32 × pmM => s.2.2.2) (fun again70 hag70 s70 => by
    unfold X8_forged_L70
    refine pm_iload dX8_forged_70 rfl ?_
    refine pm_aload_n dX8_forged_72 rfl rfl ?_
    refine fg_8_1 (y := zX8_forged) (Or.inl tw_441) dX8_forged_73 (fun r11 => ?_)
    refine fg_2_0 (y := zX8_forged) (Or.inr tw_242) dX8_forged_76 (fun r12 => ?_)
    refine pm_iload dX8_forged_79 rfl ?_
    refine pm_iald (y := zX8_forged) dX8_forged_81 (fun x13 => ?_)
    refine pm_icmp_ge (tgt := 135) dX8_forged_82 rfl ?_ ?_
    · refine pm_iincn (y := zX8_forged) dX8_forged_135 rfl ki_1 rfl (Nat.le_of_ble_eq_true rfl) (fun x14 => ?_)
      refine pm_eqls (ls2 := [.ref l0, .int l1, .int s70.1, .int s70.2.1, .int l4, .int x14, .int s70.2.2.1]) rfl ?_
      refine pm_goto (tgt := 51) dX8_forged_138 rfl ?_
      refine pm_drop (ls2 := [.ref l0, .int l1, .int s70.1, .int s70.2.1, .int l4, .int x14, pmU]) (Nat.le_refl _) (pm_le_spec (pm_le_v (pm_le_v (pm_le_v (pm_le_v (pm_le_v (pm_le_v (pm_le_u (pm_le_n))))))))) ?_
      exact hag51 (s70.1, s70.2.1, x14, s70.2.2.2)
    · refine pm_aload_n dX8_forged_85 rfl rfl ?_
      refine fg_8_9 (y := zX8_forged) (Or.inl tw_449) dX8_forged_86 (fun r15 => ?_)
      refine pm_aload_n dX8_forged_89 rfl rfl ?_
      refine fg_8_5 (y := zX8_forged) (Or.inl tw_445) dX8_forged_90 (fun r16 => ?_)
      refine pm_iload dX8_forged_93 rfl ?_
      refine pm_iload dX8_forged_95 rfl ?_
      refine pm_iload dX8_forged_97 rfl ?_
      refine pm_kI rfl (pm_S (y := zX8_forged) (z := zX8_bitsOf) (As := [.int l5, .int s70.2.2.1]) zkX8_bitsOf tw_1211 tw_1014 dX8_forged_99 rfl rfl (Nat.le_of_ble_eq_true rfl)) (kcX8_bitsOf hfl l5 s70.2.2.1 s70.2.2.2) (fun x18 m17 => ?_)
      refine pm_rcv (fun hb9 hc9 => ?_)
      refine pm_kI rfl (pm_VN (y := zX8_forged) (z := zX0_speaksBehind) (As := [.ref r16, .int l4, .int x18]) zkX0_speaksBehind pm_q0 (by decide) tw_1212 tw_1214 tw_89 dX8_forged_102 rfl rfl (Nat.le_of_ble_eq_true rfl) hb9 hc9) (kcX0_speaksBehind hfl r15 r16 l4 x18 m17) (fun x20 m19 => ?_)
      refine pm_if_eq (tgt := 129) dX8_forged_105 rfl ?_ ?_
      · exact gX8_forged_j129 hfl again36 again51 again70 l0 l1 s70.1 s70.2.1 l4 l5 s70.2.2.1 m19 hag36 hag51 hag70
      · refine pm_iload_n dX8_forged_108 rfl rfl ?_
        refine pm_if_ne (tgt := 124) dX8_forged_109 rfl ?_ ?_
        · refine pm_iload_n dX8_forged_124 rfl rfl ?_
          refine pm_drop (ls2 := [.ref l0, .int l1, .int s70.1, pmU, .int l4, .int l5, .int s70.2.2.1]) (Nat.le_refl _) (pm_le_spec (pm_le_v (pm_le_v (pm_le_v (pm_le_u (pm_le_v (pm_le_v (pm_le_v (pm_le_n))))))))) ?_
          exact gX8_forged_j125 hfl again36 again51 again70 l0 l1 s70.1 l4 l5 s70.2.2.1 s70.2.1 m19 hag36 hag51 hag70
        · refine pm_iload dX8_forged_112 rfl ?_
          refine pm_iload dX8_forged_114 rfl ?_
          refine pm_iload dX8_forged_116 rfl ?_
          refine pm_kI rfl (pm_S (y := zX8_forged) (z := zX8_named) (As := [.int l4, .int l5, .int s70.2.2.1]) zkX8_named tw_1217 tw_1218 dX8_forged_118 rfl rfl (Nat.le_of_ble_eq_true rfl)) (kcX8_named hfl l4 l5 s70.2.2.1 m19) (fun x24 m23 => ?_)
          refine pm_goto (tgt := 125) dX8_forged_121 rfl ?_
          refine pm_drop (ls2 := [.ref l0, .int l1, .int s70.1, pmU, .int l4, .int l5, .int s70.2.2.1]) (Nat.le_refl _) (pm_le_spec (pm_le_v (pm_le_v (pm_le_v (pm_le_u (pm_le_v (pm_le_v (pm_le_v (pm_le_n))))))))) ?_
          exact gX8_forged_j125 hfl again36 again51 again70 l0 l1 s70.1 l4 l5 s70.2.2.1 x24 m23 hag36 hag51 hag70)
set_option maxRecDepth 100000 in
set_option maxHeartbeats 4000000 in
theorem gX8_forged_L51 (hfl : l.flags = flags0) (again36 : (Int32 × Int32 × Int32 × pmM) → pmR) (l0 : Nat) (l1 : Int32) (l4 : Int32) (hag36 : ∀ s : Int32 × Int32 × Int32 × pmM, pm_G l Γ zX8_forged (d + 5) 36 [.ref l0, .int l1, .int s.1, .int s.2.1, .int s.2.2.1, pmU, pmU] [] s.2.2.2 (again36 s)) : ∀ (n : Nat) (s : Int32 × Int32 × Int32 × pmM), pm_G l Γ zX8_forged (d + 5) 51 [.ref l0, .int l1, .int s.1, .int s.2.1, .int l4, .int s.2.2.1, pmU] [] s.2.2.2 (pm_lp n (X8_forged_L51 again36 l0 l1 l4) s) :=
  pm_loop (lsf := fun s : Int32 × Int32 × Int32 × pmM => [.ref l0, .int l1, .int s.1, .int s.2.1, .int l4, .int s.2.2.1, pmU]) (mf := fun s : Int32 × Int32 × Int32 × pmM => s.2.2.2) (fun again51 hag51 s51 => by
    unfold X8_forged_L51
    refine pm_iload dX8_forged_51 rfl ?_
    refine pm_aload_n dX8_forged_53 rfl rfl ?_
    refine fg_8_1 (y := zX8_forged) (Or.inl tw_441) dX8_forged_54 (fun r7 => ?_)
    refine fg_2_0 (y := zX8_forged) (Or.inr tw_242) dX8_forged_57 (fun r8 => ?_)
    refine pm_iload dX8_forged_60 rfl ?_
    refine pm_iald (y := zX8_forged) dX8_forged_62 (fun x9 => ?_)
    refine pm_icmp_ge (tgt := 141) dX8_forged_63 rfl ?_ ?_
    · refine pm_iincn (y := zX8_forged) dX8_forged_141 rfl ki_1 rfl (Nat.le_of_ble_eq_true rfl) (fun x10 => ?_)
      refine pm_eqls (ls2 := [.ref l0, .int l1, .int s51.1, .int s51.2.1, .int x10, .int s51.2.2.1, pmU]) rfl ?_
      refine pm_goto (tgt := 36) dX8_forged_144 rfl ?_
      refine pm_drop (ls2 := [.ref l0, .int l1, .int s51.1, .int s51.2.1, .int x10, pmU, pmU]) (Nat.le_refl _) (pm_le_spec (pm_le_v (pm_le_v (pm_le_v (pm_le_v (pm_le_v (pm_le_u (pm_le_u (pm_le_n))))))))) ?_
      exact hag36 (s51.1, s51.2.1, x10, s51.2.2.2)
    · refine pm_iload dX8_forged_66 rfl ?_
      refine pm_istore (ls2 := [.ref l0, .int l1, .int s51.1, .int s51.2.1, .int l4, .int s51.2.2.1, .int s51.2.2.1]) dX8_forged_68 rfl (Nat.le_of_ble_eq_true rfl) rfl ?_
      exact gX8_forged_L70 hfl again36 again51 l0 l1 l4 s51.2.2.1 hag36 hag51 pm_N (s51.1, s51.2.1, s51.2.2.1, s51.2.2.2))
set_option maxRecDepth 100000 in
set_option maxHeartbeats 4000000 in
theorem gX8_forged_L36 (hfl : l.flags = flags0) (l0 : Nat) (l1 : Int32) : ∀ (n : Nat) (s : Int32 × Int32 × Int32 × pmM), pm_G l Γ zX8_forged (d + 5) 36 [.ref l0, .int l1, .int s.1, .int s.2.1, .int s.2.2.1, pmU, pmU] [] s.2.2.2 (pm_lp n (X8_forged_L36 l0 l1) s) :=
  pm_loop (lsf := fun s : Int32 × Int32 × Int32 × pmM => [.ref l0, .int l1, .int s.1, .int s.2.1, .int s.2.2.1, pmU, pmU]) (mf := fun s : Int32 × Int32 × Int32 × pmM => s.2.2.2) (fun again36 hag36 s36 => by
    unfold X8_forged_L36
    refine pm_iload dX8_forged_36 rfl ?_
    refine pm_aload_n dX8_forged_38 rfl rfl ?_
    refine fg_8_1 (y := zX8_forged) (Or.inl tw_441) dX8_forged_39 (fun r5 => ?_)
    refine fg_2_3 (y := zX8_forged) (Or.inr tw_248) dX8_forged_42 (fun x6 => ?_)
    refine pm_icmp_ge (tgt := 147) dX8_forged_45 rfl ?_ ?_
    · refine pm_iload_n dX8_forged_147 rfl rfl ?_
      refine pm_if_ne (tgt := 155) dX8_forged_148 rfl ?_ ?_
      · refine pm_iload_n dX8_forged_155 rfl rfl ?_
        refine pm_drop (ls2 := [pmU, pmU, pmU, pmU, pmU, pmU, pmU]) (Nat.le_refl _) (pm_le_spec (pm_le_u (pm_le_u (pm_le_u (pm_le_u (pm_le_u (pm_le_u (pm_le_u (pm_le_n))))))))) ?_
        exact gX8_forged_j156 hfl s36.2.1 s36.2.2.2
      · refine pm_iload_n dX8_forged_151 rfl rfl ?_
        refine pm_goto (tgt := 156) dX8_forged_152 rfl ?_
        refine pm_drop (ls2 := [pmU, pmU, pmU, pmU, pmU, pmU, pmU]) (Nat.le_refl _) (pm_le_spec (pm_le_u (pm_le_u (pm_le_u (pm_le_u (pm_le_u (pm_le_u (pm_le_u (pm_le_n))))))))) ?_
        exact gX8_forged_j156 hfl s36.1 s36.2.2.2
    · refine pm_iconst (v := 0) dX8_forged_48 ki_0 ?_
      refine pm_istore (ls2 := [.ref l0, .int l1, .int s36.1, .int s36.2.1, .int s36.2.2.1, .int 0, pmU]) dX8_forged_49 rfl (Nat.le_of_ble_eq_true rfl) rfl ?_
      exact gX8_forged_L51 hfl again36 l0 l1 s36.2.2.1 hag36 pm_N (s36.1, s36.2.1, 0, s36.2.2.2))
set_option maxRecDepth 100000 in
set_option maxHeartbeats 4000000 in
theorem gX8_forged_j15 (hfl : l.flags = flags0) (l0 : Nat) (l1 : Int32) (t0 : Int32) (t1 : Nat) (m : pmM) : pm_G l Γ zX8_forged (d + 5) 15 [.ref l0, .int l1, pmU, pmU, pmU, pmU, pmU] [.int t0, .ref t1] m (X8_forged_j15 l0 l1 t0 t1 m) := by
  unfold X8_forged_j15
  refine pm_rcv (fun hb9 hc9 => ?_)
  refine pm_kV rfl (pm_V (y := zX8_forged) (z := zX8_must) (As := [.int t0]) zkX8_must pm_q8 (by decide) tw_687 tw_689 tw_30 dX8_forged_15 rfl rfl (Nat.le_of_ble_eq_true rfl) hb9 hc9) (kcX8_must hfl t1 t0 m) (fun m1 => ?_)
  refine pm_aload_n dX8_forged_18 rfl rfl ?_
  refine fg_8_9 (y := zX8_forged) (Or.inl tw_449) dX8_forged_19 (fun r2 => ?_)
  refine pm_aload_n dX8_forged_22 rfl rfl ?_
  refine fg_8_8 (y := zX8_forged) (Or.inl tw_448) dX8_forged_23 (fun r3 => ?_)
  refine pm_rcv (fun hb9 hc9 => ?_)
  refine pm_kV rfl (pm_VN (y := zX8_forged) (z := zX0_takeOver) (As := [.ref r3]) zkX0_takeOver pm_q0 (by decide) tw_557 tw_559 tw_8 dX8_forged_26 rfl rfl (Nat.le_of_ble_eq_true rfl) hb9 hc9) (kcX0_takeOver hfl r2 r3 m1) (fun m4 => ?_)
  refine pm_iconst (v := 0) dX8_forged_29 ki_0 ?_
  refine pm_istore_n (ls2 := [.ref l0, .int l1, .int 0, pmU, pmU, pmU, pmU]) dX8_forged_30 rfl rfl (Nat.le_of_ble_eq_true rfl) rfl ?_
  refine pm_iconst (v := (-1)) dX8_forged_31 ki_n1 ?_
  refine pm_istore_n (ls2 := [.ref l0, .int l1, .int 0, .int (-1), pmU, pmU, pmU]) dX8_forged_32 rfl rfl (Nat.le_of_ble_eq_true rfl) rfl ?_
  refine pm_iconst (v := 0) dX8_forged_33 ki_0 ?_
  refine pm_istore (ls2 := [.ref l0, .int l1, .int 0, .int (-1), .int 0, pmU, pmU]) dX8_forged_34 rfl (Nat.le_of_ble_eq_true rfl) rfl ?_
  exact gX8_forged_L36 hfl l0 l1 pm_N (0, (-1), 0, m4)
set_option maxRecDepth 100000 in
set_option maxHeartbeats 4000000 in
theorem gX8_forged_j10 (hfl : l.flags = flags0) (l0 : Nat) (l1 : Int32) (t0 : Nat) (m : pmM) : pm_G l Γ zX8_forged (d + 5) 10 [.ref l0, .int l1, pmU, pmU, pmU, pmU, pmU] [.ref t0] m (X8_forged_j10 l0 l1 t0 m) := by
  unfold X8_forged_j10
  refine pm_iconst (v := 1) dX8_forged_10 ki_1 ?_
  refine pm_goto (tgt := 15) dX8_forged_11 rfl ?_
  exact gX8_forged_j15 hfl l0 l1 1 t0 m
set_option maxRecDepth 100000 in
set_option maxHeartbeats 4000000 in
theorem kcX8_forged (hfl : l.flags = flags0) (a0 : Nat) (a1 : Int32) (m : pmM) : pm_C l Γ zX8_forged (d + 5) [.ref a0, .int a1] m (X8_forged a0 a1 m) := by
  refine pm_enter (ls := [.ref a0, .int a1, pmU, pmU, pmU, pmU, pmU]) hfl (by decide +kernel) rfl (Nat.le_of_ble_eq_true rfl) rfl (Nat.le_of_ble_eq_true rfl) ?_
  unfold X8_forged
  refine pm_aload_n dX8_forged_0 rfl rfl ?_
  refine pm_iload_n dX8_forged_1 rfl rfl ?_
  refine pm_if_eq (tgt := 10) dX8_forged_2 rfl ?_ ?_
  · exact gX8_forged_j10 hfl a0 a1 a0 m
  · refine pm_iload_n dX8_forged_5 rfl rfl ?_
    refine pm_iconst (v := 1) dX8_forged_6 ki_1 ?_
    refine pm_icmp_ne (tgt := 14) dX8_forged_7 rfl ?_ ?_
    · refine pm_iconst (v := 0) dX8_forged_14 ki_0 ?_
      exact gX8_forged_j15 hfl a0 a1 0 a0 m
    · exact gX8_forged_j10 hfl a0 a1 a0 m
-- StruckPage.value(I)I
abbrev zX8_value : pmY := (⟨"StruckPage", "value", "(I)I"⟩, cX8_value, 2, some .int, [])
def X8_value (a0 : Nat) (a1 : Int32) (m : pmM) : pmR := pm_rc 8 a0 m <| pm_cV (X8_mustBeLine a0 a1 m) fun m1 => pm_gR 8 a0 8 m1 fun r2 => pm_rc 0 r2 m1 <| pm_cI (X0_leftBits r2 a1 m1) fun x4 m3 => pm_cI (X4_valueOf x4 m3) fun x6 m5 => pm_oI x6 m5
theorem zkX8_value : pm_zOk zX8_value 1 := ⟨rfl, tw_1226, tw_158, by decide +kernel, by decide⟩
set_option maxRecDepth 100000 in
set_option maxHeartbeats 4000000 in
theorem kcX8_value (hfl : l.flags = flags0) (a0 : Nat) (a1 : Int32) (m : pmM) : pm_C l Γ zX8_value (d + 2) [.ref a0, .int a1] m (X8_value a0 a1 m) := by
  refine pm_enter (ls := [.ref a0, .int a1]) hfl (by decide +kernel) rfl (Nat.le_of_ble_eq_true rfl) rfl (Nat.le_of_ble_eq_true rfl) ?_
  unfold X8_value
  refine pm_aload_n dX8_value_0 rfl rfl ?_
  refine pm_iload_n dX8_value_1 rfl rfl ?_
  refine pm_rcv (fun hb9 hc9 => ?_)
  refine pm_kV rfl (pm_V (y := zX8_value) (z := zX8_mustBeLine) (As := [.int a1]) zkX8_mustBeLine pm_q8 (by decide) tw_1107 tw_1109 tw_83 dX8_value_2 rfl rfl (Nat.le_of_ble_eq_true rfl) hb9 hc9) (kcX8_mustBeLine hfl a0 a1 m) (fun m1 => ?_)
  refine pm_aload_n dX8_value_5 rfl rfl ?_
  refine fg_8_8 (y := zX8_value) (Or.inl tw_448) dX8_value_6 (fun r2 => ?_)
  refine pm_iload_n dX8_value_9 rfl rfl ?_
  refine pm_rcv (fun hb9 hc9 => ?_)
  refine pm_kI rfl (pm_VN (y := zX8_value) (z := zX0_leftBits) (As := [.int a1]) zkX0_leftBits pm_q0 (by decide) tw_1227 tw_567 tw_10 dX8_value_10 rfl rfl (Nat.le_of_ble_eq_true rfl) hb9 hc9) (kcX0_leftBits hfl r2 a1 m1) (fun x4 m3 => ?_)
  refine pm_kI rfl (pm_SN (y := zX8_value) (z := zX4_valueOf) (As := [.int x4]) zkX4_valueOf tw_1228 tw_1229 dX8_value_13 rfl rfl (Nat.le_of_ble_eq_true rfl)) (kcX4_valueOf hfl x4 m3) (fun x6 m5 => ?_)
  exact pm_iret rfl dX8_value_16
-- StruckPage.mustBeBits(I)V
abbrev zX8_mustBeBits : pmY := (⟨"StruckPage", "mustBeBits", "(I)V"⟩, cX8_mustBeBits, 2, none, [])
def X8_mustBeBits_j23 (t0 : Int32) (t1 : Nat) (m : pmM) : pmR := pm_rc 8 t1 m <| pm_cV (X8_must t1 t0 m) fun m1 => pm_oV m1
def X8_mustBeBits_j22 (t0 : Nat) (m : pmM) : pmR := X8_mustBeBits_j23 0 t0 m
def X8_mustBeBits (a0 : Nat) (a1 : Int32) (m : pmM) : pmR := if a1 < 0 then (X8_mustBeBits_j22 a0 m) else (pm_gR 8 a0 1 m fun r2 => pm_gI 2 r2 3 m fun x3 => if ((1 : Int32) <<< (x3 &&& 31)) ≤ a1 then (X8_mustBeBits_j22 a0 m) else (X8_mustBeBits_j23 1 a0 m))
theorem zkX8_mustBeBits : pm_zOk zX8_mustBeBits 1 := ⟨rfl, tw_1243, tw_158, by decide +kernel, by decide⟩
set_option maxRecDepth 100000 in
set_option maxHeartbeats 4000000 in
theorem gX8_mustBeBits_j23 (hfl : l.flags = flags0) (t0 : Int32) (t1 : Nat) (m : pmM) : pm_G l Γ zX8_mustBeBits (d + 1) 23 [pmU, pmU] [.int t0, .ref t1] m (X8_mustBeBits_j23 t0 t1 m) := by
  unfold X8_mustBeBits_j23
  refine pm_rcv (fun hb9 hc9 => ?_)
  refine pm_kV rfl (pm_V (y := zX8_mustBeBits) (z := zX8_must) (As := [.int t0]) zkX8_must pm_q8 (by decide) tw_687 tw_689 tw_30 dX8_mustBeBits_23 rfl rfl (Nat.le_of_ble_eq_true rfl) hb9 hc9) (kcX8_must hfl t1 t0 m) (fun m1 => ?_)
  exact pm_vret rfl dX8_mustBeBits_26
set_option maxRecDepth 100000 in
set_option maxHeartbeats 4000000 in
theorem gX8_mustBeBits_j22 (hfl : l.flags = flags0) (t0 : Nat) (m : pmM) : pm_G l Γ zX8_mustBeBits (d + 1) 22 [pmU, pmU] [.ref t0] m (X8_mustBeBits_j22 t0 m) := by
  unfold X8_mustBeBits_j22
  refine pm_iconst (v := 0) dX8_mustBeBits_22 ki_0 ?_
  exact gX8_mustBeBits_j23 hfl 0 t0 m
set_option maxRecDepth 100000 in
set_option maxHeartbeats 4000000 in
theorem kcX8_mustBeBits (hfl : l.flags = flags0) (a0 : Nat) (a1 : Int32) (m : pmM) : pm_C l Γ zX8_mustBeBits (d + 1) [.ref a0, .int a1] m (X8_mustBeBits a0 a1 m) := by
  refine pm_enter (ls := [.ref a0, .int a1]) hfl (by decide +kernel) rfl (Nat.le_of_ble_eq_true rfl) rfl (Nat.le_of_ble_eq_true rfl) ?_
  unfold X8_mustBeBits
  refine pm_aload_n dX8_mustBeBits_0 rfl rfl ?_
  refine pm_iload_n dX8_mustBeBits_1 rfl rfl ?_
  refine pm_if_lt (tgt := 22) dX8_mustBeBits_2 rfl ?_ ?_
  · refine pm_drop (ls2 := [pmU, pmU]) (Nat.le_refl _) (pm_le_spec (pm_le_u (pm_le_u (pm_le_n)))) ?_
    exact gX8_mustBeBits_j22 hfl a0 m
  · refine pm_iload_n dX8_mustBeBits_5 rfl rfl ?_
    refine pm_iconst (v := 1) dX8_mustBeBits_6 ki_1 ?_
    refine pm_aload_n dX8_mustBeBits_7 rfl rfl ?_
    refine fg_8_1 (y := zX8_mustBeBits) (Or.inl tw_441) dX8_mustBeBits_8 (fun r2 => ?_)
    refine fg_2_3 (y := zX8_mustBeBits) (Or.inr tw_248) dX8_mustBeBits_11 (fun x3 => ?_)
    refine pm_ishl dX8_mustBeBits_14 ?_
    refine pm_icmp_ge (tgt := 22) dX8_mustBeBits_15 rfl ?_ ?_
    · refine pm_drop (ls2 := [pmU, pmU]) (Nat.le_refl _) (pm_le_spec (pm_le_u (pm_le_u (pm_le_n)))) ?_
      exact gX8_mustBeBits_j22 hfl a0 m
    · refine pm_iconst (v := 1) dX8_mustBeBits_18 ki_1 ?_
      refine pm_goto (tgt := 23) dX8_mustBeBits_19 rfl ?_
      refine pm_drop (ls2 := [pmU, pmU]) (Nat.le_refl _) (pm_le_spec (pm_le_u (pm_le_u (pm_le_n)))) ?_
      exact gX8_mustBeBits_j23 hfl 1 a0 m
-- StruckPage.firstWinning(II)I
abbrev zX8_firstWinning : pmY := (⟨"StruckPage", "firstWinning", "(II)I"⟩, cX8_firstWinning, 9, some .int, [])
def X8_firstWinning_j118 (again2 : (Int32 × pmM) → pmR) (again48 : (Int32 × pmM) → pmR) (again66 : (Int32 × pmM) → pmR) (l0 : Nat) (l1 : Int32) (l2 : Int32) (l3 : Int32) (l4 : Int32) (l5 : Int32) (l6 : Int32) (l7 : Int32) (m : pmM) : pmR := pm_bI (l7 + 1) fun x13 => again66 (x13, m)
def X8_firstWinning_L66 (again2 : (Int32 × pmM) → pmR) (again48 : (Int32 × pmM) → pmR) (l0 : Nat) (l1 : Int32) (l2 : Int32) (l3 : Int32) (l4 : Int32) (l5 : Int32) (l6 : Int32) (again66 : (Int32 × pmM) → pmR) (s66 : Int32 × pmM) : pmR := if (l6 + 1) < s66.1 then (pm_bI (l6 + 1) fun x10 => again48 (x10, s66.2)) else (pm_cI (X8_bitsOf l6 s66.1 s66.2) fun x12 m11 => if (l4 &&& x12) = x12 then (pm_cI (X4_valueOf (l4 &&& (x12 ^^^ (-1))) m11) fun x15 m14 => if x15 = l5 then (pm_cI (X8_named l3 l6 s66.1 m14) fun x17 m16 => pm_oI x17 m16) else (X8_firstWinning_j118 again2 again48 again66 l0 l1 l2 l3 l4 l5 l6 s66.1 m14)) else (X8_firstWinning_j118 again2 again48 again66 l0 l1 l2 l3 l4 l5 l6 s66.1 m11))
def X8_firstWinning_L48 (again2 : (Int32 × pmM) → pmR) (l0 : Nat) (l1 : Int32) (l2 : Int32) (l3 : Int32) (l4 : Int32) (l5 : Int32) (again48 : (Int32 × pmM) → pmR) (s48 : Int32 × pmM) : pmR := pm_gR 8 l0 1 s48.2 fun r6 => pm_gR 2 r6 0 s48.2 fun r7 => pm_ld 100 r7 l3 s48.2 fun x8 => if x8 ≤ s48.1 then (pm_bI (l3 + 1) fun x9 => again2 (x9, s48.2)) else (pm_lp pm_N (X8_firstWinning_L66 again2 again48 l0 l1 l2 l3 l4 l5 s48.1) (s48.1, s48.2))
def X8_firstWinning_j34 (again2 : (Int32 × pmM) → pmR) (l0 : Nat) (l1 : Int32) (l2 : Int32) (l3 : Int32) (t0 : Int32) (m : pmM) : pmR := pm_cI (X4_valueOf t0 m) fun x4 m3 => pm_bI (l2 ^^^ x4) fun x5 => pm_lp pm_N (X8_firstWinning_L48 again2 l0 l1 l2 l3 t0 x5) (0, m3)
def X8_firstWinning_L2 (l0 : Nat) (l1 : Int32) (l2 : Int32) (again2 : (Int32 × pmM) → pmR) (s2 : Int32 × pmM) : pmR := pm_gR 8 l0 1 s2.2 fun r1 => pm_gI 2 r1 3 s2.2 fun x2 => if x2 ≤ s2.1 then (pm_oI (-1) s2.2) else (if ((l1 >>> (s2.1 &&& 31)) &&& 1) = 1 then (pm_gR 8 l0 8 s2.2 fun r18 => pm_rc 0 r18 s2.2 <| pm_cI (X0_leftBits r18 s2.1 s2.2) fun x20 m19 => X8_firstWinning_j34 again2 l0 l1 l2 s2.1 x20 m19) else (X8_firstWinning_j34 again2 l0 l1 l2 s2.1 0 s2.2))
def X8_firstWinning (a0 : Nat) (a1 : Int32) (a2 : Int32) (m : pmM) : pmR := pm_lp pm_N (X8_firstWinning_L2 a0 a1 a2) (0, m)
theorem zkX8_firstWinning : pm_zOk zX8_firstWinning 2 := ⟨rfl, tw_1247, tw_158, by decide +kernel, by decide⟩
set_option maxRecDepth 100000 in
set_option maxHeartbeats 4000000 in
theorem gX8_firstWinning_j118 (hfl : l.flags = flags0) (again2 : (Int32 × pmM) → pmR) (again48 : (Int32 × pmM) → pmR) (again66 : (Int32 × pmM) → pmR) (l0 : Nat) (l1 : Int32) (l2 : Int32) (l3 : Int32) (l4 : Int32) (l5 : Int32) (l6 : Int32) (l7 : Int32) (m : pmM) (hag2 : ∀ s : Int32 × pmM, pm_G l Γ zX8_firstWinning (d + 2) 2 [.ref l0, .int l1, .int l2, .int s.1, pmU, pmU, pmU, pmU, pmU] [] s.2 (again2 s)) (hag48 : ∀ s : Int32 × pmM, pm_G l Γ zX8_firstWinning (d + 2) 48 [.ref l0, .int l1, .int l2, .int l3, .int l4, .int l5, .int s.1, pmU, pmU] [] s.2 (again48 s)) (hag66 : ∀ s : Int32 × pmM, pm_G l Γ zX8_firstWinning (d + 2) 66 [.ref l0, .int l1, .int l2, .int l3, .int l4, .int l5, .int l6, .int s.1, pmU] [] s.2 (again66 s)) : pm_G l Γ zX8_firstWinning (d + 2) 118 [.ref l0, .int l1, .int l2, .int l3, .int l4, .int l5, .int l6, .int l7, pmU] [] m (X8_firstWinning_j118 again2 again48 again66 l0 l1 l2 l3 l4 l5 l6 l7 m) := by
  unfold X8_firstWinning_j118
  refine pm_iincn (y := zX8_firstWinning) dX8_firstWinning_118 rfl ki_1 rfl (Nat.le_of_ble_eq_true rfl) (fun x13 => ?_)
  refine pm_eqls (ls2 := [.ref l0, .int l1, .int l2, .int l3, .int l4, .int l5, .int l6, .int x13, pmU]) rfl ?_
  refine pm_goto (tgt := 66) dX8_firstWinning_121 rfl ?_
  exact hag66 (x13, m)
set_option maxRecDepth 100000 in
set_option maxHeartbeats 4000000 in
theorem gX8_firstWinning_L66 (hfl : l.flags = flags0) (again2 : (Int32 × pmM) → pmR) (again48 : (Int32 × pmM) → pmR) (l0 : Nat) (l1 : Int32) (l2 : Int32) (l3 : Int32) (l4 : Int32) (l5 : Int32) (l6 : Int32) (hag2 : ∀ s : Int32 × pmM, pm_G l Γ zX8_firstWinning (d + 2) 2 [.ref l0, .int l1, .int l2, .int s.1, pmU, pmU, pmU, pmU, pmU] [] s.2 (again2 s)) (hag48 : ∀ s : Int32 × pmM, pm_G l Γ zX8_firstWinning (d + 2) 48 [.ref l0, .int l1, .int l2, .int l3, .int l4, .int l5, .int s.1, pmU, pmU] [] s.2 (again48 s)) : ∀ (n : Nat) (s : Int32 × pmM), pm_G l Γ zX8_firstWinning (d + 2) 66 [.ref l0, .int l1, .int l2, .int l3, .int l4, .int l5, .int l6, .int s.1, pmU] [] s.2 (pm_lp n (X8_firstWinning_L66 again2 again48 l0 l1 l2 l3 l4 l5 l6) s) :=
  pm_loop (lsf := fun s : Int32 × pmM => [.ref l0, .int l1, .int l2, .int l3, .int l4, .int l5, .int l6, .int s.1, pmU]) (mf := fun s : Int32 × pmM => s.2) (fun again66 hag66 s66 => by
    unfold X8_firstWinning_L66
    refine pm_iload dX8_firstWinning_66 rfl ?_
    refine pm_iload dX8_firstWinning_68 rfl ?_
    refine pm_iconst (v := 1) dX8_firstWinning_70 ki_1 ?_
    refine pm_iadd dX8_firstWinning_71 ?_
    refine pm_icmp_gt (tgt := 124) dX8_firstWinning_72 rfl ?_ ?_
    · refine pm_iincn (y := zX8_firstWinning) dX8_firstWinning_124 rfl ki_1 rfl (Nat.le_of_ble_eq_true rfl) (fun x10 => ?_)
      refine pm_eqls (ls2 := [.ref l0, .int l1, .int l2, .int l3, .int l4, .int l5, .int x10, .int s66.1, pmU]) rfl ?_
      refine pm_goto (tgt := 48) dX8_firstWinning_127 rfl ?_
      refine pm_drop (ls2 := [.ref l0, .int l1, .int l2, .int l3, .int l4, .int l5, .int x10, pmU, pmU]) (Nat.le_refl _) (pm_le_spec (pm_le_v (pm_le_v (pm_le_v (pm_le_v (pm_le_v (pm_le_v (pm_le_v (pm_le_u (pm_le_u (pm_le_n))))))))))) ?_
      exact hag48 (x10, s66.2)
    · refine pm_iload dX8_firstWinning_75 rfl ?_
      refine pm_iload dX8_firstWinning_77 rfl ?_
      refine pm_kI rfl (pm_S (y := zX8_firstWinning) (z := zX8_bitsOf) (As := [.int l6, .int s66.1]) zkX8_bitsOf tw_1211 tw_1014 dX8_firstWinning_79 rfl rfl (Nat.le_of_ble_eq_true rfl)) (kcX8_bitsOf hfl l6 s66.1 s66.2) (fun x12 m11 => ?_)
      refine pm_istore (ls2 := [.ref l0, .int l1, .int l2, .int l3, .int l4, .int l5, .int l6, .int s66.1, .int x12]) dX8_firstWinning_82 rfl (Nat.le_of_ble_eq_true rfl) rfl ?_
      refine pm_iload dX8_firstWinning_84 rfl ?_
      refine pm_iload dX8_firstWinning_86 rfl ?_
      refine pm_iand dX8_firstWinning_88 ?_
      refine pm_iload dX8_firstWinning_89 rfl ?_
      refine pm_icmp_ne (tgt := 118) dX8_firstWinning_91 rfl ?_ ?_
      · refine pm_drop (ls2 := [.ref l0, .int l1, .int l2, .int l3, .int l4, .int l5, .int l6, .int s66.1, pmU]) (Nat.le_refl _) (pm_le_spec (pm_le_v (pm_le_v (pm_le_v (pm_le_v (pm_le_v (pm_le_v (pm_le_v (pm_le_v (pm_le_u (pm_le_n))))))))))) ?_
        exact gX8_firstWinning_j118 hfl again2 again48 again66 l0 l1 l2 l3 l4 l5 l6 s66.1 m11 hag2 hag48 hag66
      · refine pm_iload dX8_firstWinning_94 rfl ?_
        refine pm_iload dX8_firstWinning_96 rfl ?_
        refine pm_iconst (v := (-1)) dX8_firstWinning_98 ki_n1 ?_
        refine pm_ixor dX8_firstWinning_99 ?_
        refine pm_iand dX8_firstWinning_100 ?_
        refine pm_kI rfl (pm_SN (y := zX8_firstWinning) (z := zX4_valueOf) (As := [.int (l4 &&& (x12 ^^^ (-1)))]) zkX4_valueOf tw_1228 tw_1229 dX8_firstWinning_101 rfl rfl (Nat.le_of_ble_eq_true rfl)) (kcX4_valueOf hfl (l4 &&& (x12 ^^^ (-1))) m11) (fun x15 m14 => ?_)
        refine pm_iload dX8_firstWinning_104 rfl ?_
        refine pm_icmp_ne (tgt := 118) dX8_firstWinning_106 rfl ?_ ?_
        · refine pm_drop (ls2 := [.ref l0, .int l1, .int l2, .int l3, .int l4, .int l5, .int l6, .int s66.1, pmU]) (Nat.le_refl _) (pm_le_spec (pm_le_v (pm_le_v (pm_le_v (pm_le_v (pm_le_v (pm_le_v (pm_le_v (pm_le_v (pm_le_u (pm_le_n))))))))))) ?_
          exact gX8_firstWinning_j118 hfl again2 again48 again66 l0 l1 l2 l3 l4 l5 l6 s66.1 m14 hag2 hag48 hag66
        · refine pm_iload_n dX8_firstWinning_109 rfl rfl ?_
          refine pm_iload dX8_firstWinning_110 rfl ?_
          refine pm_iload dX8_firstWinning_112 rfl ?_
          refine pm_kI rfl (pm_S (y := zX8_firstWinning) (z := zX8_named) (As := [.int l3, .int l6, .int s66.1]) zkX8_named tw_1217 tw_1218 dX8_firstWinning_114 rfl rfl (Nat.le_of_ble_eq_true rfl)) (kcX8_named hfl l3 l6 s66.1 m14) (fun x17 m16 => ?_)
          exact pm_iret rfl dX8_firstWinning_117)
set_option maxRecDepth 100000 in
set_option maxHeartbeats 4000000 in
theorem gX8_firstWinning_L48 (hfl : l.flags = flags0) (again2 : (Int32 × pmM) → pmR) (l0 : Nat) (l1 : Int32) (l2 : Int32) (l3 : Int32) (l4 : Int32) (l5 : Int32) (hag2 : ∀ s : Int32 × pmM, pm_G l Γ zX8_firstWinning (d + 2) 2 [.ref l0, .int l1, .int l2, .int s.1, pmU, pmU, pmU, pmU, pmU] [] s.2 (again2 s)) : ∀ (n : Nat) (s : Int32 × pmM), pm_G l Γ zX8_firstWinning (d + 2) 48 [.ref l0, .int l1, .int l2, .int l3, .int l4, .int l5, .int s.1, pmU, pmU] [] s.2 (pm_lp n (X8_firstWinning_L48 again2 l0 l1 l2 l3 l4 l5) s) :=
  pm_loop (lsf := fun s : Int32 × pmM => [.ref l0, .int l1, .int l2, .int l3, .int l4, .int l5, .int s.1, pmU, pmU]) (mf := fun s : Int32 × pmM => s.2) (fun again48 hag48 s48 => by
    unfold X8_firstWinning_L48
    refine pm_iload dX8_firstWinning_48 rfl ?_
    refine pm_aload_n dX8_firstWinning_50 rfl rfl ?_
    refine fg_8_1 (y := zX8_firstWinning) (Or.inl tw_441) dX8_firstWinning_51 (fun r6 => ?_)
    refine fg_2_0 (y := zX8_firstWinning) (Or.inr tw_242) dX8_firstWinning_54 (fun r7 => ?_)
    refine pm_iload_n dX8_firstWinning_57 rfl rfl ?_
    refine pm_iald (y := zX8_firstWinning) dX8_firstWinning_58 (fun x8 => ?_)
    refine pm_icmp_ge (tgt := 130) dX8_firstWinning_59 rfl ?_ ?_
    · refine pm_iincn (y := zX8_firstWinning) dX8_firstWinning_130 rfl ki_1 rfl (Nat.le_of_ble_eq_true rfl) (fun x9 => ?_)
      refine pm_eqls (ls2 := [.ref l0, .int l1, .int l2, .int x9, .int l4, .int l5, .int s48.1, pmU, pmU]) rfl ?_
      refine pm_goto (tgt := 2) dX8_firstWinning_133 rfl ?_
      refine pm_drop (ls2 := [.ref l0, .int l1, .int l2, .int x9, pmU, pmU, pmU, pmU, pmU]) (Nat.le_refl _) (pm_le_spec (pm_le_v (pm_le_v (pm_le_v (pm_le_v (pm_le_u (pm_le_u (pm_le_u (pm_le_u (pm_le_u (pm_le_n))))))))))) ?_
      exact hag2 (x9, s48.2)
    · refine pm_iload dX8_firstWinning_62 rfl ?_
      refine pm_istore (ls2 := [.ref l0, .int l1, .int l2, .int l3, .int l4, .int l5, .int s48.1, .int s48.1, pmU]) dX8_firstWinning_64 rfl (Nat.le_of_ble_eq_true rfl) rfl ?_
      exact gX8_firstWinning_L66 hfl again2 again48 l0 l1 l2 l3 l4 l5 s48.1 hag2 hag48 pm_N (s48.1, s48.2))
set_option maxRecDepth 100000 in
set_option maxHeartbeats 4000000 in
theorem gX8_firstWinning_j34 (hfl : l.flags = flags0) (again2 : (Int32 × pmM) → pmR) (l0 : Nat) (l1 : Int32) (l2 : Int32) (l3 : Int32) (t0 : Int32) (m : pmM) (hag2 : ∀ s : Int32 × pmM, pm_G l Γ zX8_firstWinning (d + 2) 2 [.ref l0, .int l1, .int l2, .int s.1, pmU, pmU, pmU, pmU, pmU] [] s.2 (again2 s)) : pm_G l Γ zX8_firstWinning (d + 2) 34 [.ref l0, .int l1, .int l2, .int l3, pmU, pmU, pmU, pmU, pmU] [.int t0] m (X8_firstWinning_j34 again2 l0 l1 l2 l3 t0 m) := by
  unfold X8_firstWinning_j34
  refine pm_istore (ls2 := [.ref l0, .int l1, .int l2, .int l3, .int t0, pmU, pmU, pmU, pmU]) dX8_firstWinning_34 rfl (Nat.le_of_ble_eq_true rfl) rfl ?_
  refine pm_iload_n dX8_firstWinning_36 rfl rfl ?_
  refine pm_iload dX8_firstWinning_37 rfl ?_
  refine pm_kI rfl (pm_SN (y := zX8_firstWinning) (z := zX4_valueOf) (As := [.int t0]) zkX4_valueOf tw_1228 tw_1229 dX8_firstWinning_39 rfl rfl (Nat.le_of_ble_eq_true rfl)) (kcX4_valueOf hfl t0 m) (fun x4 m3 => ?_)
  refine pm_ixor dX8_firstWinning_42 ?_
  refine pm_bIn (fun x5 => ?_)
  refine pm_istore (ls2 := [.ref l0, .int l1, .int l2, .int l3, .int t0, .int x5, pmU, pmU, pmU]) dX8_firstWinning_43 rfl (Nat.le_of_ble_eq_true rfl) rfl ?_
  refine pm_iconst (v := 0) dX8_firstWinning_45 ki_0 ?_
  refine pm_istore (ls2 := [.ref l0, .int l1, .int l2, .int l3, .int t0, .int x5, .int 0, pmU, pmU]) dX8_firstWinning_46 rfl (Nat.le_of_ble_eq_true rfl) rfl ?_
  exact gX8_firstWinning_L48 hfl again2 l0 l1 l2 l3 t0 x5 hag2 pm_N (0, m3)
set_option maxRecDepth 100000 in
set_option maxHeartbeats 4000000 in
theorem gX8_firstWinning_L2 (hfl : l.flags = flags0) (l0 : Nat) (l1 : Int32) (l2 : Int32) : ∀ (n : Nat) (s : Int32 × pmM), pm_G l Γ zX8_firstWinning (d + 2) 2 [.ref l0, .int l1, .int l2, .int s.1, pmU, pmU, pmU, pmU, pmU] [] s.2 (pm_lp n (X8_firstWinning_L2 l0 l1 l2) s) :=
  pm_loop (lsf := fun s : Int32 × pmM => [.ref l0, .int l1, .int l2, .int s.1, pmU, pmU, pmU, pmU, pmU]) (mf := fun s : Int32 × pmM => s.2) (fun again2 hag2 s2 => by
    unfold X8_firstWinning_L2
    refine pm_iload_n dX8_firstWinning_2 rfl rfl ?_
    refine pm_aload_n dX8_firstWinning_3 rfl rfl ?_
    refine fg_8_1 (y := zX8_firstWinning) (Or.inl tw_441) dX8_firstWinning_4 (fun r1 => ?_)
    refine fg_2_3 (y := zX8_firstWinning) (Or.inr tw_248) dX8_firstWinning_7 (fun x2 => ?_)
    refine pm_icmp_ge (tgt := 136) dX8_firstWinning_10 rfl ?_ ?_
    · refine pm_iconst (v := (-1)) dX8_firstWinning_136 ki_n1 ?_
      exact pm_iret rfl dX8_firstWinning_137
    · refine pm_iload_n dX8_firstWinning_13 rfl rfl ?_
      refine pm_iload_n dX8_firstWinning_14 rfl rfl ?_
      refine pm_ishr dX8_firstWinning_15 ?_
      refine pm_iconst (v := 1) dX8_firstWinning_16 ki_1 ?_
      refine pm_iand dX8_firstWinning_17 ?_
      refine pm_iconst (v := 1) dX8_firstWinning_18 ki_1 ?_
      refine pm_icmp_ne (tgt := 33) dX8_firstWinning_19 rfl ?_ ?_
      · refine pm_iconst (v := 0) dX8_firstWinning_33 ki_0 ?_
        exact gX8_firstWinning_j34 hfl again2 l0 l1 l2 s2.1 0 s2.2 hag2
      · refine pm_aload_n dX8_firstWinning_22 rfl rfl ?_
        refine fg_8_8 (y := zX8_firstWinning) (Or.inl tw_448) dX8_firstWinning_23 (fun r18 => ?_)
        refine pm_iload_n dX8_firstWinning_26 rfl rfl ?_
        refine pm_rcv (fun hb9 hc9 => ?_)
        refine pm_kI rfl (pm_VN (y := zX8_firstWinning) (z := zX0_leftBits) (As := [.int s2.1]) zkX0_leftBits pm_q0 (by decide) tw_1227 tw_567 tw_10 dX8_firstWinning_27 rfl rfl (Nat.le_of_ble_eq_true rfl) hb9 hc9) (kcX0_leftBits hfl r18 s2.1 s2.2) (fun x20 m19 => ?_)
        refine pm_goto (tgt := 34) dX8_firstWinning_30 rfl ?_
        exact gX8_firstWinning_j34 hfl again2 l0 l1 l2 s2.1 x20 m19 hag2)
set_option maxRecDepth 100000 in
set_option maxHeartbeats 4000000 in
theorem kcX8_firstWinning (hfl : l.flags = flags0) (a0 : Nat) (a1 : Int32) (a2 : Int32) (m : pmM) : pm_C l Γ zX8_firstWinning (d + 2) [.ref a0, .int a1, .int a2] m (X8_firstWinning a0 a1 a2 m) := by
  refine pm_enter (ls := [.ref a0, .int a1, .int a2, pmU, pmU, pmU, pmU, pmU, pmU]) hfl (by decide +kernel) rfl (Nat.le_of_ble_eq_true rfl) rfl (Nat.le_of_ble_eq_true rfl) ?_
  unfold X8_firstWinning
  refine pm_iconst (v := 0) dX8_firstWinning_0 ki_0 ?_
  refine pm_istore_n (ls2 := [.ref a0, .int a1, .int a2, .int 0, pmU, pmU, pmU, pmU, pmU]) dX8_firstWinning_1 rfl rfl (Nat.le_of_ble_eq_true rfl) rfl ?_
  exact gX8_firstWinning_L2 hfl a0 a1 a2 pm_N (0, m)
-- StruckPage.argument(II)I
abbrev zX8_argument : pmY := (⟨"StruckPage", "argument", "(II)I"⟩, cX8_argument, 5, some .int, [])
def X8_argument_j85 (t0 : Int32) (m : pmM) : pmR := pm_oI t0 m
def X8_argument_j65 (again28 : (Int32 × Int32 × pmM) → pmR) (l0 : Nat) (l1 : Int32) (l2 : Int32) (l3 : Int32) (l4 : Int32) (m : pmM) : pmR := pm_bI (l4 + 1) fun x7 => again28 (l3, x7, m)
def X8_argument_L28 (l0 : Nat) (l1 : Int32) (l2 : Int32) (again28 : (Int32 × Int32 × pmM) → pmR) (s28 : Int32 × Int32 × pmM) : pmR := pm_gR 8 l0 1 s28.2.2 fun r3 => pm_gI 2 r3 3 s28.2.2 fun x4 => if x4 ≤ s28.2.1 then (if l2 = 0 then (X8_argument_j85 s28.1 s28.2.2) else (pm_rc 8 l0 s28.2.2 <| pm_cI (X8_firstWinning l0 l1 s28.1 s28.2.2) fun x6 m5 => X8_argument_j85 x6 m5)) else (if ((l1 >>> (s28.2.1 &&& 31)) &&& 1) = 1 then (pm_gR 8 l0 8 s28.2.2 fun r8 => pm_rc 0 r8 s28.2.2 <| pm_cI (X0_leftBits r8 s28.2.1 s28.2.2) fun x10 m9 => pm_cI (X4_valueOf x10 m9) fun x12 m11 => pm_bI (s28.1 ^^^ x12) fun x13 => X8_argument_j65 again28 l0 l1 l2 x13 s28.2.1 m11) else (X8_argument_j65 again28 l0 l1 l2 s28.1 s28.2.1 s28.2.2))
def X8_argument_j20 (l0 : Nat) (l1 : Int32) (l2 : Int32) (t0 : Int32) (t1 : Nat) (m : pmM) : pmR := pm_rc 8 t1 m <| pm_cV (X8_must t1 t0 m) fun m2 => pm_lp pm_N (X8_argument_L28 l0 l1 l2) (0, 0, m2)
def X8_argument_j15 (l0 : Nat) (l1 : Int32) (l2 : Int32) (t0 : Nat) (m : pmM) : pmR := X8_argument_j20 l0 l1 l2 1 t0 m
def X8_argument (a0 : Nat) (a1 : Int32) (a2 : Int32) (m : pmM) : pmR := pm_rc 8 a0 m <| pm_cV (X8_mustBeBits a0 a1 m) fun m1 => if a2 = 0 then (X8_argument_j15 a0 a1 a2 a0 m1) else (if a2 = 1 then (X8_argument_j15 a0 a1 a2 a0 m1) else (X8_argument_j20 a0 a1 a2 0 a0 m1))
theorem zkX8_argument : pm_zOk zX8_argument 2 := ⟨rfl, tw_1239, tw_158, by decide +kernel, by decide⟩
set_option maxRecDepth 100000 in
set_option maxHeartbeats 4000000 in
theorem gX8_argument_j85 (hfl : l.flags = flags0) (t0 : Int32) (m : pmM) : pm_G l Γ zX8_argument (d + 3) 85 [pmU, pmU, pmU, pmU, pmU] [.int t0] m (X8_argument_j85 t0 m) := by
  unfold X8_argument_j85
  exact pm_iret rfl dX8_argument_85
set_option maxRecDepth 100000 in
set_option maxHeartbeats 4000000 in
theorem gX8_argument_j65 (hfl : l.flags = flags0) (again28 : (Int32 × Int32 × pmM) → pmR) (l0 : Nat) (l1 : Int32) (l2 : Int32) (l3 : Int32) (l4 : Int32) (m : pmM) (hag28 : ∀ s : Int32 × Int32 × pmM, pm_G l Γ zX8_argument (d + 3) 28 [.ref l0, .int l1, .int l2, .int s.1, .int s.2.1] [] s.2.2 (again28 s)) : pm_G l Γ zX8_argument (d + 3) 65 [.ref l0, .int l1, .int l2, .int l3, .int l4] [] m (X8_argument_j65 again28 l0 l1 l2 l3 l4 m) := by
  unfold X8_argument_j65
  refine pm_iincn (y := zX8_argument) dX8_argument_65 rfl ki_1 rfl (Nat.le_of_ble_eq_true rfl) (fun x7 => ?_)
  refine pm_eqls (ls2 := [.ref l0, .int l1, .int l2, .int l3, .int x7]) rfl ?_
  refine pm_goto (tgt := 28) dX8_argument_68 rfl ?_
  exact hag28 (l3, x7, m)
set_option maxRecDepth 100000 in
set_option maxHeartbeats 4000000 in
theorem gX8_argument_L28 (hfl : l.flags = flags0) (l0 : Nat) (l1 : Int32) (l2 : Int32) : ∀ (n : Nat) (s : Int32 × Int32 × pmM), pm_G l Γ zX8_argument (d + 3) 28 [.ref l0, .int l1, .int l2, .int s.1, .int s.2.1] [] s.2.2 (pm_lp n (X8_argument_L28 l0 l1 l2) s) :=
  pm_loop (lsf := fun s : Int32 × Int32 × pmM => [.ref l0, .int l1, .int l2, .int s.1, .int s.2.1]) (mf := fun s : Int32 × Int32 × pmM => s.2.2) (fun again28 hag28 s28 => by
    unfold X8_argument_L28
    refine pm_iload dX8_argument_28 rfl ?_
    refine pm_aload_n dX8_argument_30 rfl rfl ?_
    refine fg_8_1 (y := zX8_argument) (Or.inl tw_441) dX8_argument_31 (fun r3 => ?_)
    refine fg_2_3 (y := zX8_argument) (Or.inr tw_248) dX8_argument_34 (fun x4 => ?_)
    refine pm_icmp_ge (tgt := 71) dX8_argument_37 rfl ?_ ?_
    · refine pm_iload_n dX8_argument_71 rfl rfl ?_
      refine pm_if_ne (tgt := 79) dX8_argument_72 rfl ?_ ?_
      · refine pm_aload_n dX8_argument_79 rfl rfl ?_
        refine pm_iload_n dX8_argument_80 rfl rfl ?_
        refine pm_iload_n dX8_argument_81 rfl rfl ?_
        refine pm_rcv (fun hb9 hc9 => ?_)
        refine pm_kI rfl (pm_V (y := zX8_argument) (z := zX8_firstWinning) (As := [.int l1, .int s28.1]) zkX8_firstWinning pm_q8 (by decide) tw_1244 tw_1246 tw_91 dX8_argument_82 rfl rfl (Nat.le_of_ble_eq_true rfl) hb9 hc9) (kcX8_firstWinning hfl l0 l1 s28.1 s28.2.2) (fun x6 m5 => ?_)
        refine pm_drop (ls2 := [pmU, pmU, pmU, pmU, pmU]) (Nat.le_refl _) (pm_le_spec (pm_le_u (pm_le_u (pm_le_u (pm_le_u (pm_le_u (pm_le_n))))))) ?_
        exact gX8_argument_j85 hfl x6 m5
      · refine pm_iload_n dX8_argument_75 rfl rfl ?_
        refine pm_goto (tgt := 85) dX8_argument_76 rfl ?_
        refine pm_drop (ls2 := [pmU, pmU, pmU, pmU, pmU]) (Nat.le_refl _) (pm_le_spec (pm_le_u (pm_le_u (pm_le_u (pm_le_u (pm_le_u (pm_le_n))))))) ?_
        exact gX8_argument_j85 hfl s28.1 s28.2.2
    · refine pm_iload_n dX8_argument_40 rfl rfl ?_
      refine pm_iload dX8_argument_41 rfl ?_
      refine pm_ishr dX8_argument_43 ?_
      refine pm_iconst (v := 1) dX8_argument_44 ki_1 ?_
      refine pm_iand dX8_argument_45 ?_
      refine pm_iconst (v := 1) dX8_argument_46 ki_1 ?_
      refine pm_icmp_ne (tgt := 65) dX8_argument_47 rfl ?_ ?_
      · exact gX8_argument_j65 hfl again28 l0 l1 l2 s28.1 s28.2.1 s28.2.2 hag28
      · refine pm_iload_n dX8_argument_50 rfl rfl ?_
        refine pm_aload_n dX8_argument_51 rfl rfl ?_
        refine fg_8_8 (y := zX8_argument) (Or.inl tw_448) dX8_argument_52 (fun r8 => ?_)
        refine pm_iload dX8_argument_55 rfl ?_
        refine pm_rcv (fun hb9 hc9 => ?_)
        refine pm_kI rfl (pm_VN (y := zX8_argument) (z := zX0_leftBits) (As := [.int s28.2.1]) zkX0_leftBits pm_q0 (by decide) tw_1227 tw_567 tw_10 dX8_argument_57 rfl rfl (Nat.le_of_ble_eq_true rfl) hb9 hc9) (kcX0_leftBits hfl r8 s28.2.1 s28.2.2) (fun x10 m9 => ?_)
        refine pm_kI rfl (pm_SN (y := zX8_argument) (z := zX4_valueOf) (As := [.int x10]) zkX4_valueOf tw_1228 tw_1229 dX8_argument_60 rfl rfl (Nat.le_of_ble_eq_true rfl)) (kcX4_valueOf hfl x10 m9) (fun x12 m11 => ?_)
        refine pm_ixor dX8_argument_63 ?_
        refine pm_bIn (fun x13 => ?_)
        refine pm_istore_n (ls2 := [.ref l0, .int l1, .int l2, .int x13, .int s28.2.1]) dX8_argument_64 rfl rfl (Nat.le_of_ble_eq_true rfl) rfl ?_
        exact gX8_argument_j65 hfl again28 l0 l1 l2 x13 s28.2.1 m11 hag28)
set_option maxRecDepth 100000 in
set_option maxHeartbeats 4000000 in
theorem gX8_argument_j20 (hfl : l.flags = flags0) (l0 : Nat) (l1 : Int32) (l2 : Int32) (t0 : Int32) (t1 : Nat) (m : pmM) : pm_G l Γ zX8_argument (d + 3) 20 [.ref l0, .int l1, .int l2, pmU, pmU] [.int t0, .ref t1] m (X8_argument_j20 l0 l1 l2 t0 t1 m) := by
  unfold X8_argument_j20
  refine pm_rcv (fun hb9 hc9 => ?_)
  refine pm_kV rfl (pm_V (y := zX8_argument) (z := zX8_must) (As := [.int t0]) zkX8_must pm_q8 (by decide) tw_687 tw_689 tw_30 dX8_argument_20 rfl rfl (Nat.le_of_ble_eq_true rfl) hb9 hc9) (kcX8_must hfl t1 t0 m) (fun m2 => ?_)
  refine pm_iconst (v := 0) dX8_argument_23 ki_0 ?_
  refine pm_istore_n (ls2 := [.ref l0, .int l1, .int l2, .int 0, pmU]) dX8_argument_24 rfl rfl (Nat.le_of_ble_eq_true rfl) rfl ?_
  refine pm_iconst (v := 0) dX8_argument_25 ki_0 ?_
  refine pm_istore (ls2 := [.ref l0, .int l1, .int l2, .int 0, .int 0]) dX8_argument_26 rfl (Nat.le_of_ble_eq_true rfl) rfl ?_
  exact gX8_argument_L28 hfl l0 l1 l2 pm_N (0, 0, m2)
set_option maxRecDepth 100000 in
set_option maxHeartbeats 4000000 in
theorem gX8_argument_j15 (hfl : l.flags = flags0) (l0 : Nat) (l1 : Int32) (l2 : Int32) (t0 : Nat) (m : pmM) : pm_G l Γ zX8_argument (d + 3) 15 [.ref l0, .int l1, .int l2, pmU, pmU] [.ref t0] m (X8_argument_j15 l0 l1 l2 t0 m) := by
  unfold X8_argument_j15
  refine pm_iconst (v := 1) dX8_argument_15 ki_1 ?_
  refine pm_goto (tgt := 20) dX8_argument_16 rfl ?_
  exact gX8_argument_j20 hfl l0 l1 l2 1 t0 m
set_option maxRecDepth 100000 in
set_option maxHeartbeats 4000000 in
theorem kcX8_argument (hfl : l.flags = flags0) (a0 : Nat) (a1 : Int32) (a2 : Int32) (m : pmM) : pm_C l Γ zX8_argument (d + 3) [.ref a0, .int a1, .int a2] m (X8_argument a0 a1 a2 m) := by
  refine pm_enter (ls := [.ref a0, .int a1, .int a2, pmU, pmU]) hfl (by decide +kernel) rfl (Nat.le_of_ble_eq_true rfl) rfl (Nat.le_of_ble_eq_true rfl) ?_
  unfold X8_argument
  refine pm_aload_n dX8_argument_0 rfl rfl ?_
  refine pm_iload_n dX8_argument_1 rfl rfl ?_
  refine pm_rcv (fun hb9 hc9 => ?_)
  refine pm_kV rfl (pm_V (y := zX8_argument) (z := zX8_mustBeBits) (As := [.int a1]) zkX8_mustBeBits pm_q8 (by decide) tw_1240 tw_1242 tw_90 dX8_argument_2 rfl rfl (Nat.le_of_ble_eq_true rfl) hb9 hc9) (kcX8_mustBeBits hfl a0 a1 m) (fun m1 => ?_)
  refine pm_aload_n dX8_argument_5 rfl rfl ?_
  refine pm_iload_n dX8_argument_6 rfl rfl ?_
  refine pm_if_eq (tgt := 15) dX8_argument_7 rfl ?_ ?_
  · exact gX8_argument_j15 hfl a0 a1 a2 a0 m1
  · refine pm_iload_n dX8_argument_10 rfl rfl ?_
    refine pm_iconst (v := 1) dX8_argument_11 ki_1 ?_
    refine pm_icmp_ne (tgt := 19) dX8_argument_12 rfl ?_ ?_
    · refine pm_iconst (v := 0) dX8_argument_19 ki_0 ?_
      exact gX8_argument_j20 hfl a0 a1 a2 0 a0 m1
    · exact gX8_argument_j15 hfl a0 a1 a2 a0 m1
-- StruckPage.common(II)I
abbrev zX8_common : pmY := (⟨"StruckPage", "common", "(II)I"⟩, cX8_common, 3, some .int, [])
def X8_common (a0 : Nat) (a1 : Int32) (a2 : Int32) (m : pmM) : pmR := pm_rc 8 a0 m <| pm_cV (X8_mustBeLine a0 a1 m) fun m1 => pm_rc 8 a0 m1 <| pm_cV (X8_mustBeLine a0 a2 m1) fun m2 => pm_gR 8 a0 11 m2 fun r3 => pm_gR 8 a0 8 m2 fun r4 => pm_rc 4 r3 m2 <| pm_cI (X4_longestInBoth r3 r4 a1 a2 m2) fun x6 m5 => pm_oI x6 m5
theorem zkX8_common : pm_zOk zX8_common 2 := ⟨rfl, tw_1254, tw_158, by decide +kernel, by decide⟩
set_option maxRecDepth 100000 in
set_option maxHeartbeats 4000000 in
theorem kcX8_common (hfl : l.flags = flags0) (a0 : Nat) (a1 : Int32) (a2 : Int32) (m : pmM) : pm_C l Γ zX8_common (d + 5) [.ref a0, .int a1, .int a2] m (X8_common a0 a1 a2 m) := by
  refine pm_enter (ls := [.ref a0, .int a1, .int a2]) hfl (by decide +kernel) rfl (Nat.le_of_ble_eq_true rfl) rfl (Nat.le_of_ble_eq_true rfl) ?_
  unfold X8_common
  refine pm_aload_n dX8_common_0 rfl rfl ?_
  refine pm_iload_n dX8_common_1 rfl rfl ?_
  refine pm_rcv (fun hb9 hc9 => ?_)
  refine pm_kV rfl (pm_V (y := zX8_common) (z := zX8_mustBeLine) (As := [.int a1]) zkX8_mustBeLine pm_q8 (by decide) tw_1107 tw_1109 tw_83 dX8_common_2 rfl rfl (Nat.le_of_ble_eq_true rfl) hb9 hc9) (kcX8_mustBeLine hfl a0 a1 m) (fun m1 => ?_)
  refine pm_aload_n dX8_common_5 rfl rfl ?_
  refine pm_iload_n dX8_common_6 rfl rfl ?_
  refine pm_rcv (fun hb9 hc9 => ?_)
  refine pm_kV rfl (pm_V (y := zX8_common) (z := zX8_mustBeLine) (As := [.int a2]) zkX8_mustBeLine pm_q8 (by decide) tw_1107 tw_1109 tw_83 dX8_common_7 rfl rfl (Nat.le_of_ble_eq_true rfl) hb9 hc9) (kcX8_mustBeLine hfl a0 a2 m1) (fun m2 => ?_)
  refine pm_aload_n dX8_common_10 rfl rfl ?_
  refine fg_8_11 (y := zX8_common) (Or.inl tw_451) dX8_common_11 (fun r3 => ?_)
  refine pm_aload_n dX8_common_14 rfl rfl ?_
  refine fg_8_8 (y := zX8_common) (Or.inl tw_448) dX8_common_15 (fun r4 => ?_)
  refine pm_iload_n dX8_common_18 rfl rfl ?_
  refine pm_iload_n dX8_common_19 rfl rfl ?_
  refine pm_rcv (fun hb9 hc9 => ?_)
  refine pm_kI rfl (pm_VN (y := zX8_common) (z := zX4_longestInBoth) (As := [.ref r4, .int a1, .int a2]) zkX4_longestInBoth pm_q4 (by decide) tw_1255 tw_1257 tw_92 dX8_common_20 rfl rfl (Nat.le_of_ble_eq_true rfl) hb9 hc9) (kcX4_longestInBoth hfl r3 r4 a1 a2 m2) (fun x6 m5 => ?_)
  exact pm_iret rfl dX8_common_23
-- StruckPage.givenBy(II)I
abbrev zX8_givenBy : pmY := (⟨"StruckPage", "givenBy", "(II)I"⟩, cX8_givenBy, 5, some .int, [])
def X8_givenBy_j43 (again5 : (Int32 × Int32 × pmM) → pmR) (l0 : Nat) (l1 : Int32) (l2 : Int32) (l3 : Int32) (l4 : Int32) (m : pmM) : pmR := pm_bI (l4 + 1) fun x3 => again5 (l3, x3, m)
def X8_givenBy_L5 (l0 : Nat) (l1 : Int32) (l2 : Int32) (again5 : (Int32 × Int32 × pmM) → pmR) (s5 : Int32 × Int32 × pmM) : pmR := pm_gR 8 l0 1 s5.2.2 fun r1 => pm_gI 2 r1 3 s5.2.2 fun x2 => if x2 ≤ s5.2.1 then (pm_oI s5.1 s5.2.2) else (if ((l1 >>> (s5.2.1 &&& 31)) &&& 1) = 1 then (pm_gR 8 l0 8 s5.2.2 fun r4 => pm_rc 0 r4 s5.2.2 <| pm_cI (X0_leftIn r4 s5.2.1 s5.2.2) fun x6 m5 => pm_bI (s5.1 + (if l2 < x6 then l2 else x6)) fun x7 => X8_givenBy_j43 again5 l0 l1 l2 x7 s5.2.1 m5) else (X8_givenBy_j43 again5 l0 l1 l2 s5.1 s5.2.1 s5.2.2))
def X8_givenBy (a0 : Nat) (a1 : Int32) (a2 : Int32) (m : pmM) : pmR := pm_lp pm_N (X8_givenBy_L5 a0 a1 a2) (0, 0, m)
theorem zkX8_givenBy : pm_zOk zX8_givenBy 2 := ⟨rfl, tw_1298, tw_158, by decide +kernel, by decide⟩
set_option maxRecDepth 100000 in
set_option maxHeartbeats 4000000 in
theorem gX8_givenBy_j43 (hfl : l.flags = flags0) (again5 : (Int32 × Int32 × pmM) → pmR) (l0 : Nat) (l1 : Int32) (l2 : Int32) (l3 : Int32) (l4 : Int32) (m : pmM) (hag5 : ∀ s : Int32 × Int32 × pmM, pm_G l Γ zX8_givenBy (d + 2) 5 [.ref l0, .int l1, .int l2, .int s.1, .int s.2.1] [] s.2.2 (again5 s)) : pm_G l Γ zX8_givenBy (d + 2) 43 [.ref l0, .int l1, .int l2, .int l3, .int l4] [] m (X8_givenBy_j43 again5 l0 l1 l2 l3 l4 m) := by
  unfold X8_givenBy_j43
  refine pm_iincn (y := zX8_givenBy) dX8_givenBy_43 rfl ki_1 rfl (Nat.le_of_ble_eq_true rfl) (fun x3 => ?_)
  refine pm_eqls (ls2 := [.ref l0, .int l1, .int l2, .int l3, .int x3]) rfl ?_
  refine pm_goto (tgt := 5) dX8_givenBy_46 rfl ?_
  exact hag5 (l3, x3, m)
set_option maxRecDepth 100000 in
set_option maxHeartbeats 4000000 in
theorem gX8_givenBy_L5 (hfl : l.flags = flags0) (l0 : Nat) (l1 : Int32) (l2 : Int32) : ∀ (n : Nat) (s : Int32 × Int32 × pmM), pm_G l Γ zX8_givenBy (d + 2) 5 [.ref l0, .int l1, .int l2, .int s.1, .int s.2.1] [] s.2.2 (pm_lp n (X8_givenBy_L5 l0 l1 l2) s) :=
  pm_loop (lsf := fun s : Int32 × Int32 × pmM => [.ref l0, .int l1, .int l2, .int s.1, .int s.2.1]) (mf := fun s : Int32 × Int32 × pmM => s.2.2) (fun again5 hag5 s5 => by
    unfold X8_givenBy_L5
    refine pm_iload dX8_givenBy_5 rfl ?_
    refine pm_aload_n dX8_givenBy_7 rfl rfl ?_
    refine fg_8_1 (y := zX8_givenBy) (Or.inl tw_441) dX8_givenBy_8 (fun r1 => ?_)
    refine fg_2_3 (y := zX8_givenBy) (Or.inr tw_248) dX8_givenBy_11 (fun x2 => ?_)
    refine pm_icmp_ge (tgt := 49) dX8_givenBy_14 rfl ?_ ?_
    · refine pm_iload_n dX8_givenBy_49 rfl rfl ?_
      exact pm_iret rfl dX8_givenBy_50
    · refine pm_iload_n dX8_givenBy_17 rfl rfl ?_
      refine pm_iload dX8_givenBy_18 rfl ?_
      refine pm_ishr dX8_givenBy_20 ?_
      refine pm_iconst (v := 1) dX8_givenBy_21 ki_1 ?_
      refine pm_iand dX8_givenBy_22 ?_
      refine pm_iconst (v := 1) dX8_givenBy_23 ki_1 ?_
      refine pm_icmp_ne (tgt := 43) dX8_givenBy_24 rfl ?_ ?_
      · exact gX8_givenBy_j43 hfl again5 l0 l1 l2 s5.1 s5.2.1 s5.2.2 hag5
      · refine pm_iload_n dX8_givenBy_27 rfl rfl ?_
        refine pm_aload_n dX8_givenBy_28 rfl rfl ?_
        refine fg_8_8 (y := zX8_givenBy) (Or.inl tw_448) dX8_givenBy_29 (fun r4 => ?_)
        refine pm_iload dX8_givenBy_32 rfl ?_
        refine pm_rcv (fun hb9 hc9 => ?_)
        refine pm_kI rfl (pm_VN (y := zX8_givenBy) (z := zX0_leftIn) (As := [.int s5.2.1]) zkX0_leftIn pm_q0 (by decide) tw_1095 tw_1097 tw_82 dX8_givenBy_34 rfl rfl (Nat.le_of_ble_eq_true rfl) hb9 hc9) (kcX0_leftIn hfl r4 s5.2.1 s5.2.2) (fun x6 m5 => ?_)
        refine pm_iload_n dX8_givenBy_37 rfl rfl ?_
        refine pm_min (y := zX8_givenBy) tw_1299 tw_596 tw_173 tw_597 dX8_givenBy_38 (Nat.le_of_ble_eq_true rfl) ?_
        refine pm_iadd dX8_givenBy_41 ?_
        refine pm_bIn (fun x7 => ?_)
        refine pm_istore_n (ls2 := [.ref l0, .int l1, .int l2, .int x7, .int s5.2.1]) dX8_givenBy_42 rfl rfl (Nat.le_of_ble_eq_true rfl) rfl ?_
        exact gX8_givenBy_j43 hfl again5 l0 l1 l2 x7 s5.2.1 m5 hag5)
set_option maxRecDepth 100000 in
set_option maxHeartbeats 4000000 in
theorem kcX8_givenBy (hfl : l.flags = flags0) (a0 : Nat) (a1 : Int32) (a2 : Int32) (m : pmM) : pm_C l Γ zX8_givenBy (d + 2) [.ref a0, .int a1, .int a2] m (X8_givenBy a0 a1 a2 m) := by
  refine pm_enter (ls := [.ref a0, .int a1, .int a2, pmU, pmU]) hfl (by decide +kernel) rfl (Nat.le_of_ble_eq_true rfl) rfl (Nat.le_of_ble_eq_true rfl) ?_
  unfold X8_givenBy
  refine pm_iconst (v := 0) dX8_givenBy_0 ki_0 ?_
  refine pm_istore_n (ls2 := [.ref a0, .int a1, .int a2, .int 0, pmU]) dX8_givenBy_1 rfl rfl (Nat.le_of_ble_eq_true rfl) rfl ?_
  refine pm_iconst (v := 0) dX8_givenBy_2 ki_0 ?_
  refine pm_istore (ls2 := [.ref a0, .int a1, .int a2, .int 0, .int 0]) dX8_givenBy_3 rfl (Nat.le_of_ble_eq_true rfl) rfl ?_
  exact gX8_givenBy_L5 hfl a0 a1 a2 pm_N (0, 0, m)
end GEN12
