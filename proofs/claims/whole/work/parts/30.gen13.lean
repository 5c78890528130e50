section GEN13
variable {l : Launch} {Γ : pmG} {d : Nat}
-- StruckPage.duel(III)I
def X8_duel_j149 (t0 : Int32) (m : pmM) : pmR := pm_oI t0 m
def X8_duel_j116 (again50 : (Int32 × Int32 × Int32 × Int32 × pmM) → pmR) (again59 : (Int32 × Int32 × Int32 × Int32 × pmM) → pmR) (l1 : Int32) (l2 : Int32) (l3 : Int32) (l4 : Int32) (l5 : Int32) (l6 : Int32) (l7 : Int32) (l8 : Int32) (m : pmM) : pmR := pm_bI (l8 + 1) fun x5 => again59 (l4, l5, l6, x5, m)
def X8_duel_j113 (again50 : (Int32 × Int32 × Int32 × Int32 × pmM) → pmR) (again59 : (Int32 × Int32 × Int32 × Int32 × pmM) → pmR) (l1 : Int32) (l2 : Int32) (l3 : Int32) (l4 : Int32) (l5 : Int32) (l6 : Int32) (l7 : Int32) (l8 : Int32) (m : pmM) : pmR := pm_bI (l4 + 1) fun x6 => X8_duel_j116 again50 again59 l1 l2 l3 x6 l5 l6 l7 l8 m
def X8_duel_L59 (again50 : (Int32 × Int32 × Int32 × Int32 × pmM) → pmR) (l1 : Int32) (l2 : Int32) (l3 : Int32) (l7 : Int32) (again59 : (Int32 × Int32 × Int32 × Int32 × pmM) → pmR) (s59 : Int32 × Int32 × Int32 × Int32 × pmM) : pmR := if (1 : Int32) < s59.2.2.2.1 then (pm_bI (l7 + 1) fun x2 => again50 (s59.1, s59.2.1, s59.2.2.1, x2, s59.2.2.2.2)) else (pm_cI (X8_restsThere l1 l2 l7 s59.2.2.2.1 s59.2.2.2.2) fun x4 m3 => if x4 = 0 then (X8_duel_j116 again50 again59 l1 l2 l3 s59.1 s59.2.1 s59.2.2.1 l7 s59.2.2.2.1 m3) else (if s59.1 = 0 then (pm_bI (((10 : Int32) * l7) + s59.2.2.2.1) fun x7 => pm_cI (X8_hadBy l1 l2 l7 s59.2.2.2.1 m3) fun x9 m8 => pm_cI (X8_hadBy l1 l2 s59.2.2.2.1 l7 m8) fun x11 m10 => pm_bI (x9 + x11) fun x12 => X8_duel_j113 again50 again59 l1 l2 l3 s59.1 x7 x12 l7 s59.2.2.2.1 m10) else (X8_duel_j113 again50 again59 l1 l2 l3 s59.1 s59.2.1 s59.2.2.1 l7 s59.2.2.2.1 m3)))
def X8_duel_L50 (l1 : Int32) (l2 : Int32) (l3 : Int32) (again50 : (Int32 × Int32 × Int32 × Int32 × pmM) → pmR) (s50 : Int32 × Int32 × Int32 × Int32 × pmM) : pmR := if (1 : Int32) < s50.2.2.2.1 then (if l3 = 0 then (X8_duel_j149 s50.1 s50.2.2.2.2) else (if l3 = 1 then (X8_duel_j149 s50.2.1 s50.2.2.2.2) else (X8_duel_j149 s50.2.2.1 s50.2.2.2.2))) else (pm_lp pm_N (X8_duel_L59 again50 l1 l2 l3 s50.2.2.2.1) (s50.1, s50.2.1, s50.2.2.1, 0, s50.2.2.2.2))
def X8_duel_j35 (l1 : Int32) (l2 : Int32) (l3 : Int32) (t0 : Int32) (t1 : Nat) (m : pmM) : pmR := pm_rc 8 t1 m <| pm_cV (X8_must t1 t0 m) fun m1 => pm_lp pm_N (X8_duel_L50 l1 l2 l3) (0, (-1), 0, 0, m1)
def X8_duel_j34 (l1 : Int32) (l2 : Int32) (l3 : Int32) (t0 : Nat) (m : pmM) : pmR := X8_duel_j35 l1 l2 l3 0 t0 m
def X8_duel (a0 : Nat) (a1 : Int32) (a2 : Int32) (a3 : Int32) (m : pmM) : pmR := if a1 < 0 then (X8_duel_j34 a1 a2 a3 a0 m) else (if (99 : Int32) < a1 then (X8_duel_j34 a1 a2 a3 a0 m) else (if a2 < 0 then (X8_duel_j34 a1 a2 a3 a0 m) else (if (99 : Int32) < a2 then (X8_duel_j34 a1 a2 a3 a0 m) else (if a3 < 0 then (X8_duel_j34 a1 a2 a3 a0 m) else (if (2 : Int32) < a3 then (X8_duel_j34 a1 a2 a3 a0 m) else (X8_duel_j35 a1 a2 a3 1 a0 m))))))
set_option maxRecDepth 100000 in
set_option maxHeartbeats 4000000 in
theorem gX8_duel_j149 (hfl : l.flags = flags0) (t0 : Int32) (m : pmM) : pm_G l Γ zX8_duel (d + 2) 149 [pmU, pmU, pmU, pmU, pmU, pmU, pmU, pmU, pmU] [.int t0] m (X8_duel_j149 t0 m) := by
  unfold X8_duel_j149
  exact pm_iret rfl dX8_duel_149
set_option maxRecDepth 100000 in
set_option maxHeartbeats 4000000 in
theorem gX8_duel_j116 (hfl : l.flags = flags0) (again50 : (Int32 × Int32 × Int32 × Int32 × pmM) → pmR) (again59 : (Int32 × Int32 × Int32 × Int32 × pmM) → pmR) (l1 : Int32) (l2 : Int32) (l3 : Int32) (l4 : Int32) (l5 : Int32) (l6 : Int32) (l7 : Int32) (l8 : Int32) (m : pmM) (hag50 : ∀ s : Int32 × Int32 × Int32 × Int32 × pmM, pm_G l Γ zX8_duel (d + 2) 50 [pmU, .int l1, .int l2, .int l3, .int s.1, .int s.2.1, .int s.2.2.1, .int s.2.2.2.1, pmU] [] s.2.2.2.2 (again50 s)) (hag59 : ∀ s : Int32 × Int32 × Int32 × Int32 × pmM, pm_G l Γ zX8_duel (d + 2) 59 [pmU, .int l1, .int l2, .int l3, .int s.1, .int s.2.1, .int s.2.2.1, .int l7, .int s.2.2.2.1] [] s.2.2.2.2 (again59 s)) : pm_G l Γ zX8_duel (d + 2) 116 [pmU, .int l1, .int l2, .int l3, .int l4, .int l5, .int l6, .int l7, .int l8] [] m (X8_duel_j116 again50 again59 l1 l2 l3 l4 l5 l6 l7 l8 m) := by
  unfold X8_duel_j116
  refine pm_iincn (y := zX8_duel) dX8_duel_116 rfl ki_1 rfl (Nat.le_of_ble_eq_true rfl) (fun x5 => ?_)
  refine pm_eqls (ls2 := [pmU, .int l1, .int l2, .int l3, .int l4, .int l5, .int l6, .int l7, .int x5]) rfl ?_
  refine pm_goto (tgt := 59) dX8_duel_119 rfl ?_
  exact hag59 (l4, l5, l6, x5, m)
set_option maxRecDepth 100000 in
set_option maxHeartbeats 4000000 in
theorem gX8_duel_j113 (hfl : l.flags = flags0) (again50 : (Int32 × Int32 × Int32 × Int32 × pmM) → pmR) (again59 : (Int32 × Int32 × Int32 × Int32 × pmM) → pmR) (l1 : Int32) (l2 : Int32) (l3 : Int32) (l4 : Int32) (l5 : Int32) (l6 : Int32) (l7 : Int32) (l8 : Int32) (m : pmM) (hag50 : ∀ s : Int32 × Int32 × Int32 × Int32 × pmM, pm_G l Γ zX8_duel (d + 2) 50 [pmU, .int l1, .int l2, .int l3, .int s.1, .int s.2.1, .int s.2.2.1, .int s.2.2.2.1, pmU] [] s.2.2.2.2 (again50 s)) (hag59 : ∀ s : Int32 × Int32 × Int32 × Int32 × pmM, pm_G l Γ zX8_duel (d + 2) 59 [pmU, .int l1, .int l2, .int l3, .int s.1, .int s.2.1, .int s.2.2.1, .int l7, .int s.2.2.2.1] [] s.2.2.2.2 (again59 s)) : pm_G l Γ zX8_duel (d + 2) 113 [pmU, .int l1, .int l2, .int l3, .int l4, .int l5, .int l6, .int l7, .int l8] [] m (X8_duel_j113 again50 again59 l1 l2 l3 l4 l5 l6 l7 l8 m) := by
  unfold X8_duel_j113
  refine pm_iincn (y := zX8_duel) dX8_duel_113 rfl ki_1 rfl (Nat.le_of_ble_eq_true rfl) (fun x6 => ?_)
  refine pm_eqls (ls2 := [pmU, .int l1, .int l2, .int l3, .int x6, .int l5, .int l6, .int l7, .int l8]) rfl ?_
  exact gX8_duel_j116 hfl again50 again59 l1 l2 l3 x6 l5 l6 l7 l8 m hag50 hag59
set_option maxRecDepth 100000 in
set_option maxHeartbeats 4000000 in
theorem gX8_duel_L59 (hfl : l.flags = flags0) (again50 : (Int32 × Int32 × Int32 × Int32 × pmM) → pmR) (l1 : Int32) (l2 : Int32) (l3 : Int32) (l7 : Int32) (hag50 : ∀ s : Int32 × Int32 × Int32 × Int32 × pmM, pm_G l Γ zX8_duel (d + 2) 50 [pmU, .int l1, .int l2, .int l3, .int s.1, .int s.2.1, .int s.2.2.1, .int s.2.2.2.1, pmU] [] s.2.2.2.2 (again50 s)) : ∀ (n : Nat) (s : Int32 × Int32 × Int32 × Int32 × pmM), pm_G l Γ zX8_duel (d + 2) 59 [pmU, .int l1, .int l2, .int l3, .int s.1, .int s.2.1, .int s.2.2.1, .int l7, .int s.2.2.2.1] [] s.2.2.2.2 (pm_lp n (X8_duel_L59 again50 l1 l2 l3 l7) s) :=
  pm_loop (lsf := fun s : Int32 × Int32 × Int32 × Int32 × pmM => [pmU, .int l1, .int l2, .int l3, .int s.1, .int s.2.1, .int s.2.2.1, .int l7, .int s.2.2.2.1]) (mf := fun s : Int32 × Int32 × Int32 × Int32 × pmM => s.2.2.2.2) (fun again59 hag59 s59 => by
    unfold X8_duel_L59
    refine pm_iload dX8_duel_59 rfl ?_
    refine pm_iconst (v := 1) dX8_duel_61 ki_1 ?_
    refine pm_icmp_gt (tgt := 122) dX8_duel_62 rfl ?_ ?_
    · refine pm_iincn (y := zX8_duel) dX8_duel_122 rfl ki_1 rfl (Nat.le_of_ble_eq_true rfl) (fun x2 => ?_)
      refine pm_eqls (ls2 := [pmU, .int l1, .int l2, .int l3, .int s59.1, .int s59.2.1, .int s59.2.2.1, .int x2, .int s59.2.2.2.1]) rfl ?_
      refine pm_goto (tgt := 50) dX8_duel_125 rfl ?_
      refine pm_drop (ls2 := [pmU, .int l1, .int l2, .int l3, .int s59.1, .int s59.2.1, .int s59.2.2.1, .int x2, pmU]) (Nat.le_refl _) (pm_le_spec (pm_le_u (pm_le_v (pm_le_v (pm_le_v (pm_le_v (pm_le_v (pm_le_v (pm_le_v (pm_le_u (pm_le_n))))))))))) ?_
      exact hag50 (s59.1, s59.2.1, s59.2.2.1, x2, s59.2.2.2.2)
    · refine pm_iload_n dX8_duel_65 rfl rfl ?_
      refine pm_iload_n dX8_duel_66 rfl rfl ?_
      refine pm_iload dX8_duel_67 rfl ?_
      refine pm_iload dX8_duel_69 rfl ?_
      refine pm_kI (d := d + 1) rfl (pm_S (y := zX8_duel) (z := zX8_restsThere) (As := [.int l1, .int l2, .int l7, .int s59.2.2.2.1]) zkX8_restsThere tw_1260 tw_1261 dX8_duel_71 rfl rfl (Nat.le_of_ble_eq_true rfl)) (kcX8_restsThere (d := d + 0) hfl l1 l2 l7 s59.2.2.2.1 s59.2.2.2.2) (fun x4 m3 => ?_)
      refine pm_if_eq (tgt := 116) dX8_duel_74 rfl ?_ ?_
      · exact gX8_duel_j116 hfl again50 again59 l1 l2 l3 s59.1 s59.2.1 s59.2.2.1 l7 s59.2.2.2.1 m3 hag50 hag59
      · refine pm_iload dX8_duel_77 rfl ?_
        refine pm_if_ne (tgt := 113) dX8_duel_79 rfl ?_ ?_
        · exact gX8_duel_j113 hfl again50 again59 l1 l2 l3 s59.1 s59.2.1 s59.2.2.1 l7 s59.2.2.2.1 m3 hag50 hag59
        · refine pm_bipush (v := 10) dX8_duel_82 kb_10 ?_
          refine pm_iload dX8_duel_84 rfl ?_
          refine pm_imul dX8_duel_86 ?_
          refine pm_iload dX8_duel_87 rfl ?_
          refine pm_iadd dX8_duel_89 ?_
          refine pm_bIn (fun x7 => ?_)
          refine pm_istore (ls2 := [pmU, .int l1, .int l2, .int l3, .int s59.1, .int x7, .int s59.2.2.1, .int l7, .int s59.2.2.2.1]) dX8_duel_90 rfl (Nat.le_of_ble_eq_true rfl) rfl ?_
          refine pm_iload_n dX8_duel_92 rfl rfl ?_
          refine pm_iload_n dX8_duel_93 rfl rfl ?_
          refine pm_iload dX8_duel_94 rfl ?_
          refine pm_iload dX8_duel_96 rfl ?_
          refine pm_kI (d := d + 1) rfl (pm_S (y := zX8_duel) (z := zX8_hadBy) (As := [.int l1, .int l2, .int l7, .int s59.2.2.2.1]) zkX8_hadBy tw_1263 tw_1264 dX8_duel_98 rfl rfl (Nat.le_of_ble_eq_true rfl)) (kcX8_hadBy (d := d + 1) hfl l1 l2 l7 s59.2.2.2.1 m3) (fun x9 m8 => ?_)
          refine pm_iload_n dX8_duel_101 rfl rfl ?_
          refine pm_iload_n dX8_duel_102 rfl rfl ?_
          refine pm_iload dX8_duel_103 rfl ?_
          refine pm_iload dX8_duel_105 rfl ?_
          refine pm_kI (d := d + 1) rfl (pm_S (y := zX8_duel) (z := zX8_hadBy) (As := [.int l1, .int l2, .int s59.2.2.2.1, .int l7]) zkX8_hadBy tw_1263 tw_1264 dX8_duel_107 rfl rfl (Nat.le_of_ble_eq_true rfl)) (kcX8_hadBy (d := d + 1) hfl l1 l2 s59.2.2.2.1 l7 m8) (fun x11 m10 => ?_)
          refine pm_iadd dX8_duel_110 ?_
          refine pm_bIn (fun x12 => ?_)
          refine pm_istore (ls2 := [pmU, .int l1, .int l2, .int l3, .int s59.1, .int x7, .int x12, .int l7, .int s59.2.2.2.1]) dX8_duel_111 rfl (Nat.le_of_ble_eq_true rfl) rfl ?_
          exact gX8_duel_j113 hfl again50 again59 l1 l2 l3 s59.1 x7 x12 l7 s59.2.2.2.1 m10 hag50 hag59)
set_option maxRecDepth 100000 in
set_option maxHeartbeats 4000000 in
theorem gX8_duel_L50 (hfl : l.flags = flags0) (l1 : Int32) (l2 : Int32) (l3 : Int32) : ∀ (n : Nat) (s : Int32 × Int32 × Int32 × Int32 × pmM), pm_G l Γ zX8_duel (d + 2) 50 [pmU, .int l1, .int l2, .int l3, .int s.1, .int s.2.1, .int s.2.2.1, .int s.2.2.2.1, pmU] [] s.2.2.2.2 (pm_lp n (X8_duel_L50 l1 l2 l3) s) :=
  pm_loop (lsf := fun s : Int32 × Int32 × Int32 × Int32 × pmM => [pmU, .int l1, .int l2, .int l3, .int s.1, .int s.2.1, .int s.2.2.1, .int s.2.2.2.1, pmU]) (mf := fun s : Int32 × Int32 × Int32 × Int32 × pmM => s.2.2.2.2) (fun again50 hag50 s50 => by
    unfold X8_duel_L50
    refine pm_iload dX8_duel_50 rfl ?_
    refine pm_iconst (v := 1) dX8_duel_52 ki_1 ?_
    refine pm_icmp_gt (tgt := 128) dX8_duel_53 rfl ?_ ?_
    · refine pm_iload_n dX8_duel_128 rfl rfl ?_
      refine pm_if_ne (tgt := 137) dX8_duel_129 rfl ?_ ?_
      · refine pm_iload_n dX8_duel_137 rfl rfl ?_
        refine pm_iconst (v := 1) dX8_duel_138 ki_1 ?_
        refine pm_icmp_ne (tgt := 147) dX8_duel_139 rfl ?_ ?_
        · refine pm_iload dX8_duel_147 rfl ?_
          refine pm_drop (ls2 := [pmU, pmU, pmU, pmU, pmU, pmU, pmU, pmU, pmU]) (Nat.le_refl _) (pm_le_spec (pm_le_u (pm_le_u (pm_le_u (pm_le_u (pm_le_u (pm_le_u (pm_le_u (pm_le_u (pm_le_u (pm_le_n))))))))))) ?_
          exact gX8_duel_j149 hfl s50.2.2.1 s50.2.2.2.2
        · refine pm_iload dX8_duel_142 rfl ?_
          refine pm_goto (tgt := 149) dX8_duel_144 rfl ?_
          refine pm_drop (ls2 := [pmU, pmU, pmU, pmU, pmU, pmU, pmU, pmU, pmU]) (Nat.le_refl _) (pm_le_spec (pm_le_u (pm_le_u (pm_le_u (pm_le_u (pm_le_u (pm_le_u (pm_le_u (pm_le_u (pm_le_u (pm_le_n))))))))))) ?_
          exact gX8_duel_j149 hfl s50.2.1 s50.2.2.2.2
      · refine pm_iload dX8_duel_132 rfl ?_
        refine pm_goto (tgt := 149) dX8_duel_134 rfl ?_
        refine pm_drop (ls2 := [pmU, pmU, pmU, pmU, pmU, pmU, pmU, pmU, pmU]) (Nat.le_refl _) (pm_le_spec (pm_le_u (pm_le_u (pm_le_u (pm_le_u (pm_le_u (pm_le_u (pm_le_u (pm_le_u (pm_le_u (pm_le_n))))))))))) ?_
        exact gX8_duel_j149 hfl s50.1 s50.2.2.2.2
    · refine pm_iconst (v := 0) dX8_duel_56 ki_0 ?_
      refine pm_istore (ls2 := [pmU, .int l1, .int l2, .int l3, .int s50.1, .int s50.2.1, .int s50.2.2.1, .int s50.2.2.2.1, .int 0]) dX8_duel_57 rfl (Nat.le_of_ble_eq_true rfl) rfl ?_
      exact gX8_duel_L59 hfl again50 l1 l2 l3 s50.2.2.2.1 hag50 pm_N (s50.1, s50.2.1, s50.2.2.1, 0, s50.2.2.2.2))
set_option maxRecDepth 100000 in
set_option maxHeartbeats 4000000 in
theorem gX8_duel_j35 (hfl : l.flags = flags0) (l1 : Int32) (l2 : Int32) (l3 : Int32) (t0 : Int32) (t1 : Nat) (m : pmM) : pm_G l Γ zX8_duel (d + 2) 35 [pmU, .int l1, .int l2, .int l3, pmU, pmU, pmU, pmU, pmU] [.int t0, .ref t1] m (X8_duel_j35 l1 l2 l3 t0 t1 m) := by
  unfold X8_duel_j35
  refine pm_rcv (fun hb9 hc9 => ?_)
  refine pm_kV (d := d + 1) rfl (pm_V (y := zX8_duel) (z := zX8_must) (As := [.int t0]) zkX8_must pm_q8 (by decide) tw_684 tw_686 tw_30 dX8_duel_35 rfl rfl (Nat.le_of_ble_eq_true rfl) hb9 hc9) (kcX8_must (d := d + 1) hfl t1 t0 m) (fun m1 => ?_)
  refine pm_iconst (v := 0) dX8_duel_38 ki_0 ?_
  refine pm_istore (ls2 := [pmU, .int l1, .int l2, .int l3, .int 0, pmU, pmU, pmU, pmU]) dX8_duel_39 rfl (Nat.le_of_ble_eq_true rfl) rfl ?_
  refine pm_iconst (v := (-1)) dX8_duel_41 ki_n1 ?_
  refine pm_istore (ls2 := [pmU, .int l1, .int l2, .int l3, .int 0, .int (-1), pmU, pmU, pmU]) dX8_duel_42 rfl (Nat.le_of_ble_eq_true rfl) rfl ?_
  refine pm_iconst (v := 0) dX8_duel_44 ki_0 ?_
  refine pm_istore (ls2 := [pmU, .int l1, .int l2, .int l3, .int 0, .int (-1), .int 0, pmU, pmU]) dX8_duel_45 rfl (Nat.le_of_ble_eq_true rfl) rfl ?_
  refine pm_iconst (v := 0) dX8_duel_47 ki_0 ?_
  refine pm_istore (ls2 := [pmU, .int l1, .int l2, .int l3, .int 0, .int (-1), .int 0, .int 0, pmU]) dX8_duel_48 rfl (Nat.le_of_ble_eq_true rfl) rfl ?_
  exact gX8_duel_L50 hfl l1 l2 l3 pm_N (0, (-1), 0, 0, m1)
set_option maxRecDepth 100000 in
set_option maxHeartbeats 4000000 in
theorem gX8_duel_j34 (hfl : l.flags = flags0) (l1 : Int32) (l2 : Int32) (l3 : Int32) (t0 : Nat) (m : pmM) : pm_G l Γ zX8_duel (d + 2) 34 [pmU, .int l1, .int l2, .int l3, pmU, pmU, pmU, pmU, pmU] [.ref t0] m (X8_duel_j34 l1 l2 l3 t0 m) := by
  unfold X8_duel_j34
  refine pm_iconst (v := 0) dX8_duel_34 ki_0 ?_
  exact gX8_duel_j35 hfl l1 l2 l3 0 t0 m
set_option maxRecDepth 100000 in
set_option maxHeartbeats 4000000 in
theorem kcX8_duel (hfl : l.flags = flags0) (a0 : Nat) (a1 : Int32) (a2 : Int32) (a3 : Int32) (m : pmM) : pm_C l Γ zX8_duel (d + 2) [.ref a0, .int a1, .int a2, .int a3] m (X8_duel a0 a1 a2 a3 m) := by
  refine pm_enter (ls := [.ref a0, .int a1, .int a2, .int a3, pmU, pmU, pmU, pmU, pmU]) hfl (by decide +kernel) rfl (Nat.le_of_ble_eq_true rfl) rfl (Nat.le_of_ble_eq_true rfl) ?_
  unfold X8_duel
  refine pm_aload_n dX8_duel_0 rfl rfl ?_
  refine pm_iload_n dX8_duel_1 rfl rfl ?_
  refine pm_if_lt (tgt := 34) dX8_duel_2 rfl ?_ ?_
  · refine pm_drop (ls2 := [pmU, .int a1, .int a2, .int a3, pmU, pmU, pmU, pmU, pmU]) (Nat.le_refl _) (pm_le_spec (pm_le_u (pm_le_v (pm_le_v (pm_le_v (pm_le_u (pm_le_u (pm_le_u (pm_le_u (pm_le_u (pm_le_n))))))))))) ?_
    exact gX8_duel_j34 hfl a1 a2 a3 a0 m
  · refine pm_iload_n dX8_duel_5 rfl rfl ?_
    refine pm_bipush (v := 99) dX8_duel_6 kb_99 ?_
    refine pm_icmp_gt (tgt := 34) dX8_duel_8 rfl ?_ ?_
    · refine pm_drop (ls2 := [pmU, .int a1, .int a2, .int a3, pmU, pmU, pmU, pmU, pmU]) (Nat.le_refl _) (pm_le_spec (pm_le_u (pm_le_v (pm_le_v (pm_le_v (pm_le_u (pm_le_u (pm_le_u (pm_le_u (pm_le_u (pm_le_n))))))))))) ?_
      exact gX8_duel_j34 hfl a1 a2 a3 a0 m
    · refine pm_iload_n dX8_duel_11 rfl rfl ?_
      refine pm_if_lt (tgt := 34) dX8_duel_12 rfl ?_ ?_
      · refine pm_drop (ls2 := [pmU, .int a1, .int a2, .int a3, pmU, pmU, pmU, pmU, pmU]) (Nat.le_refl _) (pm_le_spec (pm_le_u (pm_le_v (pm_le_v (pm_le_v (pm_le_u (pm_le_u (pm_le_u (pm_le_u (pm_le_u (pm_le_n))))))))))) ?_
        exact gX8_duel_j34 hfl a1 a2 a3 a0 m
      · refine pm_iload_n dX8_duel_15 rfl rfl ?_
        refine pm_bipush (v := 99) dX8_duel_16 kb_99 ?_
        refine pm_icmp_gt (tgt := 34) dX8_duel_18 rfl ?_ ?_
        · refine pm_drop (ls2 := [pmU, .int a1, .int a2, .int a3, pmU, pmU, pmU, pmU, pmU]) (Nat.le_refl _) (pm_le_spec (pm_le_u (pm_le_v (pm_le_v (pm_le_v (pm_le_u (pm_le_u (pm_le_u (pm_le_u (pm_le_u (pm_le_n))))))))))) ?_
          exact gX8_duel_j34 hfl a1 a2 a3 a0 m
        · refine pm_iload_n dX8_duel_21 rfl rfl ?_
          refine pm_if_lt (tgt := 34) dX8_duel_22 rfl ?_ ?_
          · refine pm_drop (ls2 := [pmU, .int a1, .int a2, .int a3, pmU, pmU, pmU, pmU, pmU]) (Nat.le_refl _) (pm_le_spec (pm_le_u (pm_le_v (pm_le_v (pm_le_v (pm_le_u (pm_le_u (pm_le_u (pm_le_u (pm_le_u (pm_le_n))))))))))) ?_
            exact gX8_duel_j34 hfl a1 a2 a3 a0 m
          · refine pm_iload_n dX8_duel_25 rfl rfl ?_
            refine pm_iconst (v := 2) dX8_duel_26 ki_2 ?_
            refine pm_icmp_gt (tgt := 34) dX8_duel_27 rfl ?_ ?_
            · refine pm_drop (ls2 := [pmU, .int a1, .int a2, .int a3, pmU, pmU, pmU, pmU, pmU]) (Nat.le_refl _) (pm_le_spec (pm_le_u (pm_le_v (pm_le_v (pm_le_v (pm_le_u (pm_le_u (pm_le_u (pm_le_u (pm_le_u (pm_le_n))))))))))) ?_
              exact gX8_duel_j34 hfl a1 a2 a3 a0 m
            · refine pm_iconst (v := 1) dX8_duel_30 ki_1 ?_
              refine pm_goto (tgt := 35) dX8_duel_31 rfl ?_
              refine pm_drop (ls2 := [pmU, .int a1, .int a2, .int a3, pmU, pmU, pmU, pmU, pmU]) (Nat.le_refl _) (pm_le_spec (pm_le_u (pm_le_v (pm_le_v (pm_le_v (pm_le_u (pm_le_u (pm_le_u (pm_le_u (pm_le_u (pm_le_n))))))))))) ?_
              exact gX8_duel_j35 hfl a1 a2 a3 1 a0 m
-- StruckPage.power(II)J
def X8_power_L5 (l0 : Int32) (l1 : Int32) (again5 : (Int64 × Int32 × pmM) → pmR) (s5 : Int64 × Int32 × pmM) : pmR := if l1 ≤ s5.2.1 then (pm_oL s5.1 s5.2.2) else (pm_bL (s5.1 * l0.toInt64) fun x1 => pm_bI (s5.2.1 + 1) fun x2 => again5 (x1, x2, s5.2.2))
def X8_power (a0 : Int32) (a1 : Int32) (m : pmM) : pmR := pm_lp pm_N (X8_power_L5 a0 a1) (1, 0, m)
set_option maxRecDepth 100000 in
set_option maxHeartbeats 4000000 in
theorem gX8_power_L5 (hfl : l.flags = flags0) (l0 : Int32) (l1 : Int32) : ∀ (n : Nat) (s : Int64 × Int32 × pmM), pm_G l Γ zX8_power (d + 0) 5 [.int l0, .int l1, .long s.1, pmU, .int s.2.1] [] s.2.2 (pm_lp n (X8_power_L5 l0 l1) s) :=
  pm_loop (lsf := fun s : Int64 × Int32 × pmM => [.int l0, .int l1, .long s.1, pmU, .int s.2.1]) (mf := fun s : Int64 × Int32 × pmM => s.2.2) (fun again5 hag5 s5 => by
    unfold X8_power_L5
    refine pm_iload dX8_power_5 rfl ?_
    refine pm_iload_n dX8_power_7 rfl rfl ?_
    refine pm_icmp_ge (tgt := 22) dX8_power_8 rfl ?_ ?_
    · refine pm_lload_n dX8_power_22 rfl rfl ?_
      exact pm_lret rfl dX8_power_23
    · refine pm_lload_n dX8_power_11 rfl rfl ?_
      refine pm_iload_n dX8_power_12 rfl rfl ?_
      refine pm_i2l dX8_power_13 ?_
      refine pm_lmul dX8_power_14 ?_
      refine pm_bLn (fun x1 => ?_)
      refine pm_lstore_n (ls2 := [.int l0, .int l1, .long x1, pmU, .int s5.2.1]) dX8_power_15 rfl rfl (Nat.le_of_ble_eq_true rfl) rfl ?_
      refine pm_iincn (y := zX8_power) dX8_power_16 rfl ki_1 rfl (Nat.le_of_ble_eq_true rfl) (fun x2 => ?_)
      refine pm_eqls (ls2 := [.int l0, .int l1, .long x1, pmU, .int x2]) rfl ?_
      refine pm_goto (tgt := 5) dX8_power_19 rfl ?_
      exact hag5 (x1, x2, s5.2.2))
set_option maxRecDepth 100000 in
set_option maxHeartbeats 4000000 in
theorem kcX8_power (hfl : l.flags = flags0) (a0 : Int32) (a1 : Int32) (m : pmM) : pm_C l Γ zX8_power (d + 0) [.int a0, .int a1] m (X8_power a0 a1 m) := by
  refine pm_enter (ls := [.int a0, .int a1, pmU, pmU, pmU]) hfl (by decide +kernel) rfl (Nat.le_of_ble_eq_true rfl) rfl (Nat.le_of_ble_eq_true rfl) ?_
  unfold X8_power
  refine pm_lconst (v := 1) dX8_power_0 kl_1 ?_
  refine pm_lstore_n (ls2 := [.int a0, .int a1, .long 1, pmU, pmU]) dX8_power_1 rfl rfl (Nat.le_of_ble_eq_true rfl) rfl ?_
  refine pm_iconst (v := 0) dX8_power_2 ki_0 ?_
  refine pm_istore (ls2 := [.int a0, .int a1, .long 1, pmU, .int 0]) dX8_power_3 rfl (Nat.le_of_ble_eq_true rfl) rfl ?_
  exact gX8_power_L5 hfl a0 a1 pm_N (1, 0, m)
-- StruckPage.chance(IIII)J
def X8_chance_j185 (t0 : Int64) (m : pmM) : pmR := pm_oL t0 m
def X8_chance_j173 (l4 : Int32) (l5 : Int64) (l9 : Int64) (m : pmM) : pmR := if l4 = 0 then (X8_chance_j185 l5 m) else (X8_chance_j185 l9 m)
def X8_chance_L136 (l4 : Int32) (again136 : (Int64 × Int64 × pmM) → pmR) (s136 : Int64 × Int64 × pmM) : pmR := if (lg_cmp s136.2.1 1) ≤ 0 then (X8_chance_j173 l4 s136.1 s136.2.1 s136.2.2) else (if (2 : Int64) = 0 then none else if (lg_cmp (s136.1 - s136.1 / 2 * 2) 0) = 0 then (if (2 : Int64) = 0 then none else pm_bL (s136.1 / 2) fun x5 => if (2 : Int64) = 0 then none else pm_bL (s136.2.1 / 2) fun x6 => again136 (x5, x6, s136.2.2)) else (X8_chance_j173 l4 s136.1 s136.2.1 s136.2.2))
def X8_chance_j106 (again68 : (Int64 × Int64 × Int32 × pmM) → pmR) (l1 : Int32) (l2 : Int32) (l3 : Int32) (l4 : Int32) (l5 : Int64) (l7 : Int64) (l9 : Int32) (m : pmM) : pmR := if ((l9 + 1).toInt64) = 0 then none else pm_bL ((l7 * ((l1 - l9).toInt64)) / ((l9 + 1).toInt64)) fun x7 => pm_bI (l9 + 1) fun x8 => again68 (l5, x7, x8, m)
def X8_chance_L68 (l1 : Int32) (l2 : Int32) (l3 : Int32) (l4 : Int32) (again68 : (Int64 × Int64 × Int32 × pmM) → pmR) (s68 : Int64 × Int64 × Int32 × pmM) : pmR := if l1 < s68.2.2.1 then (pm_cL (X8_power 16 l1 s68.2.2.2) fun x4 m3 => pm_lp pm_N (X8_chance_L136 l4) (s68.1, x4, m3)) else (if s68.2.2.1 < l2 then (X8_chance_j106 again68 l1 l2 l3 l4 s68.1 s68.2.1 s68.2.2.1 s68.2.2.2) else (pm_cL (X8_power ((16 : Int32) - l3) s68.2.2.1 s68.2.2.2) fun x10 m9 => pm_cL (X8_power l3 (l1 - s68.2.2.1) m9) fun x12 m11 => pm_bL (s68.1 + ((s68.2.1 * x10) * x12)) fun x13 => X8_chance_j106 again68 l1 l2 l3 l4 x13 s68.2.1 s68.2.2.1 m11))
def X8_chance_j56 (l1 : Int32) (l2 : Int32) (l3 : Int32) (l4 : Int32) (t0 : Int32) (t1 : Nat) (m : pmM) : pmR := pm_rc 8 t1 m <| pm_cV (X8_must t1 t0 m) fun m2 => pm_lp pm_N (X8_chance_L68 l1 l2 l3 l4) (0, 1, 0, m2)
def X8_chance_j51 (l1 : Int32) (l2 : Int32) (l3 : Int32) (l4 : Int32) (t0 : Nat) (m : pmM) : pmR := X8_chance_j56 l1 l2 l3 l4 1 t0 m
def X8_chance_j36 (l0 : Nat) (l1 : Int32) (l2 : Int32) (l3 : Int32) (l4 : Int32) (t0 : Int32) (t1 : Nat) (m : pmM) : pmR := pm_rc 8 t1 m <| pm_cV (X8_must t1 t0 m) fun m1 => if l4 = 0 then (X8_chance_j51 l1 l2 l3 l4 l0 m1) else (if l4 = 1 then (X8_chance_j51 l1 l2 l3 l4 l0 m1) else (X8_chance_j56 l1 l2 l3 l4 0 l0 m1))
def X8_chance_j35 (l0 : Nat) (l1 : Int32) (l2 : Int32) (l3 : Int32) (l4 : Int32) (t0 : Nat) (m : pmM) : pmR := X8_chance_j36 l0 l1 l2 l3 l4 0 t0 m
def X8_chance (a0 : Nat) (a1 : Int32) (a2 : Int32) (a3 : Int32) (a4 : Int32) (m : pmM) : pmR := if a1 < 0 then (X8_chance_j35 a0 a1 a2 a3 a4 a0 m) else (if (12 : Int32) < a1 then (X8_chance_j35 a0 a1 a2 a3 a4 a0 m) else (if a2 < 0 then (X8_chance_j35 a0 a1 a2 a3 a4 a0 m) else (if (13 : Int32) < a2 then (X8_chance_j35 a0 a1 a2 a3 a4 a0 m) else (if a3 < 0 then (X8_chance_j35 a0 a1 a2 a3 a4 a0 m) else (if (16 : Int32) < a3 then (X8_chance_j35 a0 a1 a2 a3 a4 a0 m) else (X8_chance_j36 a0 a1 a2 a3 a4 1 a0 m))))))
set_option maxRecDepth 100000 in
set_option maxHeartbeats 4000000 in
theorem gX8_chance_j185 (hfl : l.flags = flags0) (t0 : Int64) (m : pmM) : pm_G l Γ zX8_chance (d + 1) 185 [pmU, pmU, pmU, pmU, pmU, pmU, pmU, pmU, pmU, pmU, pmU] [.long t0] m (X8_chance_j185 t0 m) := by
  unfold X8_chance_j185
  exact pm_lret rfl dX8_chance_185
set_option maxRecDepth 100000 in
set_option maxHeartbeats 4000000 in
theorem gX8_chance_j173 (hfl : l.flags = flags0) (l4 : Int32) (l5 : Int64) (l9 : Int64) (m : pmM) : pm_G l Γ zX8_chance (d + 1) 173 [pmU, pmU, pmU, pmU, .int l4, .long l5, pmU, pmU, pmU, .long l9, pmU] [] m (X8_chance_j173 l4 l5 l9 m) := by
  unfold X8_chance_j173
  refine pm_iload dX8_chance_173 rfl ?_
  refine pm_if_ne (tgt := 183) dX8_chance_175 rfl ?_ ?_
  · refine pm_lload dX8_chance_183 rfl ?_
    refine pm_drop (ls2 := [pmU, pmU, pmU, pmU, pmU, pmU, pmU, pmU, pmU, pmU, pmU]) (Nat.le_refl _) (pm_le_spec (pm_le_u (pm_le_u (pm_le_u (pm_le_u (pm_le_u (pm_le_u (pm_le_u (pm_le_u (pm_le_u (pm_le_u (pm_le_u (pm_le_n))))))))))))) ?_
    exact gX8_chance_j185 hfl l9 m
  · refine pm_lload dX8_chance_178 rfl ?_
    refine pm_goto (tgt := 185) dX8_chance_180 rfl ?_
    refine pm_drop (ls2 := [pmU, pmU, pmU, pmU, pmU, pmU, pmU, pmU, pmU, pmU, pmU]) (Nat.le_refl _) (pm_le_spec (pm_le_u (pm_le_u (pm_le_u (pm_le_u (pm_le_u (pm_le_u (pm_le_u (pm_le_u (pm_le_u (pm_le_u (pm_le_u (pm_le_n))))))))))))) ?_
    exact gX8_chance_j185 hfl l5 m
set_option maxRecDepth 100000 in
set_option maxHeartbeats 4000000 in
theorem gX8_chance_L136 (hfl : l.flags = flags0) (l4 : Int32) : ∀ (n : Nat) (s : Int64 × Int64 × pmM), pm_G l Γ zX8_chance (d + 1) 136 [pmU, pmU, pmU, pmU, .int l4, .long s.1, pmU, pmU, pmU, .long s.2.1, pmU] [] s.2.2 (pm_lp n (X8_chance_L136 l4) s) :=
  pm_loop (lsf := fun s : Int64 × Int64 × pmM => [pmU, pmU, pmU, pmU, .int l4, .long s.1, pmU, pmU, pmU, .long s.2.1, pmU]) (mf := fun s : Int64 × Int64 × pmM => s.2.2) (fun again136 hag136 s136 => by
    unfold X8_chance_L136
    refine pm_lload dX8_chance_136 rfl ?_
    refine pm_lconst (v := 1) dX8_chance_138 kl_1 ?_
    refine pm_lcmp dX8_chance_139 ?_
    refine pm_if_le (tgt := 173) dX8_chance_140 rfl ?_ ?_
    · exact gX8_chance_j173 hfl l4 s136.1 s136.2.1 s136.2.2
    · refine pm_lload dX8_chance_143 rfl ?_
      refine pm_ldc2 (y := zX8_chance) dX8_chance_145 tw_1276 ?_
      refine pm_lrem dX8_chance_148 ?_
      refine pm_lconst (v := 0) dX8_chance_149 kl_0 ?_
      refine pm_lcmp dX8_chance_150 ?_
      refine pm_if_ne (tgt := 173) dX8_chance_151 rfl ?_ ?_
      · exact gX8_chance_j173 hfl l4 s136.1 s136.2.1 s136.2.2
      · refine pm_lload dX8_chance_154 rfl ?_
        refine pm_ldc2 (y := zX8_chance) dX8_chance_156 tw_1276 ?_
        refine pm_ldiv dX8_chance_159 ?_
        refine pm_bLn (fun x5 => ?_)
        refine pm_lstore (ls2 := [pmU, pmU, pmU, pmU, .int l4, .long x5, pmU, pmU, pmU, .long s136.2.1, pmU]) dX8_chance_160 rfl (Nat.le_of_ble_eq_true rfl) rfl ?_
        refine pm_lload dX8_chance_162 rfl ?_
        refine pm_ldc2 (y := zX8_chance) dX8_chance_164 tw_1276 ?_
        refine pm_ldiv dX8_chance_167 ?_
        refine pm_bLn (fun x6 => ?_)
        refine pm_lstore (ls2 := [pmU, pmU, pmU, pmU, .int l4, .long x5, pmU, pmU, pmU, .long x6, pmU]) dX8_chance_168 rfl (Nat.le_of_ble_eq_true rfl) rfl ?_
        refine pm_goto (tgt := 136) dX8_chance_170 rfl ?_
        exact hag136 (x5, x6, s136.2.2))
set_option maxRecDepth 100000 in
set_option maxHeartbeats 4000000 in
theorem gX8_chance_j106 (hfl : l.flags = flags0) (again68 : (Int64 × Int64 × Int32 × pmM) → pmR) (l1 : Int32) (l2 : Int32) (l3 : Int32) (l4 : Int32) (l5 : Int64) (l7 : Int64) (l9 : Int32) (m : pmM) (hag68 : ∀ s : Int64 × Int64 × Int32 × pmM, pm_G l Γ zX8_chance (d + 1) 68 [pmU, .int l1, .int l2, .int l3, .int l4, .long s.1, pmU, .long s.2.1, pmU, .int s.2.2.1, pmU] [] s.2.2.2 (again68 s)) : pm_G l Γ zX8_chance (d + 1) 106 [pmU, .int l1, .int l2, .int l3, .int l4, .long l5, pmU, .long l7, pmU, .int l9, pmU] [] m (X8_chance_j106 again68 l1 l2 l3 l4 l5 l7 l9 m) := by
  unfold X8_chance_j106
  refine pm_lload dX8_chance_106 rfl ?_
  refine pm_iload_n dX8_chance_108 rfl rfl ?_
  refine pm_iload dX8_chance_109 rfl ?_
  refine pm_isub dX8_chance_111 ?_
  refine pm_i2l dX8_chance_112 ?_
  refine pm_lmul dX8_chance_113 ?_
  refine pm_iload dX8_chance_114 rfl ?_
  refine pm_iconst (v := 1) dX8_chance_116 ki_1 ?_
  refine pm_iadd dX8_chance_117 ?_
  refine pm_i2l dX8_chance_118 ?_
  refine pm_ldiv dX8_chance_119 ?_
  refine pm_bLn (fun x7 => ?_)
  refine pm_lstore (ls2 := [pmU, .int l1, .int l2, .int l3, .int l4, .long l5, pmU, .long x7, pmU, .int l9, pmU]) dX8_chance_120 rfl (Nat.le_of_ble_eq_true rfl) rfl ?_
  refine pm_iincn (y := zX8_chance) dX8_chance_122 rfl ki_1 rfl (Nat.le_of_ble_eq_true rfl) (fun x8 => ?_)
  refine pm_eqls (ls2 := [pmU, .int l1, .int l2, .int l3, .int l4, .long l5, pmU, .long x7, pmU, .int x8, pmU]) rfl ?_
  refine pm_goto (tgt := 68) dX8_chance_125 rfl ?_
  exact hag68 (l5, x7, x8, m)
set_option maxRecDepth 100000 in
set_option maxHeartbeats 4000000 in
theorem gX8_chance_L68 (hfl : l.flags = flags0) (l1 : Int32) (l2 : Int32) (l3 : Int32) (l4 : Int32) : ∀ (n : Nat) (s : Int64 × Int64 × Int32 × pmM), pm_G l Γ zX8_chance (d + 1) 68 [pmU, .int l1, .int l2, .int l3, .int l4, .long s.1, pmU, .long s.2.1, pmU, .int s.2.2.1, pmU] [] s.2.2.2 (pm_lp n (X8_chance_L68 l1 l2 l3 l4) s) :=
  pm_loop (lsf := fun s : Int64 × Int64 × Int32 × pmM => [pmU, .int l1, .int l2, .int l3, .int l4, .long s.1, pmU, .long s.2.1, pmU, .int s.2.2.1, pmU]) (mf := fun s : Int64 × Int64 × Int32 × pmM => s.2.2.2) (fun again68 hag68 s68 => by
    unfold X8_chance_L68
    refine pm_iload dX8_chance_68 rfl ?_
    refine pm_iload_n dX8_chance_70 rfl rfl ?_
    refine pm_icmp_gt (tgt := 128) dX8_chance_71 rfl ?_ ?_
    · refine pm_bipush (v := 16) dX8_chance_128 kb_16 ?_
      refine pm_iload_n dX8_chance_130 rfl rfl ?_
      refine pm_kL (d := d + 0) rfl (pm_S (y := zX8_chance) (z := zX8_power) (As := [.int 16, .int l1]) zkX8_power tw_1273 tw_1274 dX8_chance_131 rfl rfl (Nat.le_of_ble_eq_true rfl)) (kcX8_power (d := d + 0) hfl 16 l1 s68.2.2.2) (fun x4 m3 => ?_)
      refine pm_lstore (ls2 := [pmU, .int l1, .int l2, .int l3, .int l4, .long s68.1, pmU, .long s68.2.1, pmU, .long x4, pmU]) dX8_chance_134 rfl (Nat.le_of_ble_eq_true rfl) rfl ?_
      refine pm_drop (ls2 := [pmU, pmU, pmU, pmU, .int l4, .long s68.1, pmU, pmU, pmU, .long x4, pmU]) (Nat.le_refl _) (pm_le_spec (pm_le_u (pm_le_u (pm_le_u (pm_le_u (pm_le_v (pm_le_v (pm_le_u (pm_le_u (pm_le_u (pm_le_v (pm_le_u (pm_le_n))))))))))))) ?_
      exact gX8_chance_L136 hfl l4 pm_N (s68.1, x4, m3)
    · refine pm_iload dX8_chance_74 rfl ?_
      refine pm_iload_n dX8_chance_76 rfl rfl ?_
      refine pm_icmp_lt (tgt := 106) dX8_chance_77 rfl ?_ ?_
      · exact gX8_chance_j106 hfl again68 l1 l2 l3 l4 s68.1 s68.2.1 s68.2.2.1 s68.2.2.2 hag68
      · refine pm_lload dX8_chance_80 rfl ?_
        refine pm_lload dX8_chance_82 rfl ?_
        refine pm_bipush (v := 16) dX8_chance_84 kb_16 ?_
        refine pm_iload_n dX8_chance_86 rfl rfl ?_
        refine pm_isub dX8_chance_87 ?_
        refine pm_iload dX8_chance_88 rfl ?_
        refine pm_kL (d := d + 0) rfl (pm_S (y := zX8_chance) (z := zX8_power) (As := [.int ((16 : Int32) - l3), .int s68.2.2.1]) zkX8_power tw_1273 tw_1274 dX8_chance_90 rfl rfl (Nat.le_of_ble_eq_true rfl)) (kcX8_power (d := d + 0) hfl ((16 : Int32) - l3) s68.2.2.1 s68.2.2.2) (fun x10 m9 => ?_)
        refine pm_lmul dX8_chance_93 ?_
        refine pm_iload_n dX8_chance_94 rfl rfl ?_
        refine pm_iload_n dX8_chance_95 rfl rfl ?_
        refine pm_iload dX8_chance_96 rfl ?_
        refine pm_isub dX8_chance_98 ?_
        refine pm_kL (d := d + 0) rfl (pm_S (y := zX8_chance) (z := zX8_power) (As := [.int l3, .int (l1 - s68.2.2.1)]) zkX8_power tw_1273 tw_1274 dX8_chance_99 rfl rfl (Nat.le_of_ble_eq_true rfl)) (kcX8_power (d := d + 0) hfl l3 (l1 - s68.2.2.1) m9) (fun x12 m11 => ?_)
        refine pm_lmul dX8_chance_102 ?_
        refine pm_ladd dX8_chance_103 ?_
        refine pm_bLn (fun x13 => ?_)
        refine pm_lstore (ls2 := [pmU, .int l1, .int l2, .int l3, .int l4, .long x13, pmU, .long s68.2.1, pmU, .int s68.2.2.1, pmU]) dX8_chance_104 rfl (Nat.le_of_ble_eq_true rfl) rfl ?_
        exact gX8_chance_j106 hfl again68 l1 l2 l3 l4 x13 s68.2.1 s68.2.2.1 m11 hag68)
set_option maxRecDepth 100000 in
set_option maxHeartbeats 4000000 in
theorem gX8_chance_j56 (hfl : l.flags = flags0) (l1 : Int32) (l2 : Int32) (l3 : Int32) (l4 : Int32) (t0 : Int32) (t1 : Nat) (m : pmM) : pm_G l Γ zX8_chance (d + 1) 56 [pmU, .int l1, .int l2, .int l3, .int l4, pmU, pmU, pmU, pmU, pmU, pmU] [.int t0, .ref t1] m (X8_chance_j56 l1 l2 l3 l4 t0 t1 m) := by
  unfold X8_chance_j56
  refine pm_rcv (fun hb9 hc9 => ?_)
  refine pm_kV (d := d + 0) rfl (pm_V (y := zX8_chance) (z := zX8_must) (As := [.int t0]) zkX8_must pm_q8 (by decide) tw_684 tw_686 tw_30 dX8_chance_56 rfl rfl (Nat.le_of_ble_eq_true rfl) hb9 hc9) (kcX8_must (d := d + 0) hfl t1 t0 m) (fun m2 => ?_)
  refine pm_lconst (v := 0) dX8_chance_59 kl_0 ?_
  refine pm_lstore (ls2 := [pmU, .int l1, .int l2, .int l3, .int l4, .long 0, pmU, pmU, pmU, pmU, pmU]) dX8_chance_60 rfl (Nat.le_of_ble_eq_true rfl) rfl ?_
  refine pm_lconst (v := 1) dX8_chance_62 kl_1 ?_
  refine pm_lstore (ls2 := [pmU, .int l1, .int l2, .int l3, .int l4, .long 0, pmU, .long 1, pmU, pmU, pmU]) dX8_chance_63 rfl (Nat.le_of_ble_eq_true rfl) rfl ?_
  refine pm_iconst (v := 0) dX8_chance_65 ki_0 ?_
  refine pm_istore (ls2 := [pmU, .int l1, .int l2, .int l3, .int l4, .long 0, pmU, .long 1, pmU, .int 0, pmU]) dX8_chance_66 rfl (Nat.le_of_ble_eq_true rfl) rfl ?_
  exact gX8_chance_L68 hfl l1 l2 l3 l4 pm_N (0, 1, 0, m2)
set_option maxRecDepth 100000 in
set_option maxHeartbeats 4000000 in
theorem gX8_chance_j51 (hfl : l.flags = flags0) (l1 : Int32) (l2 : Int32) (l3 : Int32) (l4 : Int32) (t0 : Nat) (m : pmM) : pm_G l Γ zX8_chance (d + 1) 51 [pmU, .int l1, .int l2, .int l3, .int l4, pmU, pmU, pmU, pmU, pmU, pmU] [.ref t0] m (X8_chance_j51 l1 l2 l3 l4 t0 m) := by
  unfold X8_chance_j51
  refine pm_iconst (v := 1) dX8_chance_51 ki_1 ?_
  refine pm_goto (tgt := 56) dX8_chance_52 rfl ?_
  exact gX8_chance_j56 hfl l1 l2 l3 l4 1 t0 m
set_option maxRecDepth 100000 in
set_option maxHeartbeats 4000000 in
theorem gX8_chance_j36 (hfl : l.flags = flags0) (l0 : Nat) (l1 : Int32) (l2 : Int32) (l3 : Int32) (l4 : Int32) (t0 : Int32) (t1 : Nat) (m : pmM) : pm_G l Γ zX8_chance (d + 1) 36 [.ref l0, .int l1, .int l2, .int l3, .int l4, pmU, pmU, pmU, pmU, pmU, pmU] [.int t0, .ref t1] m (X8_chance_j36 l0 l1 l2 l3 l4 t0 t1 m) := by
  unfold X8_chance_j36
  refine pm_rcv (fun hb9 hc9 => ?_)
  refine pm_kV (d := d + 0) rfl (pm_V (y := zX8_chance) (z := zX8_must) (As := [.int t0]) zkX8_must pm_q8 (by decide) tw_684 tw_686 tw_30 dX8_chance_36 rfl rfl (Nat.le_of_ble_eq_true rfl) hb9 hc9) (kcX8_must (d := d + 0) hfl t1 t0 m) (fun m1 => ?_)
  refine pm_aload_n dX8_chance_39 rfl rfl ?_
  refine pm_iload dX8_chance_40 rfl ?_
  refine pm_if_eq (tgt := 51) dX8_chance_42 rfl ?_ ?_
  · refine pm_drop (ls2 := [pmU, .int l1, .int l2, .int l3, .int l4, pmU, pmU, pmU, pmU, pmU, pmU]) (Nat.le_refl _) (pm_le_spec (pm_le_u (pm_le_v (pm_le_v (pm_le_v (pm_le_v (pm_le_u (pm_le_u (pm_le_u (pm_le_u (pm_le_u (pm_le_u (pm_le_n))))))))))))) ?_
    exact gX8_chance_j51 hfl l1 l2 l3 l4 l0 m1
  · refine pm_iload dX8_chance_45 rfl ?_
    refine pm_iconst (v := 1) dX8_chance_47 ki_1 ?_
    refine pm_icmp_ne (tgt := 55) dX8_chance_48 rfl ?_ ?_
    · refine pm_iconst (v := 0) dX8_chance_55 ki_0 ?_
      refine pm_drop (ls2 := [pmU, .int l1, .int l2, .int l3, .int l4, pmU, pmU, pmU, pmU, pmU, pmU]) (Nat.le_refl _) (pm_le_spec (pm_le_u (pm_le_v (pm_le_v (pm_le_v (pm_le_v (pm_le_u (pm_le_u (pm_le_u (pm_le_u (pm_le_u (pm_le_u (pm_le_n))))))))))))) ?_
      exact gX8_chance_j56 hfl l1 l2 l3 l4 0 l0 m1
    · refine pm_drop (ls2 := [pmU, .int l1, .int l2, .int l3, .int l4, pmU, pmU, pmU, pmU, pmU, pmU]) (Nat.le_refl _) (pm_le_spec (pm_le_u (pm_le_v (pm_le_v (pm_le_v (pm_le_v (pm_le_u (pm_le_u (pm_le_u (pm_le_u (pm_le_u (pm_le_u (pm_le_n))))))))))))) ?_
      exact gX8_chance_j51 hfl l1 l2 l3 l4 l0 m1
set_option maxRecDepth 100000 in
set_option maxHeartbeats 4000000 in
theorem gX8_chance_j35 (hfl : l.flags = flags0) (l0 : Nat) (l1 : Int32) (l2 : Int32) (l3 : Int32) (l4 : Int32) (t0 : Nat) (m : pmM) : pm_G l Γ zX8_chance (d + 1) 35 [.ref l0, .int l1, .int l2, .int l3, .int l4, pmU, pmU, pmU, pmU, pmU, pmU] [.ref t0] m (X8_chance_j35 l0 l1 l2 l3 l4 t0 m) := by
  unfold X8_chance_j35
  refine pm_iconst (v := 0) dX8_chance_35 ki_0 ?_
  exact gX8_chance_j36 hfl l0 l1 l2 l3 l4 0 t0 m
set_option maxRecDepth 100000 in
set_option maxHeartbeats 4000000 in
theorem kcX8_chance (hfl : l.flags = flags0) (a0 : Nat) (a1 : Int32) (a2 : Int32) (a3 : Int32) (a4 : Int32) (m : pmM) : pm_C l Γ zX8_chance (d + 1) [.ref a0, .int a1, .int a2, .int a3, .int a4] m (X8_chance a0 a1 a2 a3 a4 m) := by
  refine pm_enter (ls := [.ref a0, .int a1, .int a2, .int a3, .int a4, pmU, pmU, pmU, pmU, pmU, pmU]) hfl (by decide +kernel) rfl (Nat.le_of_ble_eq_true rfl) rfl (Nat.le_of_ble_eq_true rfl) ?_
  unfold X8_chance
  refine pm_aload_n dX8_chance_0 rfl rfl ?_
  refine pm_iload_n dX8_chance_1 rfl rfl ?_
  refine pm_if_lt (tgt := 35) dX8_chance_2 rfl ?_ ?_
  · exact gX8_chance_j35 hfl a0 a1 a2 a3 a4 a0 m
  · refine pm_iload_n dX8_chance_5 rfl rfl ?_
    refine pm_bipush (v := 12) dX8_chance_6 kb_12 ?_
    refine pm_icmp_gt (tgt := 35) dX8_chance_8 rfl ?_ ?_
    · exact gX8_chance_j35 hfl a0 a1 a2 a3 a4 a0 m
    · refine pm_iload_n dX8_chance_11 rfl rfl ?_
      refine pm_if_lt (tgt := 35) dX8_chance_12 rfl ?_ ?_
      · exact gX8_chance_j35 hfl a0 a1 a2 a3 a4 a0 m
      · refine pm_iload_n dX8_chance_15 rfl rfl ?_
        refine pm_bipush (v := 13) dX8_chance_16 kb_13 ?_
        refine pm_icmp_gt (tgt := 35) dX8_chance_18 rfl ?_ ?_
        · exact gX8_chance_j35 hfl a0 a1 a2 a3 a4 a0 m
        · refine pm_iload_n dX8_chance_21 rfl rfl ?_
          refine pm_if_lt (tgt := 35) dX8_chance_22 rfl ?_ ?_
          · exact gX8_chance_j35 hfl a0 a1 a2 a3 a4 a0 m
          · refine pm_iload_n dX8_chance_25 rfl rfl ?_
            refine pm_bipush (v := 16) dX8_chance_26 kb_16 ?_
            refine pm_icmp_gt (tgt := 35) dX8_chance_28 rfl ?_ ?_
            · exact gX8_chance_j35 hfl a0 a1 a2 a3 a4 a0 m
            · refine pm_iconst (v := 1) dX8_chance_31 ki_1 ?_
              refine pm_goto (tgt := 36) dX8_chance_32 rfl ?_
              exact gX8_chance_j36 hfl a0 a1 a2 a3 a4 1 a0 m
-- StruckPage.mustBeHand(II)V
def X8_mustBeHand_j27 (t0 : Int32) (t1 : Nat) (m : pmM) : pmR := pm_rc 8 t1 m <| pm_cV (X8_must t1 t0 m) fun m1 => pm_oV m1
def X8_mustBeHand_j26 (t0 : Nat) (m : pmM) : pmR := X8_mustBeHand_j27 0 t0 m
def X8_mustBeHand (a0 : Nat) (a1 : Int32) (a2 : Int32) (m : pmM) : pmR := if a1 < 1 then (X8_mustBeHand_j26 a0 m) else (if (96 : Int32) < a1 then (X8_mustBeHand_j26 a0 m) else (if a2 < 0 then (X8_mustBeHand_j26 a0 m) else (if (16 : Int32) < a2 then (X8_mustBeHand_j26 a0 m) else (X8_mustBeHand_j27 1 a0 m))))
set_option maxRecDepth 100000 in
set_option maxHeartbeats 4000000 in
theorem gX8_mustBeHand_j27 (hfl : l.flags = flags0) (t0 : Int32) (t1 : Nat) (m : pmM) : pm_G l Γ zX8_mustBeHand (d + 1) 27 [pmU, pmU, pmU] [.int t0, .ref t1] m (X8_mustBeHand_j27 t0 t1 m) := by
  unfold X8_mustBeHand_j27
  refine pm_rcv (fun hb9 hc9 => ?_)
  refine pm_kV (d := d + 0) rfl (pm_V (y := zX8_mustBeHand) (z := zX8_must) (As := [.int t0]) zkX8_must pm_q8 (by decide) tw_684 tw_686 tw_30 dX8_mustBeHand_27 rfl rfl (Nat.le_of_ble_eq_true rfl) hb9 hc9) (kcX8_must (d := d + 0) hfl t1 t0 m) (fun m1 => ?_)
  exact pm_vret rfl dX8_mustBeHand_30
set_option maxRecDepth 100000 in
set_option maxHeartbeats 4000000 in
theorem gX8_mustBeHand_j26 (hfl : l.flags = flags0) (t0 : Nat) (m : pmM) : pm_G l Γ zX8_mustBeHand (d + 1) 26 [pmU, pmU, pmU] [.ref t0] m (X8_mustBeHand_j26 t0 m) := by
  unfold X8_mustBeHand_j26
  refine pm_iconst (v := 0) dX8_mustBeHand_26 ki_0 ?_
  exact gX8_mustBeHand_j27 hfl 0 t0 m
set_option maxRecDepth 100000 in
set_option maxHeartbeats 4000000 in
theorem kcX8_mustBeHand (hfl : l.flags = flags0) (a0 : Nat) (a1 : Int32) (a2 : Int32) (m : pmM) : pm_C l Γ zX8_mustBeHand (d + 1) [.ref a0, .int a1, .int a2] m (X8_mustBeHand a0 a1 a2 m) := by
  refine pm_enter (ls := [.ref a0, .int a1, .int a2]) hfl (by decide +kernel) rfl (Nat.le_of_ble_eq_true rfl) rfl (Nat.le_of_ble_eq_true rfl) ?_
  unfold X8_mustBeHand
  refine pm_aload_n dX8_mustBeHand_0 rfl rfl ?_
  refine pm_iload_n dX8_mustBeHand_1 rfl rfl ?_
  refine pm_iconst (v := 1) dX8_mustBeHand_2 ki_1 ?_
  refine pm_icmp_lt (tgt := 26) dX8_mustBeHand_3 rfl ?_ ?_
  · refine pm_drop (ls2 := [pmU, pmU, pmU]) (Nat.le_refl _) (pm_le_spec (pm_le_u (pm_le_u (pm_le_u (pm_le_n))))) ?_
    exact gX8_mustBeHand_j26 hfl a0 m
  · refine pm_iload_n dX8_mustBeHand_6 rfl rfl ?_
    refine pm_bipush (v := 96) dX8_mustBeHand_7 kb_96 ?_
    refine pm_icmp_gt (tgt := 26) dX8_mustBeHand_9 rfl ?_ ?_
    · refine pm_drop (ls2 := [pmU, pmU, pmU]) (Nat.le_refl _) (pm_le_spec (pm_le_u (pm_le_u (pm_le_u (pm_le_n))))) ?_
      exact gX8_mustBeHand_j26 hfl a0 m
    · refine pm_iload_n dX8_mustBeHand_12 rfl rfl ?_
      refine pm_if_lt (tgt := 26) dX8_mustBeHand_13 rfl ?_ ?_
      · refine pm_drop (ls2 := [pmU, pmU, pmU]) (Nat.le_refl _) (pm_le_spec (pm_le_u (pm_le_u (pm_le_u (pm_le_n))))) ?_
        exact gX8_mustBeHand_j26 hfl a0 m
      · refine pm_iload_n dX8_mustBeHand_16 rfl rfl ?_
        refine pm_bipush (v := 16) dX8_mustBeHand_17 kb_16 ?_
        refine pm_icmp_gt (tgt := 26) dX8_mustBeHand_19 rfl ?_ ?_
        · refine pm_drop (ls2 := [pmU, pmU, pmU]) (Nat.le_refl _) (pm_le_spec (pm_le_u (pm_le_u (pm_le_u (pm_le_n))))) ?_
          exact gX8_mustBeHand_j26 hfl a0 m
        · refine pm_iconst (v := 1) dX8_mustBeHand_22 ki_1 ?_
          refine pm_goto (tgt := 27) dX8_mustBeHand_23 rfl ?_
          refine pm_drop (ls2 := [pmU, pmU, pmU]) (Nat.le_refl _) (pm_le_spec (pm_le_u (pm_le_u (pm_le_u (pm_le_n))))) ?_
          exact gX8_mustBeHand_j27 hfl 1 a0 m
-- StruckPage.hand(IIII)I
def X8_hand_j23 (l0 : Nat) (l1 : Int32) (l2 : Int32) (l3 : Int32) (l4 : Int32) (t0 : Int32) (t1 : Nat) (m : pmM) : pmR := pm_rc 8 t1 m <| pm_cV (X8_must t1 t0 m) fun m2 => pm_gR 8 l0 9 m2 fun r3 => pm_gR 8 l0 8 m2 fun r4 => pm_rc 0 r3 m2 <| pm_cV (X0_takeOver r3 r4 m2) fun m5 => pm_gR 8 l0 9 m5 fun r6 => pm_rc 0 r6 m5 <| pm_cV (X0_playHand r6 l1 l2 l3 m5) fun m7 => if l4 = (0 : Int32) then (pm_gR 8 l0 9 m7 fun r8 => pm_rc 0 r8 m7 <| pm_cI (X0_leftInAll r8 m7) fun x10 m9 => pm_oI x10 m9) else if l4 = (1 : Int32) then (pm_gR 8 l0 9 m7 fun r11 => pm_gI 0 r11 5 m7 fun x12 => pm_oI x12 m7) else if l4 = (2 : Int32) then (pm_gR 8 l0 9 m7 fun r13 => pm_gI 0 r13 6 m7 fun x14 => pm_gR 8 l0 8 m7 fun r15 => pm_gI 0 r15 6 m7 fun x16 => pm_oI (x14 - x16) m7) else (pm_gR 8 l0 9 m7 fun r17 => pm_rc 0 r17 m7 <| pm_cI (X0_inAllCells r17 m7) fun x19 m18 => pm_oI x19 m18)
def X8_hand_j22 (l0 : Nat) (l1 : Int32) (l2 : Int32) (l3 : Int32) (l4 : Int32) (t0 : Nat) (m : pmM) : pmR := X8_hand_j23 l0 l1 l2 l3 l4 0 t0 m
def X8_hand (a0 : Nat) (a1 : Int32) (a2 : Int32) (a3 : Int32) (a4 : Int32) (m : pmM) : pmR := pm_rc 8 a0 m <| pm_cV (X8_mustBeHand a0 a2 a3 m) fun m1 => if a4 < 0 then (X8_hand_j22 a0 a1 a2 a3 a4 a0 m1) else (if (3 : Int32) < a4 then (X8_hand_j22 a0 a1 a2 a3 a4 a0 m1) else (X8_hand_j23 a0 a1 a2 a3 a4 1 a0 m1))
set_option maxRecDepth 100000 in
set_option maxHeartbeats 4000000 in
theorem gX8_hand_j23 (hfl : l.flags = flags0) (l0 : Nat) (l1 : Int32) (l2 : Int32) (l3 : Int32) (l4 : Int32) (t0 : Int32) (t1 : Nat) (m : pmM) : pm_G l Γ zX8_hand (d + 5) 23 [.ref l0, .int l1, .int l2, .int l3, .int l4] [.int t0, .ref t1] m (X8_hand_j23 l0 l1 l2 l3 l4 t0 t1 m) := by
  unfold X8_hand_j23
  refine pm_rcv (fun hb9 hc9 => ?_)
  refine pm_kV (d := d + 4) rfl (pm_V (y := zX8_hand) (z := zX8_must) (As := [.int t0]) zkX8_must pm_q8 (by decide) tw_684 tw_686 tw_30 dX8_hand_23 rfl rfl (Nat.le_of_ble_eq_true rfl) hb9 hc9) (kcX8_must (d := d + 4) hfl t1 t0 m) (fun m2 => ?_)
  refine pm_aload_n dX8_hand_26 rfl rfl ?_
  refine fg_8_9 (y := zX8_hand) (Or.inl tw_448) dX8_hand_27 (fun r3 => ?_)
  refine pm_aload_n dX8_hand_30 rfl rfl ?_
  refine fg_8_8 (y := zX8_hand) (Or.inl tw_447) dX8_hand_31 (fun r4 => ?_)
  refine pm_rcv (fun hb9 hc9 => ?_)
  refine pm_kV (d := d + 4) rfl (pm_VN (y := zX8_hand) (z := zX0_takeOver) (As := [.ref r4]) zkX0_takeOver pm_q0 (by decide) tw_556 tw_558 tw_8 dX8_hand_34 rfl rfl (Nat.le_of_ble_eq_true rfl) hb9 hc9) (kcX0_takeOver (d := d + 4) hfl r3 r4 m2) (fun m5 => ?_)
  refine pm_aload_n dX8_hand_37 rfl rfl ?_
  refine fg_8_9 (y := zX8_hand) (Or.inl tw_448) dX8_hand_38 (fun r6 => ?_)
  refine pm_iload_n dX8_hand_41 rfl rfl ?_
  refine pm_iload_n dX8_hand_42 rfl rfl ?_
  refine pm_iload_n dX8_hand_43 rfl rfl ?_
  refine pm_rcv (fun hb9 hc9 => ?_)
  refine pm_kV (d := d + 4) rfl (pm_VN (y := zX8_hand) (z := zX0_playHand) (As := [.int l1, .int l2, .int l3]) zkX0_playHand pm_q0 (by decide) tw_1325 tw_1327 tw_95 dX8_hand_44 rfl rfl (Nat.le_of_ble_eq_true rfl) hb9 hc9) (kcX0_playHand (d := d + 0) hfl r6 l1 l2 l3 m5) (fun m7 => ?_)
  refine pm_iload dX8_hand_47 rfl ?_
  refine pm_case (c := (0 : Int32)) (fun h9 => ?_) (fun h9_0 => ?_)
  · refine pm_swIn (off := (27)) (tgt := 76) dX8_hand_49 (by rw [h9]; decide) (by rw [h9]; decide) (by rw [h9]; decide) (by decide) ?_
    refine pm_aload_n dX8_hand_76 rfl rfl ?_
    refine fg_8_9 (y := zX8_hand) (Or.inl tw_448) dX8_hand_77 (fun r8 => ?_)
    refine pm_rcv (fun hb9 hc9 => ?_)
    refine pm_kI (d := d + 4) rfl (pm_VN (y := zX8_hand) (z := zX0_leftInAll) (As := []) zkX0_leftInAll pm_q0 (by decide) tw_1075 tw_613 tw_19 dX8_hand_80 rfl rfl (Nat.le_of_ble_eq_true rfl) hb9 hc9) (kcX0_leftInAll (d := d + 3) hfl r8 m7) (fun x10 m9 => ?_)
    exact pm_iret rfl dX8_hand_83
  refine pm_case (c := (1 : Int32)) (fun h9 => ?_) (fun h9_1 => ?_)
  · refine pm_swIn (off := (35)) (tgt := 84) dX8_hand_49 (by rw [h9]; decide) (by rw [h9]; decide) (by rw [h9]; decide) (by decide) ?_
    refine pm_aload_n dX8_hand_84 rfl rfl ?_
    refine fg_8_9 (y := zX8_hand) (Or.inl tw_448) dX8_hand_85 (fun r11 => ?_)
    refine fg_0_5 (y := zX8_hand) (Or.inr tw_367) dX8_hand_88 (fun x12 => ?_)
    exact pm_iret rfl dX8_hand_91
  refine pm_case (c := (2 : Int32)) (fun h9 => ?_) (fun h9_2 => ?_)
  · refine pm_swIn (off := (43)) (tgt := 92) dX8_hand_49 (by rw [h9]; decide) (by rw [h9]; decide) (by rw [h9]; decide) (by decide) ?_
    refine pm_aload_n dX8_hand_92 rfl rfl ?_
    refine fg_8_9 (y := zX8_hand) (Or.inl tw_448) dX8_hand_93 (fun r13 => ?_)
    refine fg_0_6 (y := zX8_hand) (Or.inr tw_369) dX8_hand_96 (fun x14 => ?_)
    refine pm_aload_n dX8_hand_99 rfl rfl ?_
    refine fg_8_8 (y := zX8_hand) (Or.inl tw_447) dX8_hand_100 (fun r15 => ?_)
    refine fg_0_6 (y := zX8_hand) (Or.inr tw_369) dX8_hand_103 (fun x16 => ?_)
    refine pm_isub dX8_hand_106 ?_
    exact pm_iret rfl dX8_hand_107
  refine pm_swOut (tgt := 108) dX8_hand_49 (pm_swx l4 (0) 3 (lt_s (lt_s (lt_s (lt_0) (pm_ne h9_0 (by decide))) (pm_ne h9_1 (by decide))) (pm_ne h9_2 (by decide)))) (by decide) ?_
  refine pm_aload_n dX8_hand_108 rfl rfl ?_
  refine fg_8_9 (y := zX8_hand) (Or.inl tw_448) dX8_hand_109 (fun r17 => ?_)
  refine pm_rcv (fun hb9 hc9 => ?_)
  refine pm_kI (d := d + 4) rfl (pm_VN (y := zX8_hand) (z := zX0_inAllCells) (As := []) zkX0_inAllCells pm_q0 (by decide) tw_1076 tw_1078 tw_78 dX8_hand_112 rfl rfl (Nat.le_of_ble_eq_true rfl) hb9 hc9) (kcX0_inAllCells (d := d + 4) hfl r17 m7) (fun x19 m18 => ?_)
  exact pm_iret rfl dX8_hand_115
set_option maxRecDepth 100000 in
set_option maxHeartbeats 4000000 in
theorem gX8_hand_j22 (hfl : l.flags = flags0) (l0 : Nat) (l1 : Int32) (l2 : Int32) (l3 : Int32) (l4 : Int32) (t0 : Nat) (m : pmM) : pm_G l Γ zX8_hand (d + 5) 22 [.ref l0, .int l1, .int l2, .int l3, .int l4] [.ref t0] m (X8_hand_j22 l0 l1 l2 l3 l4 t0 m) := by
  unfold X8_hand_j22
  refine pm_iconst (v := 0) dX8_hand_22 ki_0 ?_
  exact gX8_hand_j23 hfl l0 l1 l2 l3 l4 0 t0 m
set_option maxRecDepth 100000 in
set_option maxHeartbeats 4000000 in
theorem kcX8_hand (hfl : l.flags = flags0) (a0 : Nat) (a1 : Int32) (a2 : Int32) (a3 : Int32) (a4 : Int32) (m : pmM) : pm_C l Γ zX8_hand (d + 5) [.ref a0, .int a1, .int a2, .int a3, .int a4] m (X8_hand a0 a1 a2 a3 a4 m) := by
  refine pm_enter (ls := [.ref a0, .int a1, .int a2, .int a3, .int a4]) hfl (by decide +kernel) rfl (Nat.le_of_ble_eq_true rfl) rfl (Nat.le_of_ble_eq_true rfl) ?_
  unfold X8_hand
  refine pm_aload_n dX8_hand_0 rfl rfl ?_
  refine pm_iload_n dX8_hand_1 rfl rfl ?_
  refine pm_iload_n dX8_hand_2 rfl rfl ?_
  refine pm_rcv (fun hb9 hc9 => ?_)
  refine pm_kV (d := d + 4) rfl (pm_V (y := zX8_hand) (z := zX8_mustBeHand) (As := [.int a2, .int a3]) zkX8_mustBeHand pm_q8 (by decide) tw_1321 tw_1323 tw_94 dX8_hand_3 rfl rfl (Nat.le_of_ble_eq_true rfl) hb9 hc9) (kcX8_mustBeHand (d := d + 3) hfl a0 a2 a3 m) (fun m1 => ?_)
  refine pm_aload_n dX8_hand_6 rfl rfl ?_
  refine pm_iload dX8_hand_7 rfl ?_
  refine pm_if_lt (tgt := 22) dX8_hand_9 rfl ?_ ?_
  · exact gX8_hand_j22 hfl a0 a1 a2 a3 a4 a0 m1
  · refine pm_iload dX8_hand_12 rfl ?_
    refine pm_iconst (v := 3) dX8_hand_14 ki_3 ?_
    refine pm_icmp_gt (tgt := 22) dX8_hand_15 rfl ?_ ?_
    · exact gX8_hand_j22 hfl a0 a1 a2 a3 a4 a0 m1
    · refine pm_iconst (v := 1) dX8_hand_18 ki_1 ?_
      refine pm_goto (tgt := 23) dX8_hand_19 rfl ?_
      exact gX8_hand_j23 hfl a0 a1 a2 a3 a4 1 a0 m1
end GEN13
