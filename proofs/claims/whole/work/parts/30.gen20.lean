section GEN20
variable {l : Launch} {Γ : pmG} {d : Nat}
-- StruckPageModel.does([I[I)Z
def X9_does (a0 : Nat) (a1 : Nat) (a2 : Nat) (m : pmM) : pmR := pm_ld 100 a2 0 m fun x1 => if x1 = (0 : Int32) then (pm_ld 100 a2 1 m fun x2 => pm_ld 100 a2 2 m fun x3 => pm_ld 100 a2 3 m fun x4 => pm_rc 9 a0 m <| pm_cI (X9_strikes a0 a1 x2 x3 x4 m) fun x6 m5 => pm_oI (vp_nar .boolean x6) m5) else if x1 = (1 : Int32) then (pm_ld 100 a2 1 m fun x7 => pm_rc 9 a0 m <| pm_cI (X9_runs a0 a1 x7 m) fun x9 m8 => pm_oI (vp_nar .boolean x9) m8) else if x1 = (2 : Int32) then (pm_rc 9 a0 m <| pm_cI (X9_begins a0 a1 m) fun x11 m10 => pm_oI (vp_nar .boolean x11) m10) else if x1 = (3 : Int32) then (pm_ld 100 a1 10 m fun x12 => pm_ld 100 a2 1 m fun x13 => pm_cI (X9_less 200 (x12 + x13) m) fun x15 m14 => pm_cI (X9_becomes a1 10 x15 m14) fun x17 m16 => pm_oI (vp_nar .boolean x17) m16) else if x1 = (4 : Int32) then (pm_rc 9 a0 m <| pm_cI (X9_wipes a0 a1 m) fun x19 m18 => pm_oI (vp_nar .boolean x19) m18) else (pm_ld 100 a2 1 m fun x20 => pm_ld 100 a2 2 m fun x21 => pm_cI (X9_becomes a1 ((6 : Int32) + x20) x21 m) fun x23 m22 => pm_oI (vp_nar .boolean x23) m22)
set_option maxRecDepth 100000 in
set_option maxHeartbeats 4000000 in
theorem kcX9_does (hfl : l.flags = flags0) (a0 : Nat) (a1 : Nat) (a2 : Nat) (m : pmM) : pm_C l Γ zX9_does (d + 6) [.ref a0, .ref a1, .ref a2] m (X9_does a0 a1 a2 m) := by
  refine pm_enter (ls := [.ref a0, .ref a1, .ref a2]) hfl (by decide +kernel) rfl (Nat.le_of_ble_eq_true rfl) rfl (Nat.le_of_ble_eq_true rfl) ?_
  unfold X9_does
  refine pm_aload_n dX9_does_0 rfl rfl ?_
  refine pm_iconst (v := 0) dX9_does_1 ki_0 ?_
  refine pm_iald (y := zX9_does) dX9_does_2 (fun x1 => ?_)
  refine pm_case (c := (0 : Int32)) (fun h9 => ?_) (fun h9_0 => ?_)
  · refine pm_swIn (off := (33)) (tgt := 36) dX9_does_3 (by rw [h9]; decide) (by rw [h9]; decide) (by rw [h9]; decide) (by decide) ?_
    refine pm_aload_n dX9_does_36 rfl rfl ?_
    refine pm_aload_n dX9_does_37 rfl rfl ?_
    refine pm_aload_n dX9_does_38 rfl rfl ?_
    refine pm_iconst (v := 1) dX9_does_39 ki_1 ?_
    refine pm_iald (y := zX9_does) dX9_does_40 (fun x2 => ?_)
    refine pm_aload_n dX9_does_41 rfl rfl ?_
    refine pm_iconst (v := 2) dX9_does_42 ki_2 ?_
    refine pm_iald (y := zX9_does) dX9_does_43 (fun x3 => ?_)
    refine pm_aload_n dX9_does_44 rfl rfl ?_
    refine pm_iconst (v := 3) dX9_does_45 ki_3 ?_
    refine pm_iald (y := zX9_does) dX9_does_46 (fun x4 => ?_)
    refine pm_rcv (fun hb9 hc9 => ?_)
    refine pm_kI (d := d + 5) rfl (pm_V (y := zX9_does) (z := zX9_strikes) (As := [.ref a1, .int x2, .int x3, .int x4]) zkX9_strikes pm_q9 (by decide) tw_1689 tw_1691 tw_127 dX9_does_47 rfl rfl (Nat.le_of_ble_eq_true rfl) hb9 hc9) (kcX9_strikes (d := d + 0) hfl a0 a1 x2 x3 x4 m) (fun x6 m5 => ?_)
    exact pm_nret (ty := .boolean) (w := vp_nar .boolean x6) rfl (by decide) rfl dX9_does_50
  refine pm_case (c := (1 : Int32)) (fun h9 => ?_) (fun h9_1 => ?_)
  · refine pm_swIn (off := (48)) (tgt := 51) dX9_does_3 (by rw [h9]; decide) (by rw [h9]; decide) (by rw [h9]; decide) (by decide) ?_
    refine pm_aload_n dX9_does_51 rfl rfl ?_
    refine pm_aload_n dX9_does_52 rfl rfl ?_
    refine pm_aload_n dX9_does_53 rfl rfl ?_
    refine pm_iconst (v := 1) dX9_does_54 ki_1 ?_
    refine pm_iald (y := zX9_does) dX9_does_55 (fun x7 => ?_)
    refine pm_rcv (fun hb9 hc9 => ?_)
    refine pm_kI (d := d + 5) rfl (pm_V (y := zX9_does) (z := zX9_runs) (As := [.ref a1, .int x7]) zkX9_runs pm_q9 (by decide) tw_1728 tw_1730 tw_133 dX9_does_56 rfl rfl (Nat.le_of_ble_eq_true rfl) hb9 hc9) (kcX9_runs (d := d + 1) hfl a0 a1 x7 m) (fun x9 m8 => ?_)
    exact pm_nret (ty := .boolean) (w := vp_nar .boolean x9) rfl (by decide) rfl dX9_does_59
  refine pm_case (c := (2 : Int32)) (fun h9 => ?_) (fun h9_2 => ?_)
  · refine pm_swIn (off := (57)) (tgt := 60) dX9_does_3 (by rw [h9]; decide) (by rw [h9]; decide) (by rw [h9]; decide) (by decide) ?_
    refine pm_aload_n dX9_does_60 rfl rfl ?_
    refine pm_aload_n dX9_does_61 rfl rfl ?_
    refine pm_rcv (fun hb9 hc9 => ?_)
    refine pm_kI (d := d + 5) rfl (pm_V (y := zX9_does) (z := zX9_begins) (As := [.ref a1]) zkX9_begins pm_q9 (by decide) tw_1755 tw_1757 tw_139 dX9_does_62 rfl rfl (Nat.le_of_ble_eq_true rfl) hb9 hc9) (kcX9_begins (d := d + 5) hfl a0 a1 m) (fun x11 m10 => ?_)
    exact pm_nret (ty := .boolean) (w := vp_nar .boolean x11) rfl (by decide) rfl dX9_does_65
  refine pm_case (c := (3 : Int32)) (fun h9 => ?_) (fun h9_3 => ?_)
  · refine pm_swIn (off := (63)) (tgt := 66) dX9_does_3 (by rw [h9]; decide) (by rw [h9]; decide) (by rw [h9]; decide) (by decide) ?_
    refine pm_aload_n dX9_does_66 rfl rfl ?_
    refine pm_bipush (v := 10) dX9_does_67 kb_10 ?_
    refine pm_sipush (v := 200) dX9_does_69 ks_200 ?_
    refine pm_aload_n dX9_does_72 rfl rfl ?_
    refine pm_bipush (v := 10) dX9_does_73 kb_10 ?_
    refine pm_iald (y := zX9_does) dX9_does_75 (fun x12 => ?_)
    refine pm_aload_n dX9_does_76 rfl rfl ?_
    refine pm_iconst (v := 1) dX9_does_77 ki_1 ?_
    refine pm_iald (y := zX9_does) dX9_does_78 (fun x13 => ?_)
    refine pm_iadd dX9_does_79 ?_
    refine pm_kI (d := d + 5) rfl (pm_S (y := zX9_does) (z := zX9_less) (As := [.int 200, .int (x12 + x13)]) zkX9_less tw_1722 tw_1723 dX9_does_80 rfl rfl (Nat.le_of_ble_eq_true rfl)) (kcX9_less (d := d + 5) hfl 200 (x12 + x13) m) (fun x15 m14 => ?_)
    refine pm_kI (d := d + 5) rfl (pm_S (y := zX9_does) (z := zX9_becomes) (As := [.ref a1, .int 10, .int x15]) zkX9_becomes tw_1759 tw_1760 dX9_does_83 rfl rfl (Nat.le_of_ble_eq_true rfl)) (kcX9_becomes (d := d + 5) hfl a1 10 x15 m14) (fun x17 m16 => ?_)
    exact pm_nret (ty := .boolean) (w := vp_nar .boolean x17) rfl (by decide) rfl dX9_does_86
  refine pm_case (c := (4 : Int32)) (fun h9 => ?_) (fun h9_4 => ?_)
  · refine pm_swIn (off := (84)) (tgt := 87) dX9_does_3 (by rw [h9]; decide) (by rw [h9]; decide) (by rw [h9]; decide) (by decide) ?_
    refine pm_aload_n dX9_does_87 rfl rfl ?_
    refine pm_aload_n dX9_does_88 rfl rfl ?_
    refine pm_rcv (fun hb9 hc9 => ?_)
    refine pm_kI (d := d + 5) rfl (pm_V (y := zX9_does) (z := zX9_wipes) (As := [.ref a1]) zkX9_wipes pm_q9 (by decide) tw_1762 tw_1764 tw_140 dX9_does_89 rfl rfl (Nat.le_of_ble_eq_true rfl) hb9 hc9) (kcX9_wipes (d := d + 5) hfl a0 a1 m) (fun x19 m18 => ?_)
    exact pm_nret (ty := .boolean) (w := vp_nar .boolean x19) rfl (by decide) rfl dX9_does_92
  refine pm_swOut (tgt := 93) dX9_does_3 (pm_swx x1 (0) 5 (lt_s (lt_s (lt_s (lt_s (lt_s (lt_0) (pm_ne h9_0 (by decide))) (pm_ne h9_1 (by decide))) (pm_ne h9_2 (by decide))) (pm_ne h9_3 (by decide))) (pm_ne h9_4 (by decide)))) (by decide) ?_
  refine pm_aload_n dX9_does_93 rfl rfl ?_
  refine pm_bipush (v := 6) dX9_does_94 kb_6 ?_
  refine pm_aload_n dX9_does_96 rfl rfl ?_
  refine pm_iconst (v := 1) dX9_does_97 ki_1 ?_
  refine pm_iald (y := zX9_does) dX9_does_98 (fun x20 => ?_)
  refine pm_iadd dX9_does_99 ?_
  refine pm_aload_n dX9_does_100 rfl rfl ?_
  refine pm_iconst (v := 2) dX9_does_101 ki_2 ?_
  refine pm_iald (y := zX9_does) dX9_does_102 (fun x21 => ?_)
  refine pm_kI (d := d + 5) rfl (pm_S (y := zX9_does) (z := zX9_becomes) (As := [.ref a1, .int ((6 : Int32) + x20), .int x21]) zkX9_becomes tw_1759 tw_1760 dX9_does_103 rfl rfl (Nat.le_of_ble_eq_true rfl)) (kcX9_becomes (d := d + 5) hfl a1 ((6 : Int32) + x20) x21 m) (fun x23 m22 => ?_)
  exact pm_nret (ty := .boolean) (w := vp_nar .boolean x23) rfl (by decide) rfl dX9_does_106
-- StruckPageModel.goes(II)V
def X9_goes_j156 (rs : Nat → Int32 → Int32 → pmM → pmR) (m : pmM) : pmR := pm_oV m
def X9_goes_j144 (rs : Nat → Int32 → Int32 → pmM → pmR) (again2 : (Int32 × pmM) → pmR) (l0 : Nat) (l2 : Int32) (l3 : Int32) (m : pmM) : pmR := pm_gR 9 l0 27 m fun r16 => pm_ldR 103 r16 l3 m fun r17 => pm_ld 100 r17 4 m fun x18 => again2 (x18, m)
def X9_goes_j140 (rs : Nat → Int32 → Int32 → pmM → pmR) (again2 : (Int32 × pmM) → pmR) (l0 : Nat) (l2 : Int32) (l3 : Int32) (t0 : Int32) (t1 : Int32) (t2 : Nat) (m : pmM) : pmR := pm_pI 9 t2 35 (t1 + t0) m fun m15 => X9_goes_j144 rs again2 l0 l2 l3 m15
def X9_goes_j121 (rs : Nat → Int32 → Int32 → pmM → pmR) (again2 : (Int32 × pmM) → pmR) (l0 : Nat) (l2 : Int32) (l3 : Int32) (l4 : Int32) (t0 : Int32) (t1 : Int32) (t2 : Nat) (m : pmM) : pmR := pm_pI 9 t2 39 (t1 + t0) m fun m13 => pm_gI 9 l0 35 m13 fun x14 => if l4 = 0 then (X9_goes_j140 rs again2 l0 l2 l3 1 x14 l0 m13) else (X9_goes_j140 rs again2 l0 l2 l3 0 x14 l0 m13)
def X9_goes_j87 (rs : Nat → Int32 → Int32 → pmM → pmR) (again2 : (Int32 × pmM) → pmR) (l0 : Nat) (l2 : Int32) (l3 : Int32) (m : pmM) : pmR := X9_goes_j144 rs again2 l0 l2 l3 m
def X9_goes_L43 (rs : Nat → Int32 → Int32 → pmM → pmR) (again2 : (Int32 × pmM) → pmR) (l0 : Nat) (l2 : Int32) (l3 : Int32) (again43 : (Int32 × pmM) → pmR) (s43 : Int32 × pmM) : pmR := pm_gR 9 l0 27 s43.2 fun r19 => pm_ldR 103 r19 l3 s43.2 fun r20 => pm_ld 100 r20 1 s43.2 fun x21 => if x21 ≤ s43.1 then (X9_goes_j87 rs again2 l0 l2 l3 s43.2) else (pm_gI 9 l0 38 s43.2 fun x22 => if (200 : Int32) ≤ x22 then (X9_goes_j87 rs again2 l0 l2 l3 s43.2) else (pm_gR 9 l0 27 s43.2 fun r23 => pm_ldR 103 r23 l3 s43.2 fun r24 => pm_ld 100 r24 4 s43.2 fun x25 => pm_rc 9 l0 s43.2 <| pm_cV (rs l0 (l3 + 1) x25 s43.2) fun m26 => pm_bI (s43.1 + 1) fun x27 => again43 (x27, m26)))
def X9_goes_L2 (rs : Nat → Int32 → Int32 → pmM → pmR) (l0 : Nat) (l2 : Int32) (again2 : (Int32 × pmM) → pmR) (s2 : Int32 × pmM) : pmR := if l2 ≤ s2.1 then (X9_goes_j156 rs s2.2) else (pm_gI 9 l0 38 s2.2 fun x1 => if (200 : Int32) ≤ x1 then (X9_goes_j156 rs s2.2) else (pm_gI 9 l0 38 s2.2 fun x2 => pm_pI 9 l0 38 (x2 + 1) s2.2 fun m3 => pm_gR 9 l0 27 m3 fun r4 => pm_ldR 103 r4 s2.1 m3 fun r5 => pm_ld 100 r5 0 m3 fun x6 => if x6 = 6 then (pm_lp pm_N (X9_goes_L43 rs again2 l0 l2 s2.1) (0, m3)) else (pm_gR 9 l0 29 m3 fun r7 => pm_gR 9 l0 27 m3 fun r8 => pm_ldR 103 r8 s2.1 m3 fun r9 => pm_rc 9 l0 m3 <| pm_cI (X9_does l0 r7 r9 m3) fun x11 m10 => pm_gI 9 l0 39 m10 fun x12 => if x11 = 0 then (X9_goes_j121 rs again2 l0 l2 s2.1 x11 0 x12 l0 m10) else (X9_goes_j121 rs again2 l0 l2 s2.1 x11 1 x12 l0 m10))))
def X9_goes (rs : Nat → Int32 → Int32 → pmM → pmR) (a0 : Nat) (a1 : Int32) (a2 : Int32) (m : pmM) : pmR := pm_lp pm_N (X9_goes_L2 rs a0 a2) (a1, m)
def X9_goes_N : Nat → Nat → Int32 → Int32 → pmM → pmR
  | 0 => fun _ _ _ _ => none
  | n + 1 => X9_goes (X9_goes_N n)
set_option maxRecDepth 100000 in
set_option maxHeartbeats 4000000 in
theorem gX9_goes_j156 (hfl : l.flags = flags0) (rs : Nat → Int32 → Int32 → pmM → pmR) (m : pmM) (hrs : ∀ (j : Nat) (b0 : Nat) (b1 : Int32) (b2 : Int32) (m : pmM), pm_C l Γ zX9_goes (d + j + 6) [.ref b0, .int b1, .int b2] m (rs b0 b1 b2 m)) : pm_G l Γ zX9_goes (d + 7) 156 [pmU, pmU, pmU, pmU, pmU] [] m (X9_goes_j156 rs m) := by
  unfold X9_goes_j156
  exact pm_vret rfl dX9_goes_156
set_option maxRecDepth 100000 in
set_option maxHeartbeats 4000000 in
theorem gX9_goes_j144 (hfl : l.flags = flags0) (rs : Nat → Int32 → Int32 → pmM → pmR) (again2 : (Int32 × pmM) → pmR) (l0 : Nat) (l2 : Int32) (l3 : Int32) (m : pmM) (hrs : ∀ (j : Nat) (b0 : Nat) (b1 : Int32) (b2 : Int32) (m : pmM), pm_C l Γ zX9_goes (d + j + 6) [.ref b0, .int b1, .int b2] m (rs b0 b1 b2 m)) (hag2 : ∀ s : Int32 × pmM, pm_G l Γ zX9_goes (d + 7) 2 [.ref l0, pmU, .int l2, .int s.1, pmU] [] s.2 (again2 s)) : pm_G l Γ zX9_goes (d + 7) 144 [.ref l0, pmU, .int l2, .int l3, pmU] [] m (X9_goes_j144 rs again2 l0 l2 l3 m) := by
  unfold X9_goes_j144
  refine pm_aload_n dX9_goes_144 rfl rfl ?_
  refine fg_9_27 (y := zX9_goes) (Or.inl tw_1393) dX9_goes_145 (fun r16 => ?_)
  refine pm_iload_n dX9_goes_148 rfl rfl ?_
  refine pm_aaldI (y := zX9_goes) dX9_goes_149 (fun r17 => ?_)
  refine pm_iconst (v := 4) dX9_goes_150 ki_4 ?_
  refine pm_iald (y := zX9_goes) dX9_goes_151 (fun x18 => ?_)
  refine pm_istore_n (ls2 := [.ref l0, pmU, .int l2, .int x18, pmU]) dX9_goes_152 rfl rfl (Nat.le_of_ble_eq_true rfl) rfl ?_
  refine pm_goto (tgt := 2) dX9_goes_153 rfl ?_
  exact hag2 (x18, m)
set_option maxRecDepth 100000 in
set_option maxHeartbeats 4000000 in
theorem gX9_goes_j140 (hfl : l.flags = flags0) (rs : Nat → Int32 → Int32 → pmM → pmR) (again2 : (Int32 × pmM) → pmR) (l0 : Nat) (l2 : Int32) (l3 : Int32) (t0 : Int32) (t1 : Int32) (t2 : Nat) (m : pmM) (hrs : ∀ (j : Nat) (b0 : Nat) (b1 : Int32) (b2 : Int32) (m : pmM), pm_C l Γ zX9_goes (d + j + 6) [.ref b0, .int b1, .int b2] m (rs b0 b1 b2 m)) (hag2 : ∀ s : Int32 × pmM, pm_G l Γ zX9_goes (d + 7) 2 [.ref l0, pmU, .int l2, .int s.1, pmU] [] s.2 (again2 s)) : pm_G l Γ zX9_goes (d + 7) 140 [.ref l0, pmU, .int l2, .int l3, pmU] [.int t0, .int t1, .ref t2] m (X9_goes_j140 rs again2 l0 l2 l3 t0 t1 t2 m) := by
  unfold X9_goes_j140
  refine pm_iadd dX9_goes_140 ?_
  refine fp_9_35 (y := zX9_goes) (Or.inl tw_1401) dX9_goes_141 (fun m15 => ?_)
  exact gX9_goes_j144 hfl rs again2 l0 l2 l3 m15 hrs hag2
set_option maxRecDepth 100000 in
set_option maxHeartbeats 4000000 in
theorem gX9_goes_j121 (hfl : l.flags = flags0) (rs : Nat → Int32 → Int32 → pmM → pmR) (again2 : (Int32 × pmM) → pmR) (l0 : Nat) (l2 : Int32) (l3 : Int32) (l4 : Int32) (t0 : Int32) (t1 : Int32) (t2 : Nat) (m : pmM) (hrs : ∀ (j : Nat) (b0 : Nat) (b1 : Int32) (b2 : Int32) (m : pmM), pm_C l Γ zX9_goes (d + j + 6) [.ref b0, .int b1, .int b2] m (rs b0 b1 b2 m)) (hag2 : ∀ s : Int32 × pmM, pm_G l Γ zX9_goes (d + 7) 2 [.ref l0, pmU, .int l2, .int s.1, pmU] [] s.2 (again2 s)) : pm_G l Γ zX9_goes (d + 7) 121 [.ref l0, pmU, .int l2, .int l3, .int l4] [.int t0, .int t1, .ref t2] m (X9_goes_j121 rs again2 l0 l2 l3 l4 t0 t1 t2 m) := by
  unfold X9_goes_j121
  refine pm_iadd dX9_goes_121 ?_
  refine fp_9_39 (y := zX9_goes) (Or.inl tw_1405) dX9_goes_122 (fun m13 => ?_)
  refine pm_aload_n dX9_goes_125 rfl rfl ?_
  refine pm_dup dX9_goes_126 rfl ?_
  refine fg_9_35 (y := zX9_goes) (Or.inl tw_1401) dX9_goes_127 (fun x14 => ?_)
  refine pm_iload dX9_goes_130 rfl ?_
  refine pm_if_eq (tgt := 139) dX9_goes_132 rfl ?_ ?_
  · refine pm_iconst (v := 1) dX9_goes_139 ki_1 ?_
    refine pm_drop (ls2 := [.ref l0, pmU, .int l2, .int l3, pmU]) (Nat.le_refl _) (pm_le_spec (pm_le_v (pm_le_u (pm_le_v (pm_le_v (pm_le_u (pm_le_n))))))) ?_
    exact gX9_goes_j140 hfl rs again2 l0 l2 l3 1 x14 l0 m13 hrs hag2
  · refine pm_iconst (v := 0) dX9_goes_135 ki_0 ?_
    refine pm_goto (tgt := 140) dX9_goes_136 rfl ?_
    refine pm_drop (ls2 := [.ref l0, pmU, .int l2, .int l3, pmU]) (Nat.le_refl _) (pm_le_spec (pm_le_v (pm_le_u (pm_le_v (pm_le_v (pm_le_u (pm_le_n))))))) ?_
    exact gX9_goes_j140 hfl rs again2 l0 l2 l3 0 x14 l0 m13 hrs hag2
set_option maxRecDepth 100000 in
set_option maxHeartbeats 4000000 in
theorem gX9_goes_j87 (hfl : l.flags = flags0) (rs : Nat → Int32 → Int32 → pmM → pmR) (again2 : (Int32 × pmM) → pmR) (l0 : Nat) (l2 : Int32) (l3 : Int32) (m : pmM) (hrs : ∀ (j : Nat) (b0 : Nat) (b1 : Int32) (b2 : Int32) (m : pmM), pm_C l Γ zX9_goes (d + j + 6) [.ref b0, .int b1, .int b2] m (rs b0 b1 b2 m)) (hag2 : ∀ s : Int32 × pmM, pm_G l Γ zX9_goes (d + 7) 2 [.ref l0, pmU, .int l2, .int s.1, pmU] [] s.2 (again2 s)) : pm_G l Γ zX9_goes (d + 7) 87 [.ref l0, pmU, .int l2, .int l3, pmU] [] m (X9_goes_j87 rs again2 l0 l2 l3 m) := by
  unfold X9_goes_j87
  refine pm_goto (tgt := 144) dX9_goes_87 rfl ?_
  exact gX9_goes_j144 hfl rs again2 l0 l2 l3 m hrs hag2
set_option maxRecDepth 100000 in
set_option maxHeartbeats 4000000 in
theorem gX9_goes_L43 (hfl : l.flags = flags0) (rs : Nat → Int32 → Int32 → pmM → pmR) (again2 : (Int32 × pmM) → pmR) (l0 : Nat) (l2 : Int32) (l3 : Int32) (hrs : ∀ (j : Nat) (b0 : Nat) (b1 : Int32) (b2 : Int32) (m : pmM), pm_C l Γ zX9_goes (d + j + 6) [.ref b0, .int b1, .int b2] m (rs b0 b1 b2 m)) (hag2 : ∀ s : Int32 × pmM, pm_G l Γ zX9_goes (d + 7) 2 [.ref l0, pmU, .int l2, .int s.1, pmU] [] s.2 (again2 s)) : ∀ (n : Nat) (s : Int32 × pmM), pm_G l Γ zX9_goes (d + 7) 43 [.ref l0, pmU, .int l2, .int l3, .int s.1] [] s.2 (pm_lp n (X9_goes_L43 rs again2 l0 l2 l3) s) :=
  pm_loop (lsf := fun s : Int32 × pmM => [.ref l0, pmU, .int l2, .int l3, .int s.1]) (mf := fun s : Int32 × pmM => s.2) (fun again43 hag43 s43 => by
    unfold X9_goes_L43
    refine pm_iload dX9_goes_43 rfl ?_
    refine pm_aload_n dX9_goes_45 rfl rfl ?_
    refine fg_9_27 (y := zX9_goes) (Or.inl tw_1393) dX9_goes_46 (fun r19 => ?_)
    refine pm_iload_n dX9_goes_49 rfl rfl ?_
    refine pm_aaldI (y := zX9_goes) dX9_goes_50 (fun r20 => ?_)
    refine pm_iconst (v := 1) dX9_goes_51 ki_1 ?_
    refine pm_iald (y := zX9_goes) dX9_goes_52 (fun x21 => ?_)
    refine pm_icmp_ge (tgt := 87) dX9_goes_53 rfl ?_ ?_
    · refine pm_drop (ls2 := [.ref l0, pmU, .int l2, .int l3, pmU]) (Nat.le_refl _) (pm_le_spec (pm_le_v (pm_le_u (pm_le_v (pm_le_v (pm_le_u (pm_le_n))))))) ?_
      exact gX9_goes_j87 hfl rs again2 l0 l2 l3 s43.2 hrs hag2
    · refine pm_aload_n dX9_goes_56 rfl rfl ?_
      refine fg_9_38 (y := zX9_goes) (Or.inl tw_1404) dX9_goes_57 (fun x22 => ?_)
      refine pm_sipush (v := 200) dX9_goes_60 ks_200 ?_
      refine pm_icmp_ge (tgt := 87) dX9_goes_63 rfl ?_ ?_
      · refine pm_drop (ls2 := [.ref l0, pmU, .int l2, .int l3, pmU]) (Nat.le_refl _) (pm_le_spec (pm_le_v (pm_le_u (pm_le_v (pm_le_v (pm_le_u (pm_le_n))))))) ?_
        exact gX9_goes_j87 hfl rs again2 l0 l2 l3 s43.2 hrs hag2
      · refine pm_aload_n dX9_goes_66 rfl rfl ?_
        refine pm_iload_n dX9_goes_67 rfl rfl ?_
        refine pm_iconst (v := 1) dX9_goes_68 ki_1 ?_
        refine pm_iadd dX9_goes_69 ?_
        refine pm_aload_n dX9_goes_70 rfl rfl ?_
        refine fg_9_27 (y := zX9_goes) (Or.inl tw_1393) dX9_goes_71 (fun r23 => ?_)
        refine pm_iload_n dX9_goes_74 rfl rfl ?_
        refine pm_aaldI (y := zX9_goes) dX9_goes_75 (fun r24 => ?_)
        refine pm_iconst (v := 4) dX9_goes_76 ki_4 ?_
        refine pm_iald (y := zX9_goes) dX9_goes_77 (fun x25 => ?_)
        refine pm_rcv (fun hb9 hc9 => ?_)
        refine pm_kV (d := d + 6) rfl (pm_V (y := zX9_goes) (z := zX9_goes) (As := [.int (l3 + 1), .int x25]) zkX9_goes pm_q9 (by decide) tw_1681 tw_1683 tw_125 dX9_goes_78 rfl rfl (Nat.le_of_ble_eq_true rfl) hb9 hc9) (hrs 0 l0 (l3 + 1) x25 s43.2) (fun m26 => ?_)
        refine pm_iincn (y := zX9_goes) dX9_goes_81 rfl ki_1 rfl (Nat.le_of_ble_eq_true rfl) (fun x27 => ?_)
        refine pm_eqls (ls2 := [.ref l0, pmU, .int l2, .int l3, .int x27]) rfl ?_
        refine pm_goto (tgt := 43) dX9_goes_84 rfl ?_
        exact hag43 (x27, m26))
set_option maxRecDepth 100000 in
set_option maxHeartbeats 4000000 in
theorem gX9_goes_L2 (hfl : l.flags = flags0) (rs : Nat → Int32 → Int32 → pmM → pmR) (l0 : Nat) (l2 : Int32) (hrs : ∀ (j : Nat) (b0 : Nat) (b1 : Int32) (b2 : Int32) (m : pmM), pm_C l Γ zX9_goes (d + j + 6) [.ref b0, .int b1, .int b2] m (rs b0 b1 b2 m)) : ∀ (n : Nat) (s : Int32 × pmM), pm_G l Γ zX9_goes (d + 7) 2 [.ref l0, pmU, .int l2, .int s.1, pmU] [] s.2 (pm_lp n (X9_goes_L2 rs l0 l2) s) :=
  pm_loop (lsf := fun s : Int32 × pmM => [.ref l0, pmU, .int l2, .int s.1, pmU]) (mf := fun s : Int32 × pmM => s.2) (fun again2 hag2 s2 => by
    unfold X9_goes_L2
    refine pm_iload_n dX9_goes_2 rfl rfl ?_
    refine pm_iload_n dX9_goes_3 rfl rfl ?_
    refine pm_icmp_ge (tgt := 156) dX9_goes_4 rfl ?_ ?_
    · refine pm_drop (ls2 := [pmU, pmU, pmU, pmU, pmU]) (Nat.le_refl _) (pm_le_spec (pm_le_u (pm_le_u (pm_le_u (pm_le_u (pm_le_u (pm_le_n))))))) ?_
      exact gX9_goes_j156 hfl rs s2.2 hrs
    · refine pm_aload_n dX9_goes_7 rfl rfl ?_
      refine fg_9_38 (y := zX9_goes) (Or.inl tw_1404) dX9_goes_8 (fun x1 => ?_)
      refine pm_sipush (v := 200) dX9_goes_11 ks_200 ?_
      refine pm_icmp_ge (tgt := 156) dX9_goes_14 rfl ?_ ?_
      · refine pm_drop (ls2 := [pmU, pmU, pmU, pmU, pmU]) (Nat.le_refl _) (pm_le_spec (pm_le_u (pm_le_u (pm_le_u (pm_le_u (pm_le_u (pm_le_n))))))) ?_
        exact gX9_goes_j156 hfl rs s2.2 hrs
      · refine pm_aload_n dX9_goes_17 rfl rfl ?_
        refine pm_dup dX9_goes_18 rfl ?_
        refine fg_9_38 (y := zX9_goes) (Or.inl tw_1404) dX9_goes_19 (fun x2 => ?_)
        refine pm_iconst (v := 1) dX9_goes_22 ki_1 ?_
        refine pm_iadd dX9_goes_23 ?_
        refine fp_9_38 (y := zX9_goes) (Or.inl tw_1404) dX9_goes_24 (fun m3 => ?_)
        refine pm_aload_n dX9_goes_27 rfl rfl ?_
        refine fg_9_27 (y := zX9_goes) (Or.inl tw_1393) dX9_goes_28 (fun r4 => ?_)
        refine pm_iload_n dX9_goes_31 rfl rfl ?_
        refine pm_aaldI (y := zX9_goes) dX9_goes_32 (fun r5 => ?_)
        refine pm_iconst (v := 0) dX9_goes_33 ki_0 ?_
        refine pm_iald (y := zX9_goes) dX9_goes_34 (fun x6 => ?_)
        refine pm_bipush (v := 6) dX9_goes_35 kb_6 ?_
        refine pm_icmp_ne (tgt := 90) dX9_goes_37 rfl ?_ ?_
        · refine pm_aload_n dX9_goes_90 rfl rfl ?_
          refine pm_aload_n dX9_goes_91 rfl rfl ?_
          refine fg_9_29 (y := zX9_goes) (Or.inl tw_1395) dX9_goes_92 (fun r7 => ?_)
          refine pm_aload_n dX9_goes_95 rfl rfl ?_
          refine fg_9_27 (y := zX9_goes) (Or.inl tw_1393) dX9_goes_96 (fun r8 => ?_)
          refine pm_iload_n dX9_goes_99 rfl rfl ?_
          refine pm_aaldI (y := zX9_goes) dX9_goes_100 (fun r9 => ?_)
          refine pm_rcv (fun hb9 hc9 => ?_)
          refine pm_kI (d := d + 6) rfl (pm_V (y := zX9_goes) (z := zX9_does) (As := [.ref r7, .ref r9]) zkX9_does pm_q9 (by decide) tw_1685 tw_1687 tw_126 dX9_goes_101 rfl rfl (Nat.le_of_ble_eq_true rfl) hb9 hc9) (kcX9_does (d := d + 0) hfl l0 r7 r9 m3) (fun x11 m10 => ?_)
          refine pm_istore (ls2 := [.ref l0, pmU, .int l2, .int s2.1, .int x11]) dX9_goes_104 rfl (Nat.le_of_ble_eq_true rfl) rfl ?_
          refine pm_aload_n dX9_goes_106 rfl rfl ?_
          refine pm_dup dX9_goes_107 rfl ?_
          refine fg_9_39 (y := zX9_goes) (Or.inl tw_1405) dX9_goes_108 (fun x12 => ?_)
          refine pm_iload dX9_goes_111 rfl ?_
          refine pm_if_eq (tgt := 120) dX9_goes_113 rfl ?_ ?_
          · refine pm_iconst (v := 0) dX9_goes_120 ki_0 ?_
            exact gX9_goes_j121 hfl rs again2 l0 l2 s2.1 x11 0 x12 l0 m10 hrs hag2
          · refine pm_iconst (v := 1) dX9_goes_116 ki_1 ?_
            refine pm_goto (tgt := 121) dX9_goes_117 rfl ?_
            exact gX9_goes_j121 hfl rs again2 l0 l2 s2.1 x11 1 x12 l0 m10 hrs hag2
        · refine pm_iconst (v := 0) dX9_goes_40 ki_0 ?_
          refine pm_istore (ls2 := [.ref l0, pmU, .int l2, .int s2.1, .int 0]) dX9_goes_41 rfl (Nat.le_of_ble_eq_true rfl) rfl ?_
          exact gX9_goes_L43 hfl rs again2 l0 l2 s2.1 hrs hag2 pm_N (0, m3))
set_option maxRecDepth 100000 in
set_option maxHeartbeats 4000000 in
theorem kcX9_goes (hfl : l.flags = flags0) (rs : Nat → Int32 → Int32 → pmM → pmR) (a0 : Nat) (a1 : Int32) (a2 : Int32) (m : pmM) (hrs : ∀ (j : Nat) (b0 : Nat) (b1 : Int32) (b2 : Int32) (m : pmM), pm_C l Γ zX9_goes (d + j + 6) [.ref b0, .int b1, .int b2] m (rs b0 b1 b2 m)) : pm_C l Γ zX9_goes (d + 7) [.ref a0, .int a1, .int a2] m (X9_goes rs a0 a1 a2 m) := by
  refine pm_enter (ls := [.ref a0, .int a1, .int a2, pmU, pmU]) hfl (by decide +kernel) rfl (Nat.le_of_ble_eq_true rfl) rfl (Nat.le_of_ble_eq_true rfl) ?_
  unfold X9_goes
  refine pm_iload_n dX9_goes_0 rfl rfl ?_
  refine pm_istore_n (ls2 := [.ref a0, .int a1, .int a2, .int a1, pmU]) dX9_goes_1 rfl rfl (Nat.le_of_ble_eq_true rfl) rfl ?_
  refine pm_drop (ls2 := [.ref a0, pmU, .int a2, .int a1, pmU]) (Nat.le_refl _) (pm_le_spec (pm_le_v (pm_le_u (pm_le_v (pm_le_v (pm_le_u (pm_le_n))))))) ?_
  exact gX9_goes_L2 hfl rs a0 a2 hrs pm_N (a1, m)
set_option maxRecDepth 100000 in
set_option maxHeartbeats 4000000 in
theorem kcX9_goes_N0 (hfl : l.flags = flags0) : ∀ (n d : Nat) (b0 : Nat) (b1 : Int32) (b2 : Int32) (m : pmM), pm_C l Γ zX9_goes (d + 6 + 1 * n) [.ref b0, .int b1, .int b2] m (X9_goes_N n b0 b1 b2 m)
  | 0, d, b0, b1, b2, m => fun o m9 h => by cases h
  | n + 1, d, b0, b1, b2, m => by
    have h := kcX9_goes (d := d + 1 * n) hfl (X9_goes_N n) b0 b1 b2 m (fun j b0 b1 b2 m => by
      have h2 := kcX9_goes_N0 hfl n (d + j) b0 b1 b2 m
      rw [show d + 1 * n + j + 6 = d + j + 6 + 1 * n by omega]
      exact h2)
    rw [show d + 6 + 1 * (n + 1) = d + 1 * n + 7 by omega]
    exact h
theorem kcX9_goes_N (hfl : l.flags = flags0) (n : Nat) (b0 : Nat) (b1 : Int32) (b2 : Int32) (m : pmM) : pm_C l Γ zX9_goes (d + 6 + 1 * n) [.ref b0, .int b1, .int b2] m (X9_goes_N n b0 b1 b2 m) := kcX9_goes_N0 hfl n d b0 b1 b2 m
-- StruckPageModel.work(I)I
def X9_work_j101 (l0 : Nat) (m : pmM) : pmR := pm_gI 9 l0 5 m fun x11 => if x11 = 0 then (pm_pI 9 l0 3 (-1) m fun m12 => pm_gR 9 l0 29 m12 fun r13 => pm_gR 9 l0 31 m12 fun r14 => pm_gI 9 l0 34 m12 fun x15 => pm_ldR 103 r14 x15 m12 fun r16 => pm_cV (X9_copies r13 r16 m12) fun m17 => pm_gI 9 l0 34 m17 fun x18 => pm_pI 9 l0 34 (x18 + 1) m17 fun m19 => pm_pI 9 l0 38 0 m19 fun m20 => pm_pI 9 l0 39 0 m20 fun m21 => pm_pI 9 l0 35 0 m21 fun m22 => pm_gI 9 l0 28 m22 fun x23 => pm_rc 9 l0 m22 <| pm_cV (X9_goes_N 10 l0 0 x23 m22) fun m24 => pm_gI 9 l0 39 m24 fun x25 => pm_oI x25 m24) else (pm_rc 9 l0 m <| pm_cI (X9_faulty l0 m) fun x27 m26 => pm_oI x27 m26)
def X9_work_L72 (l0 : Nat) (again72 : (pmM) → pmR) (s72 : pmM) : pmR := pm_gI 9 l0 5 s72 fun x10 => if x10 = 0 then (pm_gI 9 l0 4 s72 fun x28 => pm_gI 9 l0 2 s72 fun x29 => if x29 ≤ x28 then (X9_work_j101 l0 s72) else (pm_rc 9 l0 s72 <| pm_cV (X9_readsStep_N 10 l0 s72) fun m30 => pm_rc 9 l0 m30 <| pm_cV (X9_blanks l0 m30) fun m31 => again72 m31)) else (X9_work_j101 l0 s72)
def X9_work_j30 (l0 : Nat) (l1 : Int32) (t0 : Int32) (t1 : Nat) (m : pmM) : pmR := pm_rc 9 t1 m <| pm_cI (X9_bad t1 t0 1 1 m) fun x6 m5 => if x6 = 0 then (pm_gI 9 l0 34 m5 fun x7 => if x7 = 16 then (pm_pI 9 l0 1 0 m5 fun m32 => pm_pI 9 l0 3 (-1) m32 fun m33 => pm_oI (-20) m33) else (pm_rc 9 l0 m5 <| pm_cV (X9_starts l0 l1 m5) fun m8 => pm_pI 9 l0 28 0 m8 fun m9 => pm_lp pm_N (X9_work_L72 l0) m9)) else (pm_oI 0 m5)
def X9_work_j25 (l0 : Nat) (l1 : Int32) (t0 : Nat) (m : pmM) : pmR := X9_work_j30 l0 l1 1 t0 m
def X9_work (a0 : Nat) (a1 : Int32) (m : pmM) : pmR := pm_pI 9 a0 0 0 m fun m1 => pm_gI 9 a0 1 m1 fun x2 => pm_cI (X9_in a1 0 x2 m1) fun x4 m3 => if x4 = 0 then (X9_work_j25 a0 a1 a0 m3) else (if a1 ≤ 150 then (X9_work_j30 a0 a1 0 a0 m3) else (X9_work_j25 a0 a1 a0 m3))
set_option maxRecDepth 100000 in
set_option maxHeartbeats 4000000 in
theorem gX9_work_j101 (hfl : l.flags = flags0) (l0 : Nat) (m : pmM) : pm_G l Γ zX9_work (d + 17) 101 [.ref l0, pmU] [] m (X9_work_j101 l0 m) := by
  unfold X9_work_j101
  refine pm_aload_n dX9_work_101 rfl rfl ?_
  refine fg_9_5 (y := zX9_work) (Or.inl tw_1371) dX9_work_102 (fun x11 => ?_)
  refine pm_if_eq (tgt := 113) dX9_work_105 rfl ?_ ?_
  · refine pm_aload_n dX9_work_113 rfl rfl ?_
    refine pm_iconst (v := (-1)) dX9_work_114 ki_n1 ?_
    refine fp_9_3 (y := zX9_work) (Or.inl tw_1369) dX9_work_115 (fun m12 => ?_)
    refine pm_aload_n dX9_work_118 rfl rfl ?_
    refine fg_9_29 (y := zX9_work) (Or.inl tw_1395) dX9_work_119 (fun r13 => ?_)
    refine pm_aload_n dX9_work_122 rfl rfl ?_
    refine fg_9_31 (y := zX9_work) (Or.inl tw_1397) dX9_work_123 (fun r14 => ?_)
    refine pm_aload_n dX9_work_126 rfl rfl ?_
    refine fg_9_34 (y := zX9_work) (Or.inl tw_1400) dX9_work_127 (fun x15 => ?_)
    refine pm_aaldI (y := zX9_work) dX9_work_130 (fun r16 => ?_)
    refine pm_kV (d := d + 16) rfl (pm_S (y := zX9_work) (z := zX9_copies) (As := [.ref r13, .ref r16]) zkX9_copies tw_1678 tw_1679 dX9_work_131 rfl rfl (Nat.le_of_ble_eq_true rfl)) (kcX9_copies (d := d + 16) hfl r13 r16 m12) (fun m17 => ?_)
    refine pm_aload_n dX9_work_134 rfl rfl ?_
    refine pm_dup dX9_work_135 rfl ?_
    refine fg_9_34 (y := zX9_work) (Or.inl tw_1400) dX9_work_136 (fun x18 => ?_)
    refine pm_iconst (v := 1) dX9_work_139 ki_1 ?_
    refine pm_iadd dX9_work_140 ?_
    refine fp_9_34 (y := zX9_work) (Or.inl tw_1400) dX9_work_141 (fun m19 => ?_)
    refine pm_aload_n dX9_work_144 rfl rfl ?_
    refine pm_iconst (v := 0) dX9_work_145 ki_0 ?_
    refine fp_9_38 (y := zX9_work) (Or.inl tw_1404) dX9_work_146 (fun m20 => ?_)
    refine pm_aload_n dX9_work_149 rfl rfl ?_
    refine pm_iconst (v := 0) dX9_work_150 ki_0 ?_
    refine fp_9_39 (y := zX9_work) (Or.inl tw_1405) dX9_work_151 (fun m21 => ?_)
    refine pm_aload_n dX9_work_154 rfl rfl ?_
    refine pm_iconst (v := 0) dX9_work_155 ki_0 ?_
    refine fp_9_35 (y := zX9_work) (Or.inl tw_1401) dX9_work_156 (fun m22 => ?_)
    refine pm_aload_n dX9_work_159 rfl rfl ?_
    refine pm_iconst (v := 0) dX9_work_160 ki_0 ?_
    refine pm_aload_n dX9_work_161 rfl rfl ?_
    refine fg_9_28 (y := zX9_work) (Or.inl tw_1394) dX9_work_162 (fun x23 => ?_)
    refine pm_rcv (fun hb9 hc9 => ?_)
    refine pm_kV (d := d + 16) rfl (pm_V (y := zX9_work) (z := zX9_goes) (As := [.int 0, .int x23]) zkX9_goes pm_q9 (by decide) tw_1681 tw_1683 tw_125 dX9_work_165 rfl rfl (Nat.le_of_ble_eq_true rfl) hb9 hc9) (pm_Cd (by omega) (kcX9_goes_N (d := d + 0) hfl 10 l0 0 x23 m22)) (fun m24 => ?_)
    refine pm_aload_n dX9_work_168 rfl rfl ?_
    refine fg_9_39 (y := zX9_work) (Or.inl tw_1405) dX9_work_169 (fun x25 => ?_)
    exact pm_iret rfl dX9_work_172
  · refine pm_aload_n dX9_work_108 rfl rfl ?_
    refine pm_rcv (fun hb9 hc9 => ?_)
    refine pm_kI (d := d + 16) rfl (pm_V (y := zX9_work) (z := zX9_faulty) (As := []) zkX9_faulty pm_q9 (by decide) tw_1614 tw_1616 tw_113 dX9_work_109 rfl rfl (Nat.le_of_ble_eq_true rfl) hb9 hc9) (kcX9_faulty (d := d + 16) hfl l0 m) (fun x27 m26 => ?_)
    exact pm_iret rfl dX9_work_112
set_option maxRecDepth 100000 in
set_option maxHeartbeats 4000000 in
theorem gX9_work_L72 (hfl : l.flags = flags0) (l0 : Nat) : ∀ (n : Nat) (s : pmM), pm_G l Γ zX9_work (d + 17) 72 [.ref l0, pmU] [] s (pm_lp n (X9_work_L72 l0) s) :=
  pm_loop (lsf := fun s : pmM => [.ref l0, pmU]) (mf := fun s : pmM => s) (fun again72 hag72 s72 => by
    unfold X9_work_L72
    refine pm_aload_n dX9_work_72 rfl rfl ?_
    refine fg_9_5 (y := zX9_work) (Or.inl tw_1371) dX9_work_73 (fun x10 => ?_)
    refine pm_if_ne (tgt := 101) dX9_work_76 rfl ?_ ?_
    · exact gX9_work_j101 hfl l0 s72
    · refine pm_aload_n dX9_work_79 rfl rfl ?_
      refine fg_9_4 (y := zX9_work) (Or.inl tw_1370) dX9_work_80 (fun x28 => ?_)
      refine pm_aload_n dX9_work_83 rfl rfl ?_
      refine fg_9_2 (y := zX9_work) (Or.inl tw_1368) dX9_work_84 (fun x29 => ?_)
      refine pm_icmp_ge (tgt := 101) dX9_work_87 rfl ?_ ?_
      · exact gX9_work_j101 hfl l0 s72
      · refine pm_aload_n dX9_work_90 rfl rfl ?_
        refine pm_rcv (fun hb9 hc9 => ?_)
        refine pm_kV (d := d + 16) rfl (pm_V (y := zX9_work) (z := zX9_readsStep) (As := []) zkX9_readsStep pm_q9 (by decide) tw_1670 tw_1672 tw_123 dX9_work_91 rfl rfl (Nat.le_of_ble_eq_true rfl) hb9 hc9) (pm_Cd (by omega) (kcX9_readsStep_N (d := d + 2) hfl 10 l0 s72)) (fun m30 => ?_)
        refine pm_aload_n dX9_work_94 rfl rfl ?_
        refine pm_rcv (fun hb9 hc9 => ?_)
        refine pm_kV (d := d + 16) rfl (pm_V (y := zX9_work) (z := zX9_blanks) (As := []) zkX9_blanks pm_q9 (by decide) tw_1556 tw_1558 tw_101 dX9_work_95 rfl rfl (Nat.le_of_ble_eq_true rfl) hb9 hc9) (kcX9_blanks (d := d + 15) hfl l0 m30) (fun m31 => ?_)
        refine pm_goto (tgt := 72) dX9_work_98 rfl ?_
        exact hag72 m31)
set_option maxRecDepth 100000 in
set_option maxHeartbeats 4000000 in
theorem gX9_work_j30 (hfl : l.flags = flags0) (l0 : Nat) (l1 : Int32) (t0 : Int32) (t1 : Nat) (m : pmM) : pm_G l Γ zX9_work (d + 17) 30 [.ref l0, .int l1] [.int t0, .ref t1] m (X9_work_j30 l0 l1 t0 t1 m) := by
  unfold X9_work_j30
  refine pm_iconst (v := 1) dX9_work_30 ki_1 ?_
  refine pm_iconst (v := 1) dX9_work_31 ki_1 ?_
  refine pm_rcv (fun hb9 hc9 => ?_)
  refine pm_kI (d := d + 16) rfl (pm_V (y := zX9_work) (z := zX9_bad) (As := [.int t0, .int 1, .int 1]) zkX9_bad pm_q9 (by decide) tw_1548 tw_1550 tw_99 dX9_work_32 rfl rfl (Nat.le_of_ble_eq_true rfl) hb9 hc9) (kcX9_bad (d := d + 16) hfl t1 t0 1 1 m) (fun x6 m5 => ?_)
  refine pm_if_eq (tgt := 40) dX9_work_35 rfl ?_ ?_
  · refine pm_aload_n dX9_work_40 rfl rfl ?_
    refine fg_9_34 (y := zX9_work) (Or.inl tw_1400) dX9_work_41 (fun x7 => ?_)
    refine pm_bipush (v := 16) dX9_work_44 kb_16 ?_
    refine pm_icmp_ne (tgt := 62) dX9_work_46 rfl ?_ ?_
    · refine pm_aload_n dX9_work_62 rfl rfl ?_
      refine pm_iload_n dX9_work_63 rfl rfl ?_
      refine pm_rcv (fun hb9 hc9 => ?_)
      refine pm_kV (d := d + 16) rfl (pm_V (y := zX9_work) (z := zX9_starts) (As := [.int l1]) zkX9_starts pm_q9 (by decide) tw_1552 tw_1554 tw_100 dX9_work_64 rfl rfl (Nat.le_of_ble_eq_true rfl) hb9 hc9) (kcX9_starts (d := d + 14) hfl l0 l1 m5) (fun m8 => ?_)
      refine pm_aload_n dX9_work_67 rfl rfl ?_
      refine pm_iconst (v := 0) dX9_work_68 ki_0 ?_
      refine fp_9_28 (y := zX9_work) (Or.inl tw_1394) dX9_work_69 (fun m9 => ?_)
      refine pm_drop (ls2 := [.ref l0, pmU]) (Nat.le_refl _) (pm_le_spec (pm_le_v (pm_le_u (pm_le_n)))) ?_
      exact gX9_work_L72 hfl l0 pm_N m9
    · refine pm_aload_n dX9_work_49 rfl rfl ?_
      refine pm_iconst (v := 0) dX9_work_50 ki_0 ?_
      refine fp_9_1 (y := zX9_work) (Or.inl tw_1367) dX9_work_51 (fun m32 => ?_)
      refine pm_aload_n dX9_work_54 rfl rfl ?_
      refine pm_iconst (v := (-1)) dX9_work_55 ki_n1 ?_
      refine fp_9_3 (y := zX9_work) (Or.inl tw_1369) dX9_work_56 (fun m33 => ?_)
      refine pm_bipush (v := (-20)) dX9_work_59 kb_n20 ?_
      exact pm_iret rfl dX9_work_61
  · refine pm_iconst (v := 0) dX9_work_38 ki_0 ?_
    exact pm_iret rfl dX9_work_39
set_option maxRecDepth 100000 in
set_option maxHeartbeats 4000000 in
theorem gX9_work_j25 (hfl : l.flags = flags0) (l0 : Nat) (l1 : Int32) (t0 : Nat) (m : pmM) : pm_G l Γ zX9_work (d + 17) 25 [.ref l0, .int l1] [.ref t0] m (X9_work_j25 l0 l1 t0 m) := by
  unfold X9_work_j25
  refine pm_iconst (v := 1) dX9_work_25 ki_1 ?_
  refine pm_goto (tgt := 30) dX9_work_26 rfl ?_
  exact gX9_work_j30 hfl l0 l1 1 t0 m
set_option maxRecDepth 100000 in
set_option maxHeartbeats 4000000 in
theorem kcX9_work (hfl : l.flags = flags0) (a0 : Nat) (a1 : Int32) (m : pmM) : pm_C l Γ zX9_work (d + 17) [.ref a0, .int a1] m (X9_work a0 a1 m) := by
  refine pm_enter (ls := [.ref a0, .int a1]) hfl (by decide +kernel) rfl (Nat.le_of_ble_eq_true rfl) rfl (Nat.le_of_ble_eq_true rfl) ?_
  unfold X9_work
  refine pm_aload_n dX9_work_0 rfl rfl ?_
  refine pm_iconst (v := 0) dX9_work_1 ki_0 ?_
  refine fp_9_0 (y := zX9_work) (Or.inl tw_1366) dX9_work_2 (fun m1 => ?_)
  refine pm_aload_n dX9_work_5 rfl rfl ?_
  refine pm_iload_n dX9_work_6 rfl rfl ?_
  refine pm_iconst (v := 0) dX9_work_7 ki_0 ?_
  refine pm_aload_n dX9_work_8 rfl rfl ?_
  refine fg_9_1 (y := zX9_work) (Or.inl tw_1367) dX9_work_9 (fun x2 => ?_)
  refine pm_kI (d := d + 16) rfl (pm_S (y := zX9_work) (z := zX9_in) (As := [.int a1, .int 0, .int x2]) zkX9_in tw_1545 tw_1546 dX9_work_12 rfl rfl (Nat.le_of_ble_eq_true rfl)) (kcX9_in (d := d + 16) hfl a1 0 x2 m1) (fun x4 m3 => ?_)
  refine pm_if_eq (tgt := 25) dX9_work_15 rfl ?_ ?_
  · exact gX9_work_j25 hfl a0 a1 a0 m3
  · refine pm_iload_n dX9_work_18 rfl rfl ?_
    refine pm_sipush (v := 150) dX9_work_19 ks_150 ?_
    refine pm_icmp_le (tgt := 29) dX9_work_22 rfl ?_ ?_
    · refine pm_iconst (v := 0) dX9_work_29 ki_0 ?_
      exact gX9_work_j30 hfl a0 a1 0 a0 m3
    · exact gX9_work_j25 hfl a0 a1 a0 m3
-- StruckPageModel.undo()I
def X9_undo (a0 : Nat) (m : pmM) : pmR := pm_pI 9 a0 0 0 m fun m1 => pm_gI 9 a0 34 m1 fun x2 => if x2 = 0 then (pm_oI (-1) m1) else (pm_gI 9 a0 34 m1 fun x3 => pm_pI 9 a0 34 (x3 - 1) m1 fun m4 => pm_gR 9 a0 31 m4 fun r5 => pm_gI 9 a0 34 m4 fun x6 => pm_ldR 103 r5 x6 m4 fun r7 => pm_gR 9 a0 29 m4 fun r8 => pm_cV (X9_copies r7 r8 m4) fun m9 => pm_pI 9 a0 35 0 m9 fun m10 => pm_gI 9 a0 34 m10 fun x11 => pm_oI x11 m10)
set_option maxRecDepth 100000 in
set_option maxHeartbeats 4000000 in
theorem kcX9_undo (hfl : l.flags = flags0) (a0 : Nat) (m : pmM) : pm_C l Γ zX9_undo (d + 1) [.ref a0] m (X9_undo a0 m) := by
  refine pm_enter (ls := [.ref a0]) hfl (by decide +kernel) rfl (Nat.le_of_ble_eq_true rfl) rfl (Nat.le_of_ble_eq_true rfl) ?_
  unfold X9_undo
  refine pm_aload_n dX9_undo_0 rfl rfl ?_
  refine pm_iconst (v := 0) dX9_undo_1 ki_0 ?_
  refine fp_9_0 (y := zX9_undo) (Or.inl tw_1366) dX9_undo_2 (fun m1 => ?_)
  refine pm_aload_n dX9_undo_5 rfl rfl ?_
  refine fg_9_34 (y := zX9_undo) (Or.inl tw_1400) dX9_undo_6 (fun x2 => ?_)
  refine pm_if_ne (tgt := 14) dX9_undo_9 rfl ?_ ?_
  · refine pm_aload_n dX9_undo_14 rfl rfl ?_
    refine pm_dup dX9_undo_15 rfl ?_
    refine fg_9_34 (y := zX9_undo) (Or.inl tw_1400) dX9_undo_16 (fun x3 => ?_)
    refine pm_iconst (v := 1) dX9_undo_19 ki_1 ?_
    refine pm_isub dX9_undo_20 ?_
    refine fp_9_34 (y := zX9_undo) (Or.inl tw_1400) dX9_undo_21 (fun m4 => ?_)
    refine pm_aload_n dX9_undo_24 rfl rfl ?_
    refine fg_9_31 (y := zX9_undo) (Or.inl tw_1397) dX9_undo_25 (fun r5 => ?_)
    refine pm_aload_n dX9_undo_28 rfl rfl ?_
    refine fg_9_34 (y := zX9_undo) (Or.inl tw_1400) dX9_undo_29 (fun x6 => ?_)
    refine pm_aaldI (y := zX9_undo) dX9_undo_32 (fun r7 => ?_)
    refine pm_aload_n dX9_undo_33 rfl rfl ?_
    refine fg_9_29 (y := zX9_undo) (Or.inl tw_1395) dX9_undo_34 (fun r8 => ?_)
    refine pm_kV (d := d + 0) rfl (pm_S (y := zX9_undo) (z := zX9_copies) (As := [.ref r7, .ref r8]) zkX9_copies tw_1678 tw_1679 dX9_undo_37 rfl rfl (Nat.le_of_ble_eq_true rfl)) (kcX9_copies (d := d + 0) hfl r7 r8 m4) (fun m9 => ?_)
    refine pm_aload_n dX9_undo_40 rfl rfl ?_
    refine pm_iconst (v := 0) dX9_undo_41 ki_0 ?_
    refine fp_9_35 (y := zX9_undo) (Or.inl tw_1401) dX9_undo_42 (fun m10 => ?_)
    refine pm_aload_n dX9_undo_45 rfl rfl ?_
    refine fg_9_34 (y := zX9_undo) (Or.inl tw_1400) dX9_undo_46 (fun x11 => ?_)
    exact pm_iret rfl dX9_undo_49
  · refine pm_iconst (v := (-1)) dX9_undo_12 ki_n1 ?_
    exact pm_iret rfl dX9_undo_13
-- StruckPageModel.cellsOf([I)I
def X9_cellsOf_L4 (l0 : Nat) (again4 : (Int32 × Int32 × pmM) → pmR) (s4 : Int32 × Int32 × pmM) : pmR := if (4 : Int32) ≤ s4.2.1 then (pm_oI s4.1 s4.2.2) else (pm_ld 100 l0 ((6 : Int32) + s4.2.1) s4.2.2 fun x1 => pm_bI (s4.1 + x1) fun x2 => pm_bI (s4.2.1 + 1) fun x3 => again4 (x2, x3, s4.2.2))
def X9_cellsOf (a0 : Nat) (m : pmM) : pmR := pm_lp pm_N (X9_cellsOf_L4 a0) (0, 0, m)
set_option maxRecDepth 100000 in
set_option maxHeartbeats 4000000 in
theorem gX9_cellsOf_L4 (hfl : l.flags = flags0) (l0 : Nat) : ∀ (n : Nat) (s : Int32 × Int32 × pmM), pm_G l Γ zX9_cellsOf (d + 0) 4 [.ref l0, .int s.1, .int s.2.1] [] s.2.2 (pm_lp n (X9_cellsOf_L4 l0) s) :=
  pm_loop (lsf := fun s : Int32 × Int32 × pmM => [.ref l0, .int s.1, .int s.2.1]) (mf := fun s : Int32 × Int32 × pmM => s.2.2) (fun again4 hag4 s4 => by
    unfold X9_cellsOf_L4
    refine pm_iload_n dX9_cellsOf_4 rfl rfl ?_
    refine pm_iconst (v := 4) dX9_cellsOf_5 ki_4 ?_
    refine pm_icmp_ge (tgt := 24) dX9_cellsOf_6 rfl ?_ ?_
    · refine pm_iload_n dX9_cellsOf_24 rfl rfl ?_
      exact pm_iret rfl dX9_cellsOf_25
    · refine pm_iload_n dX9_cellsOf_9 rfl rfl ?_
      refine pm_aload_n dX9_cellsOf_10 rfl rfl ?_
      refine pm_bipush (v := 6) dX9_cellsOf_11 kb_6 ?_
      refine pm_iload_n dX9_cellsOf_13 rfl rfl ?_
      refine pm_iadd dX9_cellsOf_14 ?_
      refine pm_iald (y := zX9_cellsOf) dX9_cellsOf_15 (fun x1 => ?_)
      refine pm_iadd dX9_cellsOf_16 ?_
      refine pm_bIn (fun x2 => ?_)
      refine pm_istore_n (ls2 := [.ref l0, .int x2, .int s4.2.1]) dX9_cellsOf_17 rfl rfl (Nat.le_of_ble_eq_true rfl) rfl ?_
      refine pm_iincn (y := zX9_cellsOf) dX9_cellsOf_18 rfl ki_1 rfl (Nat.le_of_ble_eq_true rfl) (fun x3 => ?_)
      refine pm_eqls (ls2 := [.ref l0, .int x2, .int x3]) rfl ?_
      refine pm_goto (tgt := 4) dX9_cellsOf_21 rfl ?_
      exact hag4 (x2, x3, s4.2.2))
set_option maxRecDepth 100000 in
set_option maxHeartbeats 4000000 in
theorem kcX9_cellsOf (hfl : l.flags = flags0) (a0 : Nat) (m : pmM) : pm_C l Γ zX9_cellsOf (d + 0) [.ref a0] m (X9_cellsOf a0 m) := by
  refine pm_enter (ls := [.ref a0, pmU, pmU]) hfl (by decide +kernel) rfl (Nat.le_of_ble_eq_true rfl) rfl (Nat.le_of_ble_eq_true rfl) ?_
  unfold X9_cellsOf
  refine pm_iconst (v := 0) dX9_cellsOf_0 ki_0 ?_
  refine pm_istore_n (ls2 := [.ref a0, .int 0, pmU]) dX9_cellsOf_1 rfl rfl (Nat.le_of_ble_eq_true rfl) rfl ?_
  refine pm_iconst (v := 0) dX9_cellsOf_2 ki_0 ?_
  refine pm_istore_n (ls2 := [.ref a0, .int 0, .int 0]) dX9_cellsOf_3 rfl rfl (Nat.le_of_ble_eq_true rfl) rfl ?_
  exact gX9_cellsOf_L4 hfl a0 pm_N (0, 0, m)
-- StruckPageModel.told(I)I
def X9_told_j63 (again35 : (Int32 × Int32 × pmM) → pmR) (l0 : Nat) (l1 : Int32) (l3 : Int32) (t0 : Int32) (t1 : Int32) (m : pmM) : pmR := pm_bI (t1 ||| t0) fun x29 => pm_bI (l3 + 1) fun x30 => again35 (x29, x30, m)
def X9_told_L35 (l0 : Nat) (l1 : Int32) (again35 : (Int32 × Int32 × pmM) → pmR) (s35 : Int32 × Int32 × pmM) : pmR := pm_gI 9 l0 13 s35.2.2 fun x6 => if x6 ≤ s35.2.1 then (if l1 = (0 : Int32) then (pm_gI 9 l0 13 s35.2.2 fun x7 => pm_oI x7 s35.2.2) else if l1 = (1 : Int32) then (pm_rc 9 l0 s35.2.2 <| pm_cI (X9_wordsOfAll l0 s35.2.2) fun x9 m8 => pm_oI x9 m8) else if l1 = (2 : Int32) then (pm_gR 9 l0 29 s35.2.2 fun r10 => pm_rc 9 l0 s35.2.2 <| pm_cI (X9_leftAll l0 r10 s35.2.2) fun x12 m11 => pm_oI x12 m11) else if l1 = (3 : Int32) then (pm_gR 9 l0 29 s35.2.2 fun r13 => pm_ld 100 r13 10 s35.2.2 fun x14 => pm_oI x14 s35.2.2) else if l1 = (4 : Int32) then (pm_gR 9 l0 29 s35.2.2 fun r15 => pm_ld 100 r15 12 s35.2.2 fun x16 => pm_oI x16 s35.2.2) else if l1 = (5 : Int32) then (pm_gR 9 l0 29 s35.2.2 fun r17 => pm_ld 100 r17 11 s35.2.2 fun x18 => pm_oI x18 s35.2.2) else if l1 = (6 : Int32) then (pm_gR 9 l0 29 s35.2.2 fun r19 => pm_ld 100 r19 13 s35.2.2 fun x20 => pm_oI x20 s35.2.2) else if l1 = (7 : Int32) then (pm_gR 9 l0 29 s35.2.2 fun r21 => pm_cI (X9_cellsOf r21 s35.2.2) fun x23 m22 => pm_oI x23 m22) else if l1 = (8 : Int32) then (pm_gI 9 l0 33 s35.2.2 fun x24 => pm_oI x24 s35.2.2) else if l1 = (9 : Int32) then (pm_gI 9 l0 35 s35.2.2 fun x25 => pm_oI x25 s35.2.2) else (pm_oI s35.1 s35.2.2)) else (pm_gR 9 l0 29 s35.2.2 fun r26 => pm_rc 9 l0 s35.2.2 <| pm_cI (X9_leftIn l0 r26 s35.2.1 s35.2.2) fun x28 m27 => if x28 = 0 then (X9_told_j63 again35 l0 l1 s35.2.1 ((1 : Int32) <<< (s35.2.1 &&& 31)) s35.1 m27) else (X9_told_j63 again35 l0 l1 s35.2.1 0 s35.1 m27))
def X9_told_j21 (l0 : Nat) (l1 : Int32) (t0 : Int32) (t1 : Nat) (m : pmM) : pmR := pm_rc 9 t1 m <| pm_cI (X9_bad t1 t0 1 1 m) fun x5 m4 => if x5 = 0 then (pm_lp pm_N (X9_told_L35 l0 l1) (0, 0, m4)) else (pm_oI 0 m4)
def X9_told (a0 : Nat) (a1 : Int32) (m : pmM) : pmR := pm_pI 9 a0 0 0 m fun m1 => pm_cI (X9_in a1 0 10 m1) fun x3 m2 => if x3 = 0 then (X9_told_j21 a0 a1 1 a0 m2) else (X9_told_j21 a0 a1 0 a0 m2)
set_option maxRecDepth 100000 in
set_option maxHeartbeats 4000000 in
theorem gX9_told_j63 (hfl : l.flags = flags0) (again35 : (Int32 × Int32 × pmM) → pmR) (l0 : Nat) (l1 : Int32) (l3 : Int32) (t0 : Int32) (t1 : Int32) (m : pmM) (hag35 : ∀ s : Int32 × Int32 × pmM, pm_G l Γ zX9_told (d + 3) 35 [.ref l0, .int l1, .int s.1, .int s.2.1] [] s.2.2 (again35 s)) : pm_G l Γ zX9_told (d + 3) 63 [.ref l0, .int l1, pmU, .int l3] [.int t0, .int t1] m (X9_told_j63 again35 l0 l1 l3 t0 t1 m) := by
  unfold X9_told_j63
  refine pm_ior dX9_told_63 ?_
  refine pm_bIn (fun x29 => ?_)
  refine pm_istore_n (ls2 := [.ref l0, .int l1, .int x29, .int l3]) dX9_told_64 rfl rfl (Nat.le_of_ble_eq_true rfl) rfl ?_
  refine pm_iincn (y := zX9_told) dX9_told_65 rfl ki_1 rfl (Nat.le_of_ble_eq_true rfl) (fun x30 => ?_)
  refine pm_eqls (ls2 := [.ref l0, .int l1, .int x29, .int x30]) rfl ?_
  refine pm_goto (tgt := 35) dX9_told_68 rfl ?_
  exact hag35 (x29, x30, m)
set_option maxRecDepth 100000 in
set_option maxHeartbeats 4000000 in
theorem gX9_told_L35 (hfl : l.flags = flags0) (l0 : Nat) (l1 : Int32) : ∀ (n : Nat) (s : Int32 × Int32 × pmM), pm_G l Γ zX9_told (d + 3) 35 [.ref l0, .int l1, .int s.1, .int s.2.1] [] s.2.2 (pm_lp n (X9_told_L35 l0 l1) s) :=
  pm_loop (lsf := fun s : Int32 × Int32 × pmM => [.ref l0, .int l1, .int s.1, .int s.2.1]) (mf := fun s : Int32 × Int32 × pmM => s.2.2) (fun again35 hag35 s35 => by
    unfold X9_told_L35
    refine pm_iload_n dX9_told_35 rfl rfl ?_
    refine pm_aload_n dX9_told_36 rfl rfl ?_
    refine fg_9_13 (y := zX9_told) (Or.inl tw_1379) dX9_told_37 (fun x6 => ?_)
    refine pm_icmp_ge (tgt := 71) dX9_told_40 rfl ?_ ?_
    · refine pm_iload_n dX9_told_71 rfl rfl ?_
      refine pm_case (c := (0 : Int32)) (fun h9 => ?_) (fun h9_0 => ?_)
      · refine pm_swIn (off := (56)) (tgt := 128) dX9_told_72 (by rw [h9]; decide) (by rw [h9]; decide) (by rw [h9]; decide) (by decide) ?_
        refine pm_aload_n dX9_told_128 rfl rfl ?_
        refine fg_9_13 (y := zX9_told) (Or.inl tw_1379) dX9_told_129 (fun x7 => ?_)
        exact pm_iret rfl dX9_told_132
      refine pm_case (c := (1 : Int32)) (fun h9 => ?_) (fun h9_1 => ?_)
      · refine pm_swIn (off := (61)) (tgt := 133) dX9_told_72 (by rw [h9]; decide) (by rw [h9]; decide) (by rw [h9]; decide) (by decide) ?_
        refine pm_aload_n dX9_told_133 rfl rfl ?_
        refine pm_rcv (fun hb9 hc9 => ?_)
        refine pm_kI (d := d + 2) rfl (pm_V (y := zX9_told) (z := zX9_wordsOfAll) (As := []) zkX9_wordsOfAll pm_q9 (by decide) tw_1618 tw_1620 tw_114 dX9_told_134 rfl rfl (Nat.le_of_ble_eq_true rfl) hb9 hc9) (kcX9_wordsOfAll (d := d + 2) hfl l0 s35.2.2) (fun x9 m8 => ?_)
        exact pm_iret rfl dX9_told_137
      refine pm_case (c := (2 : Int32)) (fun h9 => ?_) (fun h9_2 => ?_)
      · refine pm_swIn (off := (66)) (tgt := 138) dX9_told_72 (by rw [h9]; decide) (by rw [h9]; decide) (by rw [h9]; decide) (by decide) ?_
        refine pm_aload_n dX9_told_138 rfl rfl ?_
        refine pm_aload_n dX9_told_139 rfl rfl ?_
        refine fg_9_29 (y := zX9_told) (Or.inl tw_1395) dX9_told_140 (fun r10 => ?_)
        refine pm_rcv (fun hb9 hc9 => ?_)
        refine pm_kI (d := d + 2) rfl (pm_V (y := zX9_told) (z := zX9_leftAll) (As := [.ref r10]) zkX9_leftAll pm_q9 (by decide) tw_1703 tw_1705 tw_129 dX9_told_143 rfl rfl (Nat.le_of_ble_eq_true rfl) hb9 hc9) (kcX9_leftAll (d := d + 0) hfl l0 r10 s35.2.2) (fun x12 m11 => ?_)
        exact pm_iret rfl dX9_told_146
      refine pm_case (c := (3 : Int32)) (fun h9 => ?_) (fun h9_3 => ?_)
      · refine pm_swIn (off := (75)) (tgt := 147) dX9_told_72 (by rw [h9]; decide) (by rw [h9]; decide) (by rw [h9]; decide) (by decide) ?_
        refine pm_aload_n dX9_told_147 rfl rfl ?_
        refine fg_9_29 (y := zX9_told) (Or.inl tw_1395) dX9_told_148 (fun r13 => ?_)
        refine pm_bipush (v := 10) dX9_told_151 kb_10 ?_
        refine pm_iald (y := zX9_told) dX9_told_153 (fun x14 => ?_)
        exact pm_iret rfl dX9_told_154
      refine pm_case (c := (4 : Int32)) (fun h9 => ?_) (fun h9_4 => ?_)
      · refine pm_swIn (off := (83)) (tgt := 155) dX9_told_72 (by rw [h9]; decide) (by rw [h9]; decide) (by rw [h9]; decide) (by decide) ?_
        refine pm_aload_n dX9_told_155 rfl rfl ?_
        refine fg_9_29 (y := zX9_told) (Or.inl tw_1395) dX9_told_156 (fun r15 => ?_)
        refine pm_bipush (v := 12) dX9_told_159 kb_12 ?_
        refine pm_iald (y := zX9_told) dX9_told_161 (fun x16 => ?_)
        exact pm_iret rfl dX9_told_162
      refine pm_case (c := (5 : Int32)) (fun h9 => ?_) (fun h9_5 => ?_)
      · refine pm_swIn (off := (91)) (tgt := 163) dX9_told_72 (by rw [h9]; decide) (by rw [h9]; decide) (by rw [h9]; decide) (by decide) ?_
        refine pm_aload_n dX9_told_163 rfl rfl ?_
        refine fg_9_29 (y := zX9_told) (Or.inl tw_1395) dX9_told_164 (fun r17 => ?_)
        refine pm_bipush (v := 11) dX9_told_167 kb_11 ?_
        refine pm_iald (y := zX9_told) dX9_told_169 (fun x18 => ?_)
        exact pm_iret rfl dX9_told_170
      refine pm_case (c := (6 : Int32)) (fun h9 => ?_) (fun h9_6 => ?_)
      · refine pm_swIn (off := (99)) (tgt := 171) dX9_told_72 (by rw [h9]; decide) (by rw [h9]; decide) (by rw [h9]; decide) (by decide) ?_
        refine pm_aload_n dX9_told_171 rfl rfl ?_
        refine fg_9_29 (y := zX9_told) (Or.inl tw_1395) dX9_told_172 (fun r19 => ?_)
        refine pm_bipush (v := 13) dX9_told_175 kb_13 ?_
        refine pm_iald (y := zX9_told) dX9_told_177 (fun x20 => ?_)
        exact pm_iret rfl dX9_told_178
      refine pm_case (c := (7 : Int32)) (fun h9 => ?_) (fun h9_7 => ?_)
      · refine pm_swIn (off := (107)) (tgt := 179) dX9_told_72 (by rw [h9]; decide) (by rw [h9]; decide) (by rw [h9]; decide) (by decide) ?_
        refine pm_aload_n dX9_told_179 rfl rfl ?_
        refine fg_9_29 (y := zX9_told) (Or.inl tw_1395) dX9_told_180 (fun r21 => ?_)
        refine pm_kI (d := d + 2) rfl (pm_S (y := zX9_told) (z := zX9_cellsOf) (As := [.ref r21]) zkX9_cellsOf tw_1774 tw_1775 dX9_told_183 rfl rfl (Nat.le_of_ble_eq_true rfl)) (kcX9_cellsOf (d := d + 2) hfl r21 s35.2.2) (fun x23 m22 => ?_)
        exact pm_iret rfl dX9_told_186
      refine pm_case (c := (8 : Int32)) (fun h9 => ?_) (fun h9_8 => ?_)
      · refine pm_swIn (off := (115)) (tgt := 187) dX9_told_72 (by rw [h9]; decide) (by rw [h9]; decide) (by rw [h9]; decide) (by decide) ?_
        refine pm_aload_n dX9_told_187 rfl rfl ?_
        refine fg_9_33 (y := zX9_told) (Or.inl tw_1399) dX9_told_188 (fun x24 => ?_)
        exact pm_iret rfl dX9_told_191
      refine pm_case (c := (9 : Int32)) (fun h9 => ?_) (fun h9_9 => ?_)
      · refine pm_swIn (off := (120)) (tgt := 192) dX9_told_72 (by rw [h9]; decide) (by rw [h9]; decide) (by rw [h9]; decide) (by decide) ?_
        refine pm_aload_n dX9_told_192 rfl rfl ?_
        refine fg_9_35 (y := zX9_told) (Or.inl tw_1401) dX9_told_193 (fun x25 => ?_)
        exact pm_iret rfl dX9_told_196
      refine pm_swOut (tgt := 197) dX9_told_72 (pm_swx l1 (0) 10 (lt_s (lt_s (lt_s (lt_s (lt_s (lt_s (lt_s (lt_s (lt_s (lt_s (lt_0) (pm_ne h9_0 (by decide))) (pm_ne h9_1 (by decide))) (pm_ne h9_2 (by decide))) (pm_ne h9_3 (by decide))) (pm_ne h9_4 (by decide))) (pm_ne h9_5 (by decide))) (pm_ne h9_6 (by decide))) (pm_ne h9_7 (by decide))) (pm_ne h9_8 (by decide))) (pm_ne h9_9 (by decide)))) (by decide) ?_
      refine pm_iload_n dX9_told_197 rfl rfl ?_
      exact pm_iret rfl dX9_told_198
    · refine pm_iload_n dX9_told_43 rfl rfl ?_
      refine pm_aload_n dX9_told_44 rfl rfl ?_
      refine pm_aload_n dX9_told_45 rfl rfl ?_
      refine fg_9_29 (y := zX9_told) (Or.inl tw_1395) dX9_told_46 (fun r26 => ?_)
      refine pm_iload_n dX9_told_49 rfl rfl ?_
      refine pm_rcv (fun hb9 hc9 => ?_)
      refine pm_kI (d := d + 2) rfl (pm_V (y := zX9_told) (z := zX9_leftIn) (As := [.ref r26, .int s35.2.1]) zkX9_leftIn pm_q9 (by decide) tw_1707 tw_1709 tw_130 dX9_told_50 rfl rfl (Nat.le_of_ble_eq_true rfl) hb9 hc9) (kcX9_leftIn (d := d + 1) hfl l0 r26 s35.2.1 s35.2.2) (fun x28 m27 => ?_)
      refine pm_if_ne (tgt := 62) dX9_told_53 rfl ?_ ?_
      · refine pm_iconst (v := 0) dX9_told_62 ki_0 ?_
        refine pm_drop (ls2 := [.ref l0, .int l1, pmU, .int s35.2.1]) (Nat.le_refl _) (pm_le_spec (pm_le_v (pm_le_v (pm_le_u (pm_le_v (pm_le_n)))))) ?_
        exact gX9_told_j63 hfl again35 l0 l1 s35.2.1 0 s35.1 m27 hag35
      · refine pm_iconst (v := 1) dX9_told_56 ki_1 ?_
        refine pm_iload_n dX9_told_57 rfl rfl ?_
        refine pm_ishl dX9_told_58 ?_
        refine pm_goto (tgt := 63) dX9_told_59 rfl ?_
        refine pm_drop (ls2 := [.ref l0, .int l1, pmU, .int s35.2.1]) (Nat.le_refl _) (pm_le_spec (pm_le_v (pm_le_v (pm_le_u (pm_le_v (pm_le_n)))))) ?_
        exact gX9_told_j63 hfl again35 l0 l1 s35.2.1 ((1 : Int32) <<< (s35.2.1 &&& 31)) s35.1 m27 hag35)
set_option maxRecDepth 100000 in
set_option maxHeartbeats 4000000 in
theorem gX9_told_j21 (hfl : l.flags = flags0) (l0 : Nat) (l1 : Int32) (t0 : Int32) (t1 : Nat) (m : pmM) : pm_G l Γ zX9_told (d + 3) 21 [.ref l0, .int l1, pmU, pmU] [.int t0, .ref t1] m (X9_told_j21 l0 l1 t0 t1 m) := by
  unfold X9_told_j21
  refine pm_iconst (v := 1) dX9_told_21 ki_1 ?_
  refine pm_iconst (v := 1) dX9_told_22 ki_1 ?_
  refine pm_rcv (fun hb9 hc9 => ?_)
  refine pm_kI (d := d + 2) rfl (pm_V (y := zX9_told) (z := zX9_bad) (As := [.int t0, .int 1, .int 1]) zkX9_bad pm_q9 (by decide) tw_1548 tw_1550 tw_99 dX9_told_23 rfl rfl (Nat.le_of_ble_eq_true rfl) hb9 hc9) (kcX9_bad (d := d + 2) hfl t1 t0 1 1 m) (fun x5 m4 => ?_)
  refine pm_if_eq (tgt := 31) dX9_told_26 rfl ?_ ?_
  · refine pm_iconst (v := 0) dX9_told_31 ki_0 ?_
    refine pm_istore_n (ls2 := [.ref l0, .int l1, .int 0, pmU]) dX9_told_32 rfl rfl (Nat.le_of_ble_eq_true rfl) rfl ?_
    refine pm_iconst (v := 0) dX9_told_33 ki_0 ?_
    refine pm_istore_n (ls2 := [.ref l0, .int l1, .int 0, .int 0]) dX9_told_34 rfl rfl (Nat.le_of_ble_eq_true rfl) rfl ?_
    exact gX9_told_L35 hfl l0 l1 pm_N (0, 0, m4)
  · refine pm_iconst (v := 0) dX9_told_29 ki_0 ?_
    exact pm_iret rfl dX9_told_30
set_option maxRecDepth 100000 in
set_option maxHeartbeats 4000000 in
theorem kcX9_told (hfl : l.flags = flags0) (a0 : Nat) (a1 : Int32) (m : pmM) : pm_C l Γ zX9_told (d + 3) [.ref a0, .int a1] m (X9_told a0 a1 m) := by
  refine pm_enter (ls := [.ref a0, .int a1, pmU, pmU]) hfl (by decide +kernel) rfl (Nat.le_of_ble_eq_true rfl) rfl (Nat.le_of_ble_eq_true rfl) ?_
  unfold X9_told
  refine pm_aload_n dX9_told_0 rfl rfl ?_
  refine pm_iconst (v := 0) dX9_told_1 ki_0 ?_
  refine fp_9_0 (y := zX9_told) (Or.inl tw_1366) dX9_told_2 (fun m1 => ?_)
  refine pm_aload_n dX9_told_5 rfl rfl ?_
  refine pm_iload_n dX9_told_6 rfl rfl ?_
  refine pm_iconst (v := 0) dX9_told_7 ki_0 ?_
  refine pm_bipush (v := 10) dX9_told_8 kb_10 ?_
  refine pm_kI (d := d + 2) rfl (pm_S (y := zX9_told) (z := zX9_in) (As := [.int a1, .int 0, .int 10]) zkX9_in tw_1545 tw_1546 dX9_told_10 rfl rfl (Nat.le_of_ble_eq_true rfl)) (kcX9_in (d := d + 2) hfl a1 0 10 m1) (fun x3 m2 => ?_)
  refine pm_if_ne (tgt := 20) dX9_told_13 rfl ?_ ?_
  · refine pm_iconst (v := 0) dX9_told_20 ki_0 ?_
    exact gX9_told_j21 hfl a0 a1 0 a0 m2
  · refine pm_iconst (v := 1) dX9_told_16 ki_1 ?_
    refine pm_goto (tgt := 21) dX9_told_17 rfl ?_
    exact gX9_told_j21 hfl a0 a1 1 a0 m2
-- StruckPageModel.isLine(I)Z
def X9_isLine (a0 : Nat) (a1 : Int32) (m : pmM) : pmR := pm_gI 9 a0 13 m fun x1 => pm_cI (X9_in a1 0 (x1 - 1) m) fun x3 m2 => pm_oI (vp_nar .boolean x3) m2
set_option maxRecDepth 100000 in
set_option maxHeartbeats 4000000 in
theorem kcX9_isLine (hfl : l.flags = flags0) (a0 : Nat) (a1 : Int32) (m : pmM) : pm_C l Γ zX9_isLine (d + 1) [.ref a0, .int a1] m (X9_isLine a0 a1 m) := by
  refine pm_enter (ls := [.ref a0, .int a1]) hfl (by decide +kernel) rfl (Nat.le_of_ble_eq_true rfl) rfl (Nat.le_of_ble_eq_true rfl) ?_
  unfold X9_isLine
  refine pm_iload_n dX9_isLine_0 rfl rfl ?_
  refine pm_iconst (v := 0) dX9_isLine_1 ki_0 ?_
  refine pm_aload_n dX9_isLine_2 rfl rfl ?_
  refine fg_9_13 (y := zX9_isLine) (Or.inl tw_1379) dX9_isLine_3 (fun x1 => ?_)
  refine pm_iconst (v := 1) dX9_isLine_6 ki_1 ?_
  refine pm_isub dX9_isLine_7 ?_
  refine pm_kI (d := d + 0) rfl (pm_S (y := zX9_isLine) (z := zX9_in) (As := [.int a1, .int 0, .int (x1 - 1)]) zkX9_in tw_1545 tw_1546 dX9_isLine_8 rfl rfl (Nat.le_of_ble_eq_true rfl)) (kcX9_in (d := d + 0) hfl a1 0 (x1 - 1) m) (fun x3 m2 => ?_)
  exact pm_nret (ty := .boolean) (w := vp_nar .boolean x3) rfl (by decide) rfl dX9_isLine_11
end GEN20
