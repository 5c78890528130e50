section GEN2
variable {l : Launch} {Γ : pmG} {d : Nat}
-- StruckPage$Desk.doWords(III)V
def X0_doWords_j112 (m : pmM) : pmR := pm_oV m
def X0_doWords_j143 (m : pmM) : pmR := pm_oV m
def X0_doWords (a0 : Nat) (a1 : Int32) (a2 : Int32) (a3 : Int32) (m : pmM) : pmR := if a1 = (0 : Int32) then (pm_oV m) else if a1 = (1 : Int32) then (pm_rc 0 a0 m <| pm_cV (X0_addTo a0 a2 a3 m) fun m1 => pm_oV m1) else if a1 = (2 : Int32) then (pm_gR 0 a0 3 m fun r2 => if (4 : Int32) = 0 then none else pm_gR 0 a0 3 m fun r3 => if (4 : Int32) = 0 then none else pm_ld 100 r3 (a2 - a2 / 4 * 4) m fun x4 => pm_st 100 r2 (a2 - a2 / 4 * 4) (if (0 : Int32) < (x4 - a3) then (x4 - a3) else 0) m fun m5 => pm_oV m5) else if a1 = (3 : Int32) then (pm_gR 0 a0 3 m fun r6 => if (4 : Int32) = 0 then none else pm_gR 0 a0 3 m fun r7 => if (4 : Int32) = 0 then none else pm_ld 100 r7 (a3 - a3 / 4 * 4) m fun x8 => pm_st 100 r6 (a2 - a2 / 4 * 4) x8 m fun m9 => pm_oV m9) else if a1 = (4 : Int32) then (pm_gR 0 a0 3 m fun r10 => if (4 : Int32) = 0 then none else pm_ld 100 r10 (a2 - a2 / 4 * 4) m fun x11 => if x11 = 0 then (pm_rc 0 a0 m <| pm_cV (X0_goTo a0 a3 m) fun m12 => X0_doWords_j112 m12) else (X0_doWords_j112 m)) else if a1 = (5 : Int32) then (pm_rc 0 a0 m <| pm_cV (X0_goTo a0 a2 m) fun m13 => pm_oV m13) else if a1 = (6 : Int32) then (pm_gR 0 a0 0 m fun r14 => pm_rc 2 r14 m <| pm_cI (X2_hasWord r14 a2 a3 m) fun x16 m15 => if x16 = 0 then (X0_doWords_j143 m15) else (pm_gR 0 a0 2 m15 fun r17 => pm_ld 100 r17 a2 m15 fun x18 => pm_st 100 r17 a2 (x18 ^^^ ((1 : Int32) <<< (a3 &&& 31))) m15 fun m19 => X0_doWords_j143 m19)) else if a1 = (7 : Int32) then (pm_gR 0 a0 0 m fun r20 => pm_gI 2 r20 3 m fun x21 => pm_pI 0 a0 4 x21 m fun m22 => pm_oV m22) else (pm_rc 0 a0 m <| pm_cV (X0_addTo a0 a1 1 m) fun m23 => pm_oV m23)
set_option maxRecDepth 100000 in
set_option maxHeartbeats 4000000 in
theorem gX0_doWords_j112 (hfl : l.flags = flags0) (m : pmM) : pm_G l Γ zX0_doWords (d + 1) 112 [pmU, pmU, pmU, pmU] [] m (X0_doWords_j112 m) := by
  unfold X0_doWords_j112
  exact pm_vret rfl dX0_doWords_112
set_option maxRecDepth 100000 in
set_option maxHeartbeats 4000000 in
theorem gX0_doWords_j143 (hfl : l.flags = flags0) (m : pmM) : pm_G l Γ zX0_doWords (d + 1) 143 [pmU, pmU, pmU, pmU] [] m (X0_doWords_j143 m) := by
  unfold X0_doWords_j143
  exact pm_vret rfl dX0_doWords_143
set_option maxRecDepth 100000 in
set_option maxHeartbeats 4000000 in
theorem kcX0_doWords (hfl : l.flags = flags0) (a0 : Nat) (a1 : Int32) (a2 : Int32) (a3 : Int32) (m : pmM) : pm_C l Γ zX0_doWords (d + 1) [.ref a0, .int a1, .int a2, .int a3] m (X0_doWords a0 a1 a2 a3 m) := by
  refine pm_enter (ls := [.ref a0, .int a1, .int a2, .int a3]) hfl (by decide +kernel) rfl (Nat.le_of_ble_eq_true rfl) rfl (Nat.le_of_ble_eq_true rfl) ?_
  unfold X0_doWords
  refine pm_iload_n dX0_doWords_0 rfl rfl ?_
  refine pm_case (c := (0 : Int32)) (fun h9 => ?_) (fun h9_0 => ?_)
  · refine pm_swIn (off := (47)) (tgt := 48) dX0_doWords_1 (by rw [h9]; decide) (by rw [h9]; decide) (by rw [h9]; decide) (by decide) ?_
    exact pm_vret rfl dX0_doWords_48
  refine pm_case (c := (1 : Int32)) (fun h9 => ?_) (fun h9_1 => ?_)
  · refine pm_swIn (off := (48)) (tgt := 49) dX0_doWords_1 (by rw [h9]; decide) (by rw [h9]; decide) (by rw [h9]; decide) (by decide) ?_
    refine pm_aload_n dX0_doWords_49 rfl rfl ?_
    refine pm_iload_n dX0_doWords_50 rfl rfl ?_
    refine pm_iload_n dX0_doWords_51 rfl rfl ?_
    refine pm_rcv (fun hb9 hc9 => ?_)
    refine pm_kV (d := d + 0) rfl (pm_V (y := zX0_doWords) (z := zX0_addTo) (As := [.int a2, .int a3]) zkX0_addTo pm_q0 (by decide) tw_585 tw_587 tw_15 dX0_doWords_52 rfl rfl (Nat.le_of_ble_eq_true rfl) hb9 hc9) (kcX0_addTo (d := d + 0) hfl a0 a2 a3 m) (fun m1 => ?_)
    exact pm_vret rfl dX0_doWords_55
  refine pm_case (c := (2 : Int32)) (fun h9 => ?_) (fun h9_2 => ?_)
  · refine pm_swIn (off := (55)) (tgt := 56) dX0_doWords_1 (by rw [h9]; decide) (by rw [h9]; decide) (by rw [h9]; decide) (by decide) ?_
    refine pm_aload_n dX0_doWords_56 rfl rfl ?_
    refine fg_0_3 (y := zX0_doWords) (Or.inl tw_362) dX0_doWords_57 (fun r2 => ?_)
    refine pm_iload_n dX0_doWords_60 rfl rfl ?_
    refine pm_iconst (v := 4) dX0_doWords_61 ki_4 ?_
    refine pm_irem dX0_doWords_62 ?_
    refine pm_iconst (v := 0) dX0_doWords_63 ki_0 ?_
    refine pm_aload_n dX0_doWords_64 rfl rfl ?_
    refine fg_0_3 (y := zX0_doWords) (Or.inl tw_362) dX0_doWords_65 (fun r3 => ?_)
    refine pm_iload_n dX0_doWords_68 rfl rfl ?_
    refine pm_iconst (v := 4) dX0_doWords_69 ki_4 ?_
    refine pm_irem dX0_doWords_70 ?_
    refine pm_iald (y := zX0_doWords) dX0_doWords_71 (fun x4 => ?_)
    refine pm_iload_n dX0_doWords_72 rfl rfl ?_
    refine pm_isub dX0_doWords_73 ?_
    refine pm_max (y := zX0_doWords) tw_592 tw_593 tw_171 tw_594 dX0_doWords_74 (Nat.le_of_ble_eq_true rfl) ?_
    refine pm_iast (y := zX0_doWords) dX0_doWords_77 (fun m5 => ?_)
    exact pm_vret rfl dX0_doWords_78
  refine pm_case (c := (3 : Int32)) (fun h9 => ?_) (fun h9_3 => ?_)
  · refine pm_swIn (off := (78)) (tgt := 79) dX0_doWords_1 (by rw [h9]; decide) (by rw [h9]; decide) (by rw [h9]; decide) (by decide) ?_
    refine pm_aload_n dX0_doWords_79 rfl rfl ?_
    refine fg_0_3 (y := zX0_doWords) (Or.inl tw_362) dX0_doWords_80 (fun r6 => ?_)
    refine pm_iload_n dX0_doWords_83 rfl rfl ?_
    refine pm_iconst (v := 4) dX0_doWords_84 ki_4 ?_
    refine pm_irem dX0_doWords_85 ?_
    refine pm_aload_n dX0_doWords_86 rfl rfl ?_
    refine fg_0_3 (y := zX0_doWords) (Or.inl tw_362) dX0_doWords_87 (fun r7 => ?_)
    refine pm_iload_n dX0_doWords_90 rfl rfl ?_
    refine pm_iconst (v := 4) dX0_doWords_91 ki_4 ?_
    refine pm_irem dX0_doWords_92 ?_
    refine pm_iald (y := zX0_doWords) dX0_doWords_93 (fun x8 => ?_)
    refine pm_iast (y := zX0_doWords) dX0_doWords_94 (fun m9 => ?_)
    exact pm_vret rfl dX0_doWords_95
  refine pm_case (c := (4 : Int32)) (fun h9 => ?_) (fun h9_4 => ?_)
  · refine pm_swIn (off := (95)) (tgt := 96) dX0_doWords_1 (by rw [h9]; decide) (by rw [h9]; decide) (by rw [h9]; decide) (by decide) ?_
    refine pm_aload_n dX0_doWords_96 rfl rfl ?_
    refine fg_0_3 (y := zX0_doWords) (Or.inl tw_362) dX0_doWords_97 (fun r10 => ?_)
    refine pm_iload_n dX0_doWords_100 rfl rfl ?_
    refine pm_iconst (v := 4) dX0_doWords_101 ki_4 ?_
    refine pm_irem dX0_doWords_102 ?_
    refine pm_iald (y := zX0_doWords) dX0_doWords_103 (fun x11 => ?_)
    refine pm_if_ne (tgt := 112) dX0_doWords_104 rfl ?_ ?_
    · refine pm_drop (ls2 := [pmU, pmU, pmU, pmU]) (Nat.le_refl _) (pm_le_spec (pm_le_u (pm_le_u (pm_le_u (pm_le_u (pm_le_n)))))) ?_
      exact gX0_doWords_j112 hfl m
    · refine pm_aload_n dX0_doWords_107 rfl rfl ?_
      refine pm_iload_n dX0_doWords_108 rfl rfl ?_
      refine pm_rcv (fun hb9 hc9 => ?_)
      refine pm_kV (d := d + 0) rfl (pm_V (y := zX0_doWords) (z := zX0_goTo) (As := [.int a3]) zkX0_goTo pm_q0 (by decide) tw_595 tw_597 tw_16 dX0_doWords_109 rfl rfl (Nat.le_of_ble_eq_true rfl) hb9 hc9) (kcX0_goTo (d := d + 0) hfl a0 a3 m) (fun m12 => ?_)
      refine pm_drop (ls2 := [pmU, pmU, pmU, pmU]) (Nat.le_refl _) (pm_le_spec (pm_le_u (pm_le_u (pm_le_u (pm_le_u (pm_le_n)))))) ?_
      exact gX0_doWords_j112 hfl m12
  refine pm_case (c := (5 : Int32)) (fun h9 => ?_) (fun h9_5 => ?_)
  · refine pm_swIn (off := (112)) (tgt := 113) dX0_doWords_1 (by rw [h9]; decide) (by rw [h9]; decide) (by rw [h9]; decide) (by decide) ?_
    refine pm_aload_n dX0_doWords_113 rfl rfl ?_
    refine pm_iload_n dX0_doWords_114 rfl rfl ?_
    refine pm_rcv (fun hb9 hc9 => ?_)
    refine pm_kV (d := d + 0) rfl (pm_V (y := zX0_doWords) (z := zX0_goTo) (As := [.int a2]) zkX0_goTo pm_q0 (by decide) tw_595 tw_597 tw_16 dX0_doWords_115 rfl rfl (Nat.le_of_ble_eq_true rfl) hb9 hc9) (kcX0_goTo (d := d + 0) hfl a0 a2 m) (fun m13 => ?_)
    exact pm_vret rfl dX0_doWords_118
  refine pm_case (c := (6 : Int32)) (fun h9 => ?_) (fun h9_6 => ?_)
  · refine pm_swIn (off := (118)) (tgt := 119) dX0_doWords_1 (by rw [h9]; decide) (by rw [h9]; decide) (by rw [h9]; decide) (by decide) ?_
    refine pm_aload_n dX0_doWords_119 rfl rfl ?_
    refine fg_0_0 (y := zX0_doWords) (Or.inl tw_358) dX0_doWords_120 (fun r14 => ?_)
    refine pm_iload_n dX0_doWords_123 rfl rfl ?_
    refine pm_iload_n dX0_doWords_124 rfl rfl ?_
    refine pm_rcv (fun hb9 hc9 => ?_)
    refine pm_kI (d := d + 0) rfl (pm_VN (y := zX0_doWords) (z := zX2_hasWord) (As := [.int a2, .int a3]) zkX2_hasWord pm_q2 (by decide) tw_599 tw_601 tw_17 dX0_doWords_125 rfl rfl (Nat.le_of_ble_eq_true rfl) hb9 hc9) (kcX2_hasWord (d := d + 0) hfl r14 a2 a3 m) (fun x16 m15 => ?_)
    refine pm_if_eq (tgt := 143) dX0_doWords_128 rfl ?_ ?_
    · refine pm_drop (ls2 := [pmU, pmU, pmU, pmU]) (Nat.le_refl _) (pm_le_spec (pm_le_u (pm_le_u (pm_le_u (pm_le_u (pm_le_n)))))) ?_
      exact gX0_doWords_j143 hfl m15
    · refine pm_aload_n dX0_doWords_131 rfl rfl ?_
      refine fg_0_2 (y := zX0_doWords) (Or.inl tw_360) dX0_doWords_132 (fun r17 => ?_)
      refine pm_iload_n dX0_doWords_135 rfl rfl ?_
      refine pm_dup2 dX0_doWords_136 rfl rfl ?_
      refine pm_iald (y := zX0_doWords) dX0_doWords_137 (fun x18 => ?_)
      refine pm_iconst (v := 1) dX0_doWords_138 ki_1 ?_
      refine pm_iload_n dX0_doWords_139 rfl rfl ?_
      refine pm_ishl dX0_doWords_140 ?_
      refine pm_ixor dX0_doWords_141 ?_
      refine pm_iast (y := zX0_doWords) dX0_doWords_142 (fun m19 => ?_)
      refine pm_drop (ls2 := [pmU, pmU, pmU, pmU]) (Nat.le_refl _) (pm_le_spec (pm_le_u (pm_le_u (pm_le_u (pm_le_u (pm_le_n)))))) ?_
      exact gX0_doWords_j143 hfl m19
  refine pm_case (c := (7 : Int32)) (fun h9 => ?_) (fun h9_7 => ?_)
  · refine pm_swIn (off := (143)) (tgt := 144) dX0_doWords_1 (by rw [h9]; decide) (by rw [h9]; decide) (by rw [h9]; decide) (by decide) ?_
    refine pm_aload_n dX0_doWords_144 rfl rfl ?_
    refine pm_aload_n dX0_doWords_145 rfl rfl ?_
    refine fg_0_0 (y := zX0_doWords) (Or.inl tw_358) dX0_doWords_146 (fun r20 => ?_)
    refine fg_2_3 (y := zX0_doWords) (Or.inr tw_247) dX0_doWords_149 (fun x21 => ?_)
    refine fp_0_4 (y := zX0_doWords) (Or.inl tw_364) dX0_doWords_152 (fun m22 => ?_)
    exact pm_vret rfl dX0_doWords_155
  refine pm_swOut (tgt := 156) dX0_doWords_1 (pm_swx a1 (0) 8 (lt_s (lt_s (lt_s (lt_s (lt_s (lt_s (lt_s (lt_s (lt_0) (pm_ne h9_0 (by decide))) (pm_ne h9_1 (by decide))) (pm_ne h9_2 (by decide))) (pm_ne h9_3 (by decide))) (pm_ne h9_4 (by decide))) (pm_ne h9_5 (by decide))) (pm_ne h9_6 (by decide))) (pm_ne h9_7 (by decide)))) (by decide) ?_
  refine pm_aload_n dX0_doWords_156 rfl rfl ?_
  refine pm_iload_n dX0_doWords_157 rfl rfl ?_
  refine pm_iconst (v := 1) dX0_doWords_158 ki_1 ?_
  refine pm_rcv (fun hb9 hc9 => ?_)
  refine pm_kV (d := d + 0) rfl (pm_V (y := zX0_doWords) (z := zX0_addTo) (As := [.int a1, .int 1]) zkX0_addTo pm_q0 (by decide) tw_585 tw_587 tw_15 dX0_doWords_159 rfl rfl (Nat.le_of_ble_eq_true rfl) hb9 hc9) (kcX0_addTo (d := d + 0) hfl a0 a1 1 m) (fun m23 => ?_)
  exact pm_vret rfl dX0_doWords_162
-- StruckPage$Desk.doDeed()Z
def X0_doDeed_j38 (l0 : Nat) (m : pmM) : pmR := pm_gI 0 l0 4 m fun x4 => pm_gR 0 l0 0 m fun r5 => pm_gI 2 r5 3 m fun x6 => if x4 < x6 then (pm_gI 0 l0 4 m fun x7 => pm_gI 0 l0 4 m fun x8 => pm_pI 0 l0 4 (x8 + 1) m fun m9 => pm_gI 0 l0 7 m9 fun x10 => pm_pI 0 l0 7 (x10 + 1) m9 fun m11 => pm_rc 0 l0 m11 <| pm_cI (X0_leftBits l0 x7 m11) fun x13 m12 => pm_bI (x13 &&& (x13 - 1)) fun x14 => pm_bI (x14 &&& (x14 - 1)) fun x15 => pm_rc 0 l0 m12 <| pm_cI (X0_lowestWord l0 x7 x13 m12) fun x17 m16 => pm_rc 0 l0 m16 <| pm_cI (X0_lowestWord l0 x7 x14 m16) fun x19 m18 => pm_rc 0 l0 m18 <| pm_cI (X0_lowestWord l0 x7 x15 m18) fun x21 m20 => pm_rc 0 l0 m20 <| pm_cV (X0_doWords l0 x17 x19 x21 m20) fun m22 => pm_oI 1 m22) else (pm_oI 0 m)
def X0_doDeed_L0 (l0 : Nat) (again0 : (pmM) → pmR) (s0 : pmM) : pmR := pm_gI 0 l0 4 s0 fun x1 => pm_gR 0 l0 0 s0 fun r2 => pm_gI 2 r2 3 s0 fun x3 => if x3 ≤ x1 then (X0_doDeed_j38 l0 s0) else (pm_gI 0 l0 4 s0 fun x23 => pm_rc 0 l0 s0 <| pm_cI (X0_leftBits l0 x23 s0) fun x25 m24 => if x25 = 0 then (pm_gI 0 l0 4 m24 fun x26 => pm_pI 0 l0 4 (x26 + 1) m24 fun m27 => again0 m27) else (X0_doDeed_j38 l0 m24))
def X0_doDeed (a0 : Nat) (m : pmM) : pmR := pm_lp pm_N (X0_doDeed_L0 a0) m
set_option maxRecDepth 100000 in
set_option maxHeartbeats 4000000 in
theorem gX0_doDeed_j38 (hfl : l.flags = flags0) (l0 : Nat) (m : pmM) : pm_G l Γ zX0_doDeed (d + 2) 38 [.ref l0, pmU, pmU, pmU, pmU] [] m (X0_doDeed_j38 l0 m) := by
  unfold X0_doDeed_j38
  refine pm_aload_n dX0_doDeed_38 rfl rfl ?_
  refine fg_0_4 (y := zX0_doDeed) (Or.inl tw_364) dX0_doDeed_39 (fun x4 => ?_)
  refine pm_aload_n dX0_doDeed_42 rfl rfl ?_
  refine fg_0_0 (y := zX0_doDeed) (Or.inl tw_358) dX0_doDeed_43 (fun r5 => ?_)
  refine fg_2_3 (y := zX0_doDeed) (Or.inr tw_247) dX0_doDeed_46 (fun x6 => ?_)
  refine pm_icmp_lt (tgt := 54) dX0_doDeed_49 rfl ?_ ?_
  · refine pm_aload_n dX0_doDeed_54 rfl rfl ?_
    refine fg_0_4 (y := zX0_doDeed) (Or.inl tw_364) dX0_doDeed_55 (fun x7 => ?_)
    refine pm_istore_n (ls2 := [.ref l0, .int x7, pmU, pmU, pmU]) dX0_doDeed_58 rfl rfl (Nat.le_of_ble_eq_true rfl) rfl ?_
    refine pm_aload_n dX0_doDeed_59 rfl rfl ?_
    refine pm_dup dX0_doDeed_60 rfl ?_
    refine fg_0_4 (y := zX0_doDeed) (Or.inl tw_364) dX0_doDeed_61 (fun x8 => ?_)
    refine pm_iconst (v := 1) dX0_doDeed_64 ki_1 ?_
    refine pm_iadd dX0_doDeed_65 ?_
    refine fp_0_4 (y := zX0_doDeed) (Or.inl tw_364) dX0_doDeed_66 (fun m9 => ?_)
    refine pm_aload_n dX0_doDeed_69 rfl rfl ?_
    refine pm_dup dX0_doDeed_70 rfl ?_
    refine fg_0_7 (y := zX0_doDeed) (Or.inl tw_370) dX0_doDeed_71 (fun x10 => ?_)
    refine pm_iconst (v := 1) dX0_doDeed_74 ki_1 ?_
    refine pm_iadd dX0_doDeed_75 ?_
    refine fp_0_7 (y := zX0_doDeed) (Or.inl tw_370) dX0_doDeed_76 (fun m11 => ?_)
    refine pm_aload_n dX0_doDeed_79 rfl rfl ?_
    refine pm_iload_n dX0_doDeed_80 rfl rfl ?_
    refine pm_rcv (fun hb9 hc9 => ?_)
    refine pm_kI (d := d + 1) rfl (pm_V (y := zX0_doDeed) (z := zX0_leftBits) (As := [.int x7]) zkX0_leftBits pm_q0 (by decide) tw_564 tw_566 tw_10 dX0_doDeed_81 rfl rfl (Nat.le_of_ble_eq_true rfl) hb9 hc9) (kcX0_leftBits (d := d + 0) hfl l0 x7 m11) (fun x13 m12 => ?_)
    refine pm_istore_n (ls2 := [.ref l0, .int x7, .int x13, pmU, pmU]) dX0_doDeed_84 rfl rfl (Nat.le_of_ble_eq_true rfl) rfl ?_
    refine pm_iload_n dX0_doDeed_85 rfl rfl ?_
    refine pm_iload_n dX0_doDeed_86 rfl rfl ?_
    refine pm_iconst (v := 1) dX0_doDeed_87 ki_1 ?_
    refine pm_isub dX0_doDeed_88 ?_
    refine pm_iand dX0_doDeed_89 ?_
    refine pm_bIn (fun x14 => ?_)
    refine pm_istore_n (ls2 := [.ref l0, .int x7, .int x13, .int x14, pmU]) dX0_doDeed_90 rfl rfl (Nat.le_of_ble_eq_true rfl) rfl ?_
    refine pm_iload_n dX0_doDeed_91 rfl rfl ?_
    refine pm_iload_n dX0_doDeed_92 rfl rfl ?_
    refine pm_iconst (v := 1) dX0_doDeed_93 ki_1 ?_
    refine pm_isub dX0_doDeed_94 ?_
    refine pm_iand dX0_doDeed_95 ?_
    refine pm_bIn (fun x15 => ?_)
    refine pm_istore (ls2 := [.ref l0, .int x7, .int x13, .int x14, .int x15]) dX0_doDeed_96 rfl (Nat.le_of_ble_eq_true rfl) rfl ?_
    refine pm_aload_n dX0_doDeed_98 rfl rfl ?_
    refine pm_aload_n dX0_doDeed_99 rfl rfl ?_
    refine pm_iload_n dX0_doDeed_100 rfl rfl ?_
    refine pm_iload_n dX0_doDeed_101 rfl rfl ?_
    refine pm_rcv (fun hb9 hc9 => ?_)
    refine pm_kI (d := d + 1) rfl (pm_V (y := zX0_doDeed) (z := zX0_lowestWord) (As := [.int x7, .int x13]) zkX0_lowestWord pm_q0 (by decide) tw_572 tw_574 tw_12 dX0_doDeed_102 rfl rfl (Nat.le_of_ble_eq_true rfl) hb9 hc9) (kcX0_lowestWord (d := d + 0) hfl l0 x7 x13 m12) (fun x17 m16 => ?_)
    refine pm_aload_n dX0_doDeed_105 rfl rfl ?_
    refine pm_iload_n dX0_doDeed_106 rfl rfl ?_
    refine pm_iload_n dX0_doDeed_107 rfl rfl ?_
    refine pm_rcv (fun hb9 hc9 => ?_)
    refine pm_kI (d := d + 1) rfl (pm_V (y := zX0_doDeed) (z := zX0_lowestWord) (As := [.int x7, .int x14]) zkX0_lowestWord pm_q0 (by decide) tw_572 tw_574 tw_12 dX0_doDeed_108 rfl rfl (Nat.le_of_ble_eq_true rfl) hb9 hc9) (kcX0_lowestWord (d := d + 0) hfl l0 x7 x14 m16) (fun x19 m18 => ?_)
    refine pm_aload_n dX0_doDeed_111 rfl rfl ?_
    refine pm_iload_n dX0_doDeed_112 rfl rfl ?_
    refine pm_iload dX0_doDeed_113 rfl ?_
    refine pm_rcv (fun hb9 hc9 => ?_)
    refine pm_kI (d := d + 1) rfl (pm_V (y := zX0_doDeed) (z := zX0_lowestWord) (As := [.int x7, .int x15]) zkX0_lowestWord pm_q0 (by decide) tw_572 tw_574 tw_12 dX0_doDeed_115 rfl rfl (Nat.le_of_ble_eq_true rfl) hb9 hc9) (kcX0_lowestWord (d := d + 0) hfl l0 x7 x15 m18) (fun x21 m20 => ?_)
    refine pm_rcv (fun hb9 hc9 => ?_)
    refine pm_kV (d := d + 1) rfl (pm_V (y := zX0_doDeed) (z := zX0_doWords) (As := [.int x17, .int x19, .int x21]) zkX0_doWords pm_q0 (by decide) tw_581 tw_583 tw_14 dX0_doDeed_118 rfl rfl (Nat.le_of_ble_eq_true rfl) hb9 hc9) (kcX0_doWords (d := d + 0) hfl l0 x17 x19 x21 m20) (fun m22 => ?_)
    refine pm_iconst (v := 1) dX0_doDeed_121 ki_1 ?_
    exact pm_nret (ty := .boolean) (w := 1) rfl (by decide) (by decide) dX0_doDeed_122
  · refine pm_iconst (v := 0) dX0_doDeed_52 ki_0 ?_
    exact pm_nret (ty := .boolean) (w := 0) rfl (by decide) (by decide) dX0_doDeed_53
set_option maxRecDepth 100000 in
set_option maxHeartbeats 4000000 in
theorem gX0_doDeed_L0 (hfl : l.flags = flags0) (l0 : Nat) : ∀ (n : Nat) (s : pmM), pm_G l Γ zX0_doDeed (d + 2) 0 [.ref l0, pmU, pmU, pmU, pmU] [] s (pm_lp n (X0_doDeed_L0 l0) s) :=
  pm_loop (lsf := fun s : pmM => [.ref l0, pmU, pmU, pmU, pmU]) (mf := fun s : pmM => s) (fun again0 hag0 s0 => by
    unfold X0_doDeed_L0
    refine pm_aload_n dX0_doDeed_0 rfl rfl ?_
    refine fg_0_4 (y := zX0_doDeed) (Or.inl tw_364) dX0_doDeed_1 (fun x1 => ?_)
    refine pm_aload_n dX0_doDeed_4 rfl rfl ?_
    refine fg_0_0 (y := zX0_doDeed) (Or.inl tw_358) dX0_doDeed_5 (fun r2 => ?_)
    refine fg_2_3 (y := zX0_doDeed) (Or.inr tw_247) dX0_doDeed_8 (fun x3 => ?_)
    refine pm_icmp_ge (tgt := 38) dX0_doDeed_11 rfl ?_ ?_
    · exact gX0_doDeed_j38 hfl l0 s0
    · refine pm_aload_n dX0_doDeed_14 rfl rfl ?_
      refine pm_aload_n dX0_doDeed_15 rfl rfl ?_
      refine fg_0_4 (y := zX0_doDeed) (Or.inl tw_364) dX0_doDeed_16 (fun x23 => ?_)
      refine pm_rcv (fun hb9 hc9 => ?_)
      refine pm_kI (d := d + 1) rfl (pm_V (y := zX0_doDeed) (z := zX0_leftBits) (As := [.int x23]) zkX0_leftBits pm_q0 (by decide) tw_564 tw_566 tw_10 dX0_doDeed_19 rfl rfl (Nat.le_of_ble_eq_true rfl) hb9 hc9) (kcX0_leftBits (d := d + 0) hfl l0 x23 s0) (fun x25 m24 => ?_)
      refine pm_if_ne (tgt := 38) dX0_doDeed_22 rfl ?_ ?_
      · exact gX0_doDeed_j38 hfl l0 m24
      · refine pm_aload_n dX0_doDeed_25 rfl rfl ?_
        refine pm_dup dX0_doDeed_26 rfl ?_
        refine fg_0_4 (y := zX0_doDeed) (Or.inl tw_364) dX0_doDeed_27 (fun x26 => ?_)
        refine pm_iconst (v := 1) dX0_doDeed_30 ki_1 ?_
        refine pm_iadd dX0_doDeed_31 ?_
        refine fp_0_4 (y := zX0_doDeed) (Or.inl tw_364) dX0_doDeed_32 (fun m27 => ?_)
        refine pm_goto (tgt := 0) dX0_doDeed_35 rfl ?_
        exact hag0 m27)
set_option maxRecDepth 100000 in
set_option maxHeartbeats 4000000 in
theorem kcX0_doDeed (hfl : l.flags = flags0) (a0 : Nat) (m : pmM) : pm_C l Γ zX0_doDeed (d + 2) [.ref a0] m (X0_doDeed a0 m) := by
  refine pm_enter (ls := [.ref a0, pmU, pmU, pmU, pmU]) hfl (by decide +kernel) rfl (Nat.le_of_ble_eq_true rfl) rfl (Nat.le_of_ble_eq_true rfl) ?_
  unfold X0_doDeed
  exact gX0_doDeed_L0 hfl a0 pm_N m
-- StruckPage$Desk.runOn(I)Z
def X0_runOn_j48 (m : pmM) : pmR := pm_oI 1 m
def X0_runOn_L18 (l0 : Nat) (l1 : Int32) (again18 : (Int32 × pmM) → pmR) (s18 : Int32 × pmM) : pmR := if l1 ≤ s18.1 then (X0_runOn_j48 s18.2) else (pm_gI 0 l0 4 s18.2 fun x4 => pm_gR 0 l0 0 s18.2 fun r5 => pm_gI 2 r5 3 s18.2 fun x6 => if x6 ≤ x4 then (X0_runOn_j48 s18.2) else (pm_rc 0 l0 s18.2 <| pm_cI (X0_doDeed l0 s18.2) fun x8 m7 => pm_bI (s18.1 + 1) fun x9 => again18 (x9, m7)))
def X0_runOn (a0 : Nat) (a1 : Int32) (m : pmM) : pmR := pm_gI 0 a0 4 m fun x1 => pm_gR 0 a0 0 m fun r2 => pm_gI 2 r2 3 m fun x3 => if x1 < x3 then (pm_lp pm_N (X0_runOn_L18 a0 a1) (0, m)) else (pm_oI 0 m)
set_option maxRecDepth 100000 in
set_option maxHeartbeats 4000000 in
theorem gX0_runOn_j48 (hfl : l.flags = flags0) (m : pmM) : pm_G l Γ zX0_runOn (d + 3) 48 [pmU, pmU, pmU] [] m (X0_runOn_j48 m) := by
  unfold X0_runOn_j48
  refine pm_iconst (v := 1) dX0_runOn_48 ki_1 ?_
  exact pm_nret (ty := .boolean) (w := 1) rfl (by decide) (by decide) dX0_runOn_49
set_option maxRecDepth 100000 in
set_option maxHeartbeats 4000000 in
theorem gX0_runOn_L18 (hfl : l.flags = flags0) (l0 : Nat) (l1 : Int32) : ∀ (n : Nat) (s : Int32 × pmM), pm_G l Γ zX0_runOn (d + 3) 18 [.ref l0, .int l1, .int s.1] [] s.2 (pm_lp n (X0_runOn_L18 l0 l1) s) :=
  pm_loop (lsf := fun s : Int32 × pmM => [.ref l0, .int l1, .int s.1]) (mf := fun s : Int32 × pmM => s.2) (fun again18 hag18 s18 => by
    unfold X0_runOn_L18
    refine pm_iload_n dX0_runOn_18 rfl rfl ?_
    refine pm_iload_n dX0_runOn_19 rfl rfl ?_
    refine pm_icmp_ge (tgt := 48) dX0_runOn_20 rfl ?_ ?_
    · refine pm_drop (ls2 := [pmU, pmU, pmU]) (Nat.le_refl _) (pm_le_spec (pm_le_u (pm_le_u (pm_le_u (pm_le_n))))) ?_
      exact gX0_runOn_j48 hfl s18.2
    · refine pm_aload_n dX0_runOn_23 rfl rfl ?_
      refine fg_0_4 (y := zX0_runOn) (Or.inl tw_364) dX0_runOn_24 (fun x4 => ?_)
      refine pm_aload_n dX0_runOn_27 rfl rfl ?_
      refine fg_0_0 (y := zX0_runOn) (Or.inl tw_358) dX0_runOn_28 (fun r5 => ?_)
      refine fg_2_3 (y := zX0_runOn) (Or.inr tw_247) dX0_runOn_31 (fun x6 => ?_)
      refine pm_icmp_ge (tgt := 48) dX0_runOn_34 rfl ?_ ?_
      · refine pm_drop (ls2 := [pmU, pmU, pmU]) (Nat.le_refl _) (pm_le_spec (pm_le_u (pm_le_u (pm_le_u (pm_le_n))))) ?_
        exact gX0_runOn_j48 hfl s18.2
      · refine pm_aload_n dX0_runOn_37 rfl rfl ?_
        refine pm_rcv (fun hb9 hc9 => ?_)
        refine pm_kI (d := d + 2) rfl (pm_V (y := zX0_runOn) (z := zX0_doDeed) (As := []) zkX0_doDeed pm_q0 (by decide) tw_1025 tw_562 tw_9 dX0_runOn_38 rfl rfl (Nat.le_of_ble_eq_true rfl) hb9 hc9) (kcX0_doDeed (d := d + 0) hfl l0 s18.2) (fun x8 m7 => ?_)
        refine pm_pop dX0_runOn_41 rfl ?_
        refine pm_iincn (y := zX0_runOn) dX0_runOn_42 rfl ki_1 rfl (Nat.le_of_ble_eq_true rfl) (fun x9 => ?_)
        refine pm_eqls (ls2 := [.ref l0, .int l1, .int x9]) rfl ?_
        refine pm_goto (tgt := 18) dX0_runOn_45 rfl ?_
        exact hag18 (x9, m7))
set_option maxRecDepth 100000 in
set_option maxHeartbeats 4000000 in
theorem kcX0_runOn (hfl : l.flags = flags0) (a0 : Nat) (a1 : Int32) (m : pmM) : pm_C l Γ zX0_runOn (d + 3) [.ref a0, .int a1] m (X0_runOn a0 a1 m) := by
  refine pm_enter (ls := [.ref a0, .int a1, pmU]) hfl (by decide +kernel) rfl (Nat.le_of_ble_eq_true rfl) rfl (Nat.le_of_ble_eq_true rfl) ?_
  unfold X0_runOn
  refine pm_aload_n dX0_runOn_0 rfl rfl ?_
  refine fg_0_4 (y := zX0_runOn) (Or.inl tw_364) dX0_runOn_1 (fun x1 => ?_)
  refine pm_aload_n dX0_runOn_4 rfl rfl ?_
  refine fg_0_0 (y := zX0_runOn) (Or.inl tw_358) dX0_runOn_5 (fun r2 => ?_)
  refine fg_2_3 (y := zX0_runOn) (Or.inr tw_247) dX0_runOn_8 (fun x3 => ?_)
  refine pm_icmp_lt (tgt := 16) dX0_runOn_11 rfl ?_ ?_
  · refine pm_iconst (v := 0) dX0_runOn_16 ki_0 ?_
    refine pm_istore_n (ls2 := [.ref a0, .int a1, .int 0]) dX0_runOn_17 rfl rfl (Nat.le_of_ble_eq_true rfl) rfl ?_
    exact gX0_runOn_L18 hfl a0 a1 pm_N (0, m)
  · refine pm_iconst (v := 0) dX0_runOn_14 ki_0 ?_
    exact pm_nret (ty := .boolean) (w := 0) rfl (by decide) (by decide) dX0_runOn_15
-- StruckPage$Desk.beginAgain()Z
def X0_beginAgain_j17 (m : pmM) : pmR := pm_oI 0 m
def X0_beginAgain (a0 : Nat) (m : pmM) : pmR := pm_gI 0 a0 4 m fun x1 => if x1 = 0 then (X0_beginAgain_j17 m) else (pm_gR 0 a0 0 m fun r2 => pm_gI 2 r2 3 m fun x3 => if x3 = 0 then (X0_beginAgain_j17 m) else (pm_pI 0 a0 4 0 m fun m4 => pm_oI 1 m4))
set_option maxRecDepth 100000 in
set_option maxHeartbeats 4000000 in
theorem gX0_beginAgain_j17 (hfl : l.flags = flags0) (m : pmM) : pm_G l Γ zX0_beginAgain (d + 0) 17 [pmU] [] m (X0_beginAgain_j17 m) := by
  unfold X0_beginAgain_j17
  refine pm_iconst (v := 0) dX0_beginAgain_17 ki_0 ?_
  exact pm_nret (ty := .boolean) (w := 0) rfl (by decide) (by decide) dX0_beginAgain_18
set_option maxRecDepth 100000 in
set_option maxHeartbeats 4000000 in
theorem kcX0_beginAgain (hfl : l.flags = flags0) (a0 : Nat) (m : pmM) : pm_C l Γ zX0_beginAgain (d + 0) [.ref a0] m (X0_beginAgain a0 m) := by
  refine pm_enter (ls := [.ref a0]) hfl (by decide +kernel) rfl (Nat.le_of_ble_eq_true rfl) rfl (Nat.le_of_ble_eq_true rfl) ?_
  unfold X0_beginAgain
  refine pm_aload_n dX0_beginAgain_0 rfl rfl ?_
  refine fg_0_4 (y := zX0_beginAgain) (Or.inl tw_364) dX0_beginAgain_1 (fun x1 => ?_)
  refine pm_if_eq (tgt := 17) dX0_beginAgain_4 rfl ?_ ?_
  · refine pm_drop (ls2 := [pmU]) (Nat.le_refl _) (pm_le_spec (pm_le_u (pm_le_n))) ?_
    exact gX0_beginAgain_j17 hfl m
  · refine pm_aload_n dX0_beginAgain_7 rfl rfl ?_
    refine fg_0_0 (y := zX0_beginAgain) (Or.inl tw_358) dX0_beginAgain_8 (fun r2 => ?_)
    refine fg_2_3 (y := zX0_beginAgain) (Or.inr tw_247) dX0_beginAgain_11 (fun x3 => ?_)
    refine pm_if_ne (tgt := 19) dX0_beginAgain_14 rfl ?_ ?_
    · refine pm_aload_n dX0_beginAgain_19 rfl rfl ?_
      refine pm_iconst (v := 0) dX0_beginAgain_20 ki_0 ?_
      refine fp_0_4 (y := zX0_beginAgain) (Or.inl tw_364) dX0_beginAgain_21 (fun m4 => ?_)
      refine pm_iconst (v := 1) dX0_beginAgain_24 ki_1 ?_
      exact pm_nret (ty := .boolean) (w := 1) rfl (by decide) (by decide) dX0_beginAgain_25
    · refine pm_drop (ls2 := [pmU]) (Nat.le_refl _) (pm_le_spec (pm_le_u (pm_le_n))) ?_
      exact gX0_beginAgain_j17 hfl m
-- StruckPage$Desk.fillUp(I)Z
def X0_fillUp (a0 : Nat) (a1 : Int32) (m : pmM) : pmR := pm_gI 0 a0 5 m fun x1 => if x1 < 200 then (pm_gI 0 a0 5 m fun x2 => pm_pI 0 a0 5 (if (x2 + a1) < 200 then (x2 + a1) else 200) m fun m3 => pm_oI 1 m3) else (pm_oI 0 m)
set_option maxRecDepth 100000 in
set_option maxHeartbeats 4000000 in
theorem kcX0_fillUp (hfl : l.flags = flags0) (a0 : Nat) (a1 : Int32) (m : pmM) : pm_C l Γ zX0_fillUp (d + 0) [.ref a0, .int a1] m (X0_fillUp a0 a1 m) := by
  refine pm_enter (ls := [.ref a0, .int a1]) hfl (by decide +kernel) rfl (Nat.le_of_ble_eq_true rfl) rfl (Nat.le_of_ble_eq_true rfl) ?_
  unfold X0_fillUp
  refine pm_aload_n dX0_fillUp_0 rfl rfl ?_
  refine fg_0_5 (y := zX0_fillUp) (Or.inl tw_366) dX0_fillUp_1 (fun x1 => ?_)
  refine pm_sipush (v := 200) dX0_fillUp_4 ks_200 ?_
  refine pm_icmp_lt (tgt := 12) dX0_fillUp_7 rfl ?_ ?_
  · refine pm_aload_n dX0_fillUp_12 rfl rfl ?_
    refine pm_sipush (v := 200) dX0_fillUp_13 ks_200 ?_
    refine pm_aload_n dX0_fillUp_16 rfl rfl ?_
    refine fg_0_5 (y := zX0_fillUp) (Or.inl tw_366) dX0_fillUp_17 (fun x2 => ?_)
    refine pm_iload_n dX0_fillUp_20 rfl rfl ?_
    refine pm_iadd dX0_fillUp_21 ?_
    refine pm_min (y := zX0_fillUp) tw_589 tw_590 tw_171 tw_591 dX0_fillUp_22 (Nat.le_of_ble_eq_true rfl) ?_
    refine fp_0_5 (y := zX0_fillUp) (Or.inl tw_366) dX0_fillUp_25 (fun m3 => ?_)
    refine pm_iconst (v := 1) dX0_fillUp_28 ki_1 ?_
    exact pm_nret (ty := .boolean) (w := 1) rfl (by decide) (by decide) dX0_fillUp_29
  · refine pm_iconst (v := 0) dX0_fillUp_10 ki_0 ?_
    exact pm_nret (ty := .boolean) (w := 0) rfl (by decide) (by decide) dX0_fillUp_11
-- StruckPage$Desk.wipeAll()Z
def X0_wipeAll_j25 (again4 : (Int32 × Int32 × pmM) → pmR) (l0 : Nat) (l2 : Int32) (t0 : Int32) (t1 : Int32) (m : pmM) : pmR := pm_bI (t1 ||| t0) fun x3 => pm_gR 0 l0 2 m fun r4 => pm_st 100 r4 l2 0 m fun m5 => pm_bI (l2 + 1) fun x6 => again4 (x3, x6, m5)
def X0_wipeAll_L4 (l0 : Nat) (again4 : (Int32 × Int32 × pmM) → pmR) (s4 : Int32 × Int32 × pmM) : pmR := if (6 : Int32) ≤ s4.2.1 then (pm_oI (vp_nar .boolean s4.1) s4.2.2) else (pm_gR 0 l0 2 s4.2.2 fun r1 => pm_ld 100 r1 s4.2.1 s4.2.2 fun x2 => if x2 = 0 then (X0_wipeAll_j25 again4 l0 s4.2.1 0 s4.1 s4.2.2) else (X0_wipeAll_j25 again4 l0 s4.2.1 1 s4.1 s4.2.2))
def X0_wipeAll (a0 : Nat) (m : pmM) : pmR := pm_lp pm_N (X0_wipeAll_L4 a0) (0, 0, m)
set_option maxRecDepth 100000 in
set_option maxHeartbeats 4000000 in
theorem gX0_wipeAll_j25 (hfl : l.flags = flags0) (again4 : (Int32 × Int32 × pmM) → pmR) (l0 : Nat) (l2 : Int32) (t0 : Int32) (t1 : Int32) (m : pmM) (hag4 : ∀ s : Int32 × Int32 × pmM, pm_G l Γ zX0_wipeAll (d + 0) 4 [.ref l0, .int s.1, .int s.2.1] [] s.2.2 (again4 s)) : pm_G l Γ zX0_wipeAll (d + 0) 25 [.ref l0, pmU, .int l2] [.int t0, .int t1] m (X0_wipeAll_j25 again4 l0 l2 t0 t1 m) := by
  unfold X0_wipeAll_j25
  refine pm_ior dX0_wipeAll_25 ?_
  refine pm_bIn (fun x3 => ?_)
  refine pm_istore_n (ls2 := [.ref l0, .int x3, .int l2]) dX0_wipeAll_26 rfl rfl (Nat.le_of_ble_eq_true rfl) rfl ?_
  refine pm_aload_n dX0_wipeAll_27 rfl rfl ?_
  refine fg_0_2 (y := zX0_wipeAll) (Or.inl tw_360) dX0_wipeAll_28 (fun r4 => ?_)
  refine pm_iload_n dX0_wipeAll_31 rfl rfl ?_
  refine pm_iconst (v := 0) dX0_wipeAll_32 ki_0 ?_
  refine pm_iast (y := zX0_wipeAll) dX0_wipeAll_33 (fun m5 => ?_)
  refine pm_iincn (y := zX0_wipeAll) dX0_wipeAll_34 rfl ki_1 rfl (Nat.le_of_ble_eq_true rfl) (fun x6 => ?_)
  refine pm_eqls (ls2 := [.ref l0, .int x3, .int x6]) rfl ?_
  refine pm_goto (tgt := 4) dX0_wipeAll_37 rfl ?_
  exact hag4 (x3, x6, m5)
set_option maxRecDepth 100000 in
set_option maxHeartbeats 4000000 in
theorem gX0_wipeAll_L4 (hfl : l.flags = flags0) (l0 : Nat) : ∀ (n : Nat) (s : Int32 × Int32 × pmM), pm_G l Γ zX0_wipeAll (d + 0) 4 [.ref l0, .int s.1, .int s.2.1] [] s.2.2 (pm_lp n (X0_wipeAll_L4 l0) s) :=
  pm_loop (lsf := fun s : Int32 × Int32 × pmM => [.ref l0, .int s.1, .int s.2.1]) (mf := fun s : Int32 × Int32 × pmM => s.2.2) (fun again4 hag4 s4 => by
    unfold X0_wipeAll_L4
    refine pm_iload_n dX0_wipeAll_4 rfl rfl ?_
    refine pm_bipush (v := 6) dX0_wipeAll_5 kb_6 ?_
    refine pm_icmp_ge (tgt := 40) dX0_wipeAll_7 rfl ?_ ?_
    · refine pm_iload_n dX0_wipeAll_40 rfl rfl ?_
      exact pm_nret (ty := .boolean) (w := vp_nar .boolean s4.1) rfl (by decide) rfl dX0_wipeAll_41
    · refine pm_iload_n dX0_wipeAll_10 rfl rfl ?_
      refine pm_aload_n dX0_wipeAll_11 rfl rfl ?_
      refine fg_0_2 (y := zX0_wipeAll) (Or.inl tw_360) dX0_wipeAll_12 (fun r1 => ?_)
      refine pm_iload_n dX0_wipeAll_15 rfl rfl ?_
      refine pm_iald (y := zX0_wipeAll) dX0_wipeAll_16 (fun x2 => ?_)
      refine pm_if_eq (tgt := 24) dX0_wipeAll_17 rfl ?_ ?_
      · refine pm_iconst (v := 0) dX0_wipeAll_24 ki_0 ?_
        refine pm_drop (ls2 := [.ref l0, pmU, .int s4.2.1]) (Nat.le_refl _) (pm_le_spec (pm_le_v (pm_le_u (pm_le_v (pm_le_n))))) ?_
        exact gX0_wipeAll_j25 hfl again4 l0 s4.2.1 0 s4.1 s4.2.2 hag4
      · refine pm_iconst (v := 1) dX0_wipeAll_20 ki_1 ?_
        refine pm_goto (tgt := 25) dX0_wipeAll_21 rfl ?_
        refine pm_drop (ls2 := [.ref l0, pmU, .int s4.2.1]) (Nat.le_refl _) (pm_le_spec (pm_le_v (pm_le_u (pm_le_v (pm_le_n))))) ?_
        exact gX0_wipeAll_j25 hfl again4 l0 s4.2.1 1 s4.1 s4.2.2 hag4)
set_option maxRecDepth 100000 in
set_option maxHeartbeats 4000000 in
theorem kcX0_wipeAll (hfl : l.flags = flags0) (a0 : Nat) (m : pmM) : pm_C l Γ zX0_wipeAll (d + 0) [.ref a0] m (X0_wipeAll a0 m) := by
  refine pm_enter (ls := [.ref a0, pmU, pmU]) hfl (by decide +kernel) rfl (Nat.le_of_ble_eq_true rfl) rfl (Nat.le_of_ble_eq_true rfl) ?_
  unfold X0_wipeAll
  refine pm_iconst (v := 0) dX0_wipeAll_0 ki_0 ?_
  refine pm_istore_n (ls2 := [.ref a0, .int 0, pmU]) dX0_wipeAll_1 rfl rfl (Nat.le_of_ble_eq_true rfl) rfl ?_
  refine pm_iconst (v := 0) dX0_wipeAll_2 ki_0 ?_
  refine pm_istore_n (ls2 := [.ref a0, .int 0, .int 0]) dX0_wipeAll_3 rfl rfl (Nat.le_of_ble_eq_true rfl) rfl ?_
  exact gX0_wipeAll_L4 hfl a0 pm_N (0, 0, m)
-- StruckPage$Desk.setCell(II)Z
def X0_setCell_j19 (m : pmM) : pmR := pm_oI 0 m
def X0_setCell (a0 : Nat) (a1 : Int32) (a2 : Int32) (m : pmM) : pmR := if a1 < 0 then (X0_setCell_j19 m) else (if (4 : Int32) ≤ a1 then (X0_setCell_j19 m) else (pm_gR 0 a0 3 m fun r1 => pm_ld 100 r1 a1 m fun x2 => if x2 = a2 then (X0_setCell_j19 m) else (pm_gR 0 a0 3 m fun r3 => pm_st 100 r3 a1 a2 m fun m4 => pm_oI 1 m4)))
set_option maxRecDepth 100000 in
set_option maxHeartbeats 4000000 in
theorem gX0_setCell_j19 (hfl : l.flags = flags0) (m : pmM) : pm_G l Γ zX0_setCell (d + 0) 19 [pmU, pmU, pmU] [] m (X0_setCell_j19 m) := by
  unfold X0_setCell_j19
  refine pm_iconst (v := 0) dX0_setCell_19 ki_0 ?_
  exact pm_nret (ty := .boolean) (w := 0) rfl (by decide) (by decide) dX0_setCell_20
set_option maxRecDepth 100000 in
set_option maxHeartbeats 4000000 in
theorem kcX0_setCell (hfl : l.flags = flags0) (a0 : Nat) (a1 : Int32) (a2 : Int32) (m : pmM) : pm_C l Γ zX0_setCell (d + 0) [.ref a0, .int a1, .int a2] m (X0_setCell a0 a1 a2 m) := by
  refine pm_enter (ls := [.ref a0, .int a1, .int a2]) hfl (by decide +kernel) rfl (Nat.le_of_ble_eq_true rfl) rfl (Nat.le_of_ble_eq_true rfl) ?_
  unfold X0_setCell
  refine pm_iload_n dX0_setCell_0 rfl rfl ?_
  refine pm_if_lt (tgt := 19) dX0_setCell_1 rfl ?_ ?_
  · refine pm_drop (ls2 := [pmU, pmU, pmU]) (Nat.le_refl _) (pm_le_spec (pm_le_u (pm_le_u (pm_le_u (pm_le_n))))) ?_
    exact gX0_setCell_j19 hfl m
  · refine pm_iload_n dX0_setCell_4 rfl rfl ?_
    refine pm_iconst (v := 4) dX0_setCell_5 ki_4 ?_
    refine pm_icmp_ge (tgt := 19) dX0_setCell_6 rfl ?_ ?_
    · refine pm_drop (ls2 := [pmU, pmU, pmU]) (Nat.le_refl _) (pm_le_spec (pm_le_u (pm_le_u (pm_le_u (pm_le_n))))) ?_
      exact gX0_setCell_j19 hfl m
    · refine pm_aload_n dX0_setCell_9 rfl rfl ?_
      refine fg_0_3 (y := zX0_setCell) (Or.inl tw_362) dX0_setCell_10 (fun r1 => ?_)
      refine pm_iload_n dX0_setCell_13 rfl rfl ?_
      refine pm_iald (y := zX0_setCell) dX0_setCell_14 (fun x2 => ?_)
      refine pm_iload_n dX0_setCell_15 rfl rfl ?_
      refine pm_icmp_ne (tgt := 21) dX0_setCell_16 rfl ?_ ?_
      · refine pm_aload_n dX0_setCell_21 rfl rfl ?_
        refine fg_0_3 (y := zX0_setCell) (Or.inl tw_362) dX0_setCell_22 (fun r3 => ?_)
        refine pm_iload_n dX0_setCell_25 rfl rfl ?_
        refine pm_iload_n dX0_setCell_26 rfl rfl ?_
        refine pm_iast (y := zX0_setCell) dX0_setCell_27 (fun m4 => ?_)
        refine pm_iconst (v := 1) dX0_setCell_28 ki_1 ?_
        exact pm_nret (ty := .boolean) (w := 1) rfl (by decide) (by decide) dX0_setCell_29
      · refine pm_drop (ls2 := [pmU, pmU, pmU]) (Nat.le_refl _) (pm_le_spec (pm_le_u (pm_le_u (pm_le_u (pm_le_n))))) ?_
        exact gX0_setCell_j19 hfl m
-- StruckPage$Desk.drawnBy(I)I
def X0_drawnBy_j36 (t0 : Int32) (m : pmM) : pmR := pm_oI t0 m
def X0_drawnBy (a0 : Nat) (a1 : Int32) (m : pmM) : pmR := pm_gI 0 a0 8 m fun x1 => pm_pI 0 a0 8 ((x1 * 1103515245) + 12345) m fun m2 => if a1 ≤ 0 then (X0_drawnBy_j36 0 m2) else (pm_gI 0 a0 8 m2 fun x3 => if a1 = 0 then none else X0_drawnBy_j36 ((((x3.toUInt32 >>> ((16 : Int32).toUInt32 &&& Int32.toUInt32 31)).toInt32) &&& 32767) - (((x3.toUInt32 >>> ((16 : Int32).toUInt32 &&& Int32.toUInt32 31)).toInt32) &&& 32767) / a1 * a1) m2)
set_option maxRecDepth 100000 in
set_option maxHeartbeats 4000000 in
theorem gX0_drawnBy_j36 (hfl : l.flags = flags0) (t0 : Int32) (m : pmM) : pm_G l Γ zX0_drawnBy (d + 0) 36 [pmU, pmU] [.int t0] m (X0_drawnBy_j36 t0 m) := by
  unfold X0_drawnBy_j36
  exact pm_iret rfl dX0_drawnBy_36
set_option maxRecDepth 100000 in
set_option maxHeartbeats 4000000 in
theorem kcX0_drawnBy (hfl : l.flags = flags0) (a0 : Nat) (a1 : Int32) (m : pmM) : pm_C l Γ zX0_drawnBy (d + 0) [.ref a0, .int a1] m (X0_drawnBy a0 a1 m) := by
  refine pm_enter (ls := [.ref a0, .int a1]) hfl (by decide +kernel) rfl (Nat.le_of_ble_eq_true rfl) rfl (Nat.le_of_ble_eq_true rfl) ?_
  unfold X0_drawnBy
  refine pm_aload_n dX0_drawnBy_0 rfl rfl ?_
  refine pm_aload_n dX0_drawnBy_1 rfl rfl ?_
  refine fg_0_8 (y := zX0_drawnBy) (Or.inl tw_372) dX0_drawnBy_2 (fun x1 => ?_)
  refine pm_ldc (y := zX0_drawnBy) dX0_drawnBy_5 tw_1333 ?_
  refine pm_imul dX0_drawnBy_7 ?_
  refine pm_sipush (v := 12345) dX0_drawnBy_8 ks_12345 ?_
  refine pm_iadd dX0_drawnBy_11 ?_
  refine fp_0_8 (y := zX0_drawnBy) (Or.inl tw_372) dX0_drawnBy_12 (fun m2 => ?_)
  refine pm_iload_n dX0_drawnBy_15 rfl rfl ?_
  refine pm_if_le (tgt := 35) dX0_drawnBy_16 rfl ?_ ?_
  · refine pm_iconst (v := 0) dX0_drawnBy_35 ki_0 ?_
    refine pm_drop (ls2 := [pmU, pmU]) (Nat.le_refl _) (pm_le_spec (pm_le_u (pm_le_u (pm_le_n)))) ?_
    exact gX0_drawnBy_j36 hfl 0 m2
  · refine pm_aload_n dX0_drawnBy_19 rfl rfl ?_
    refine fg_0_8 (y := zX0_drawnBy) (Or.inl tw_372) dX0_drawnBy_20 (fun x3 => ?_)
    refine pm_bipush (v := 16) dX0_drawnBy_23 kb_16 ?_
    refine pm_iushr dX0_drawnBy_25 ?_
    refine pm_sipush (v := 32767) dX0_drawnBy_26 ks_32767 ?_
    refine pm_iand dX0_drawnBy_29 ?_
    refine pm_iload_n dX0_drawnBy_30 rfl rfl ?_
    refine pm_irem dX0_drawnBy_31 ?_
    refine pm_goto (tgt := 36) dX0_drawnBy_32 rfl ?_
    refine pm_drop (ls2 := [pmU, pmU]) (Nat.le_refl _) (pm_le_spec (pm_le_u (pm_le_u (pm_le_n)))) ?_
    exact gX0_drawnBy_j36 hfl ((((x3.toUInt32 >>> ((16 : Int32).toUInt32 &&& Int32.toUInt32 31)).toInt32) &&& 32767) - (((x3.toUInt32 >>> ((16 : Int32).toUInt32 &&& Int32.toUInt32 31)).toInt32) &&& 32767) / a1 * a1) m2
-- StruckPage$Desk.playHand(III)V
def X0_playHand_j119 (m : pmM) : pmR := pm_oV m
def X0_playHand_j113 (again8 : (Int32 × pmM) → pmR) (l0 : Nat) (l2 : Int32) (l3 : Int32) (l4 : Int32) (m : pmM) : pmR := pm_bI (l4 + 1) fun x22 => again8 (x22, m)
def X0_playHand_L8 (l0 : Nat) (l2 : Int32) (l3 : Int32) (again8 : (Int32 × pmM) → pmR) (s8 : Int32 × pmM) : pmR := if l2 ≤ s8.1 then (X0_playHand_j119 s8.2) else (pm_gR 0 l0 0 s8.2 fun r2 => pm_gI 2 r2 3 s8.2 fun x3 => if x3 ≤ 0 then (X0_playHand_j119 s8.2) else (pm_gR 0 l0 0 s8.2 fun r4 => pm_gI 2 r4 3 s8.2 fun x5 => pm_rc 0 l0 s8.2 <| pm_cI (X0_drawnBy l0 x5 s8.2) fun x7 m6 => pm_gR 0 l0 0 m6 fun r8 => pm_gR 2 r8 0 m6 fun r9 => pm_ld 100 r9 x7 m6 fun x10 => pm_rc 0 l0 m6 <| pm_cI (X0_drawnBy l0 x10 m6) fun x12 m11 => pm_gR 0 l0 0 m11 fun r13 => pm_gR 2 r13 0 m11 fun r14 => pm_ld 100 r14 x7 m11 fun x15 => pm_rc 0 l0 m11 <| pm_cI (X0_drawnBy l0 x15 m11) fun x17 m16 => pm_rc 0 l0 m16 <| pm_cI (X0_strike l0 x7 (if x17 < x12 then x17 else x12) (if x12 < x17 then x17 else x12) m16) fun x19 m18 => pm_rc 0 l0 m18 <| pm_cI (X0_drawnBy l0 16 m18) fun x21 m20 => if l3 ≤ x21 then (X0_playHand_j113 again8 l0 l2 l3 s8.1 m20) else (pm_rc 0 l0 m20 <| pm_cI (X0_runOn l0 3 m20) fun x24 m23 => if x24 = 0 then (pm_rc 0 l0 m23 <| pm_cI (X0_beginAgain l0 m23) fun x26 m25 => X0_playHand_j113 again8 l0 l2 l3 s8.1 m25) else (X0_playHand_j113 again8 l0 l2 l3 s8.1 m23))))
def X0_playHand (a0 : Nat) (a1 : Int32) (a2 : Int32) (a3 : Int32) (m : pmM) : pmR := pm_pI 0 a0 8 a1 m fun m1 => pm_lp pm_N (X0_playHand_L8 a0 a2 a3) (0, m1)
set_option maxRecDepth 100000 in
set_option maxHeartbeats 4000000 in
theorem gX0_playHand_j119 (hfl : l.flags = flags0) (m : pmM) : pm_G l Γ zX0_playHand (d + 4) 119 [pmU, pmU, pmU, pmU, pmU, pmU, pmU, pmU] [] m (X0_playHand_j119 m) := by
  unfold X0_playHand_j119
  exact pm_vret rfl dX0_playHand_119
set_option maxRecDepth 100000 in
set_option maxHeartbeats 4000000 in
theorem gX0_playHand_j113 (hfl : l.flags = flags0) (again8 : (Int32 × pmM) → pmR) (l0 : Nat) (l2 : Int32) (l3 : Int32) (l4 : Int32) (m : pmM) (hag8 : ∀ s : Int32 × pmM, pm_G l Γ zX0_playHand (d + 4) 8 [.ref l0, pmU, .int l2, .int l3, .int s.1, pmU, pmU, pmU] [] s.2 (again8 s)) : pm_G l Γ zX0_playHand (d + 4) 113 [.ref l0, pmU, .int l2, .int l3, .int l4, pmU, pmU, pmU] [] m (X0_playHand_j113 again8 l0 l2 l3 l4 m) := by
  unfold X0_playHand_j113
  refine pm_iincn (y := zX0_playHand) dX0_playHand_113 rfl ki_1 rfl (Nat.le_of_ble_eq_true rfl) (fun x22 => ?_)
  refine pm_eqls (ls2 := [.ref l0, pmU, .int l2, .int l3, .int x22, pmU, pmU, pmU]) rfl ?_
  refine pm_goto (tgt := 8) dX0_playHand_116 rfl ?_
  exact hag8 (x22, m)
set_option maxRecDepth 100000 in
set_option maxHeartbeats 4000000 in
theorem gX0_playHand_L8 (hfl : l.flags = flags0) (l0 : Nat) (l2 : Int32) (l3 : Int32) : ∀ (n : Nat) (s : Int32 × pmM), pm_G l Γ zX0_playHand (d + 4) 8 [.ref l0, pmU, .int l2, .int l3, .int s.1, pmU, pmU, pmU] [] s.2 (pm_lp n (X0_playHand_L8 l0 l2 l3) s) :=
  pm_loop (lsf := fun s : Int32 × pmM => [.ref l0, pmU, .int l2, .int l3, .int s.1, pmU, pmU, pmU]) (mf := fun s : Int32 × pmM => s.2) (fun again8 hag8 s8 => by
    unfold X0_playHand_L8
    refine pm_iload dX0_playHand_8 rfl ?_
    refine pm_iload_n dX0_playHand_10 rfl rfl ?_
    refine pm_icmp_ge (tgt := 119) dX0_playHand_11 rfl ?_ ?_
    · refine pm_drop (ls2 := [pmU, pmU, pmU, pmU, pmU, pmU, pmU, pmU]) (Nat.le_refl _) (pm_le_spec (pm_le_u (pm_le_u (pm_le_u (pm_le_u (pm_le_u (pm_le_u (pm_le_u (pm_le_u (pm_le_n)))))))))) ?_
      exact gX0_playHand_j119 hfl s8.2
    · refine pm_aload_n dX0_playHand_14 rfl rfl ?_
      refine fg_0_0 (y := zX0_playHand) (Or.inl tw_358) dX0_playHand_15 (fun r2 => ?_)
      refine fg_2_3 (y := zX0_playHand) (Or.inr tw_247) dX0_playHand_18 (fun x3 => ?_)
      refine pm_if_le (tgt := 119) dX0_playHand_21 rfl ?_ ?_
      · refine pm_drop (ls2 := [pmU, pmU, pmU, pmU, pmU, pmU, pmU, pmU]) (Nat.le_refl _) (pm_le_spec (pm_le_u (pm_le_u (pm_le_u (pm_le_u (pm_le_u (pm_le_u (pm_le_u (pm_le_u (pm_le_n)))))))))) ?_
        exact gX0_playHand_j119 hfl s8.2
      · refine pm_aload_n dX0_playHand_24 rfl rfl ?_
        refine pm_aload_n dX0_playHand_25 rfl rfl ?_
        refine fg_0_0 (y := zX0_playHand) (Or.inl tw_358) dX0_playHand_26 (fun r4 => ?_)
        refine fg_2_3 (y := zX0_playHand) (Or.inr tw_247) dX0_playHand_29 (fun x5 => ?_)
        refine pm_rcv (fun hb9 hc9 => ?_)
        refine pm_kI (d := d + 3) rfl (pm_V (y := zX0_playHand) (z := zX0_drawnBy) (As := [.int x5]) zkX0_drawnBy pm_q0 (by decide) tw_1329 tw_1331 tw_96 dX0_playHand_32 rfl rfl (Nat.le_of_ble_eq_true rfl) hb9 hc9) (kcX0_drawnBy (d := d + 3) hfl l0 x5 s8.2) (fun x7 m6 => ?_)
        refine pm_istore (ls2 := [.ref l0, pmU, .int l2, .int l3, .int s8.1, .int x7, pmU, pmU]) dX0_playHand_35 rfl (Nat.le_of_ble_eq_true rfl) rfl ?_
        refine pm_aload_n dX0_playHand_37 rfl rfl ?_
        refine pm_aload_n dX0_playHand_38 rfl rfl ?_
        refine fg_0_0 (y := zX0_playHand) (Or.inl tw_358) dX0_playHand_39 (fun r8 => ?_)
        refine fg_2_0 (y := zX0_playHand) (Or.inr tw_239) dX0_playHand_42 (fun r9 => ?_)
        refine pm_iload dX0_playHand_45 rfl ?_
        refine pm_iald (y := zX0_playHand) dX0_playHand_47 (fun x10 => ?_)
        refine pm_rcv (fun hb9 hc9 => ?_)
        refine pm_kI (d := d + 3) rfl (pm_V (y := zX0_playHand) (z := zX0_drawnBy) (As := [.int x10]) zkX0_drawnBy pm_q0 (by decide) tw_1329 tw_1331 tw_96 dX0_playHand_48 rfl rfl (Nat.le_of_ble_eq_true rfl) hb9 hc9) (kcX0_drawnBy (d := d + 3) hfl l0 x10 m6) (fun x12 m11 => ?_)
        refine pm_istore (ls2 := [.ref l0, pmU, .int l2, .int l3, .int s8.1, .int x7, .int x12, pmU]) dX0_playHand_51 rfl (Nat.le_of_ble_eq_true rfl) rfl ?_
        refine pm_aload_n dX0_playHand_53 rfl rfl ?_
        refine pm_aload_n dX0_playHand_54 rfl rfl ?_
        refine fg_0_0 (y := zX0_playHand) (Or.inl tw_358) dX0_playHand_55 (fun r13 => ?_)
        refine fg_2_0 (y := zX0_playHand) (Or.inr tw_239) dX0_playHand_58 (fun r14 => ?_)
        refine pm_iload dX0_playHand_61 rfl ?_
        refine pm_iald (y := zX0_playHand) dX0_playHand_63 (fun x15 => ?_)
        refine pm_rcv (fun hb9 hc9 => ?_)
        refine pm_kI (d := d + 3) rfl (pm_V (y := zX0_playHand) (z := zX0_drawnBy) (As := [.int x15]) zkX0_drawnBy pm_q0 (by decide) tw_1329 tw_1331 tw_96 dX0_playHand_64 rfl rfl (Nat.le_of_ble_eq_true rfl) hb9 hc9) (kcX0_drawnBy (d := d + 3) hfl l0 x15 m11) (fun x17 m16 => ?_)
        refine pm_istore (ls2 := [.ref l0, pmU, .int l2, .int l3, .int s8.1, .int x7, .int x12, .int x17]) dX0_playHand_67 rfl (Nat.le_of_ble_eq_true rfl) rfl ?_
        refine pm_aload_n dX0_playHand_69 rfl rfl ?_
        refine pm_iload dX0_playHand_70 rfl ?_
        refine pm_iload dX0_playHand_72 rfl ?_
        refine pm_iload dX0_playHand_74 rfl ?_
        refine pm_min (y := zX0_playHand) tw_589 tw_590 tw_171 tw_591 dX0_playHand_76 (Nat.le_of_ble_eq_true rfl) ?_
        refine pm_iload dX0_playHand_79 rfl ?_
        refine pm_iload dX0_playHand_81 rfl ?_
        refine pm_max (y := zX0_playHand) tw_592 tw_593 tw_171 tw_594 dX0_playHand_83 (Nat.le_of_ble_eq_true rfl) ?_
        refine pm_rcv (fun hb9 hc9 => ?_)
        refine pm_kI (d := d + 3) rfl (pm_V (y := zX0_playHand) (z := zX0_strike) (As := [.int x7, .int (if x17 < x12 then x17 else x12), .int (if x12 < x17 then x17 else x12)]) zkX0_strike pm_q0 (by decide) tw_1334 tw_1003 tw_67 dX0_playHand_86 rfl rfl (Nat.le_of_ble_eq_true rfl) hb9 hc9) (kcX0_strike (d := d + 0) hfl l0 x7 (if x17 < x12 then x17 else x12) (if x12 < x17 then x17 else x12) m16) (fun x19 m18 => ?_)
        refine pm_pop dX0_playHand_89 rfl ?_
        refine pm_aload_n dX0_playHand_90 rfl rfl ?_
        refine pm_bipush (v := 16) dX0_playHand_91 kb_16 ?_
        refine pm_rcv (fun hb9 hc9 => ?_)
        refine pm_kI (d := d + 3) rfl (pm_V (y := zX0_playHand) (z := zX0_drawnBy) (As := [.int 16]) zkX0_drawnBy pm_q0 (by decide) tw_1329 tw_1331 tw_96 dX0_playHand_93 rfl rfl (Nat.le_of_ble_eq_true rfl) hb9 hc9) (kcX0_drawnBy (d := d + 3) hfl l0 16 m18) (fun x21 m20 => ?_)
        refine pm_iload_n dX0_playHand_96 rfl rfl ?_
        refine pm_icmp_ge (tgt := 113) dX0_playHand_97 rfl ?_ ?_
        · refine pm_drop (ls2 := [.ref l0, pmU, .int l2, .int l3, .int s8.1, pmU, pmU, pmU]) (Nat.le_refl _) (pm_le_spec (pm_le_v (pm_le_u (pm_le_v (pm_le_v (pm_le_v (pm_le_u (pm_le_u (pm_le_u (pm_le_n)))))))))) ?_
          exact gX0_playHand_j113 hfl again8 l0 l2 l3 s8.1 m20 hag8
        · refine pm_aload_n dX0_playHand_100 rfl rfl ?_
          refine pm_iconst (v := 3) dX0_playHand_101 ki_3 ?_
          refine pm_rcv (fun hb9 hc9 => ?_)
          refine pm_kI (d := d + 3) rfl (pm_V (y := zX0_playHand) (z := zX0_runOn) (As := [.int 3]) zkX0_runOn pm_q0 (by decide) tw_1335 tw_1023 tw_70 dX0_playHand_102 rfl rfl (Nat.le_of_ble_eq_true rfl) hb9 hc9) (kcX0_runOn (d := d + 0) hfl l0 3 m20) (fun x24 m23 => ?_)
          refine pm_if_ne (tgt := 113) dX0_playHand_105 rfl ?_ ?_
          · refine pm_drop (ls2 := [.ref l0, pmU, .int l2, .int l3, .int s8.1, pmU, pmU, pmU]) (Nat.le_refl _) (pm_le_spec (pm_le_v (pm_le_u (pm_le_v (pm_le_v (pm_le_v (pm_le_u (pm_le_u (pm_le_u (pm_le_n)))))))))) ?_
            exact gX0_playHand_j113 hfl again8 l0 l2 l3 s8.1 m23 hag8
          · refine pm_aload_n dX0_playHand_108 rfl rfl ?_
            refine pm_rcv (fun hb9 hc9 => ?_)
            refine pm_kI (d := d + 3) rfl (pm_V (y := zX0_playHand) (z := zX0_beginAgain) (As := []) zkX0_beginAgain pm_q0 (by decide) tw_1336 tw_1028 tw_71 dX0_playHand_109 rfl rfl (Nat.le_of_ble_eq_true rfl) hb9 hc9) (kcX0_beginAgain (d := d + 3) hfl l0 m23) (fun x26 m25 => ?_)
            refine pm_pop dX0_playHand_112 rfl ?_
            refine pm_drop (ls2 := [.ref l0, pmU, .int l2, .int l3, .int s8.1, pmU, pmU, pmU]) (Nat.le_refl _) (pm_le_spec (pm_le_v (pm_le_u (pm_le_v (pm_le_v (pm_le_v (pm_le_u (pm_le_u (pm_le_u (pm_le_n)))))))))) ?_
            exact gX0_playHand_j113 hfl again8 l0 l2 l3 s8.1 m25 hag8)
set_option maxRecDepth 100000 in
set_option maxHeartbeats 4000000 in
theorem kcX0_playHand (hfl : l.flags = flags0) (a0 : Nat) (a1 : Int32) (a2 : Int32) (a3 : Int32) (m : pmM) : pm_C l Γ zX0_playHand (d + 4) [.ref a0, .int a1, .int a2, .int a3] m (X0_playHand a0 a1 a2 a3 m) := by
  refine pm_enter (ls := [.ref a0, .int a1, .int a2, .int a3, pmU, pmU, pmU, pmU]) hfl (by decide +kernel) rfl (Nat.le_of_ble_eq_true rfl) rfl (Nat.le_of_ble_eq_true rfl) ?_
  unfold X0_playHand
  refine pm_aload_n dX0_playHand_0 rfl rfl ?_
  refine pm_iload_n dX0_playHand_1 rfl rfl ?_
  refine fp_0_8 (y := zX0_playHand) (Or.inl tw_372) dX0_playHand_2 (fun m1 => ?_)
  refine pm_iconst (v := 0) dX0_playHand_5 ki_0 ?_
  refine pm_istore (ls2 := [.ref a0, .int a1, .int a2, .int a3, .int 0, pmU, pmU, pmU]) dX0_playHand_6 rfl (Nat.le_of_ble_eq_true rfl) rfl ?_
  refine pm_drop (ls2 := [.ref a0, pmU, .int a2, .int a3, .int 0, pmU, pmU, pmU]) (Nat.le_refl _) (pm_le_spec (pm_le_v (pm_le_u (pm_le_v (pm_le_v (pm_le_v (pm_le_u (pm_le_u (pm_le_u (pm_le_n)))))))))) ?_
  exact gX0_playHand_L8 hfl a0 a2 a3 pm_N (0, m1)
-- StruckPage$Law.makePlain()V
def X1_makePlain (a0 : Nat) (m : pmM) : pmR := pm_gR 1 a0 0 m fun r1 => pm_len 100 1 m fun x2 => pm_cp 1 0 r1 0 x2 m fun m3 => pm_len 100 1 m3 fun x4 => pm_pI 1 a0 3 x4 m3 fun m5 => pm_oV m5
set_option maxRecDepth 100000 in
set_option maxHeartbeats 4000000 in
theorem kcX1_makePlain (hfl : l.flags = flags0) (a0 : Nat) (m : pmM) : pm_C l Γ zX1_makePlain (d + 0) [.ref a0] m (X1_makePlain a0 m) := by
  refine pm_enter (ls := [.ref a0]) hfl (by decide +kernel) rfl (Nat.le_of_ble_eq_true rfl) rfl (Nat.le_of_ble_eq_true rfl) ?_
  unfold X1_makePlain
  refine pm_gets (y := zX1_makePlain) (C := "StruckPage$Law") (n := "PLAIN") (ds := "[I") (v := .ref 1) (by decide +kernel) tw_276 dX1_makePlain_0 ?_
  refine pm_iconst (v := 0) dX1_makePlain_3 ki_0 ?_
  refine pm_aload_n dX1_makePlain_4 rfl rfl ?_
  refine fg_1_0 (y := zX1_makePlain) (Or.inl tw_281) dX1_makePlain_5 (fun r1 => ?_)
  refine pm_iconst (v := 0) dX1_makePlain_8 ki_0 ?_
  refine pm_gets (y := zX1_makePlain) (C := "StruckPage$Law") (n := "PLAIN") (ds := "[I") (v := .ref 1) (by decide +kernel) tw_276 dX1_makePlain_9 ?_
  refine pm_alen (y := zX1_makePlain) (kd := 100) (by decide) (by decide) dX1_makePlain_12 (fun x2 => ?_)
  refine pm_copy (y := zX1_makePlain) tw_278 tw_280 tw_279 tw_160 dX1_makePlain_13 (Nat.le_of_ble_eq_true rfl) (fun m3 => ?_)
  refine pm_aload_n dX1_makePlain_16 rfl rfl ?_
  refine pm_gets (y := zX1_makePlain) (C := "StruckPage$Law") (n := "PLAIN") (ds := "[I") (v := .ref 1) (by decide +kernel) tw_276 dX1_makePlain_17 ?_
  refine pm_alen (y := zX1_makePlain) (kd := 100) (by decide) (by decide) dX1_makePlain_20 (fun x4 => ?_)
  refine fp_1_3 (y := zX1_makePlain) (Or.inl tw_284) dX1_makePlain_21 (fun m5 => ?_)
  exact pm_vret rfl dX1_makePlain_24
-- StruckPage$Law.<init>()V
def X1_init (a0 : Nat) (m : pmM) : pmR := pm_na 100 150 m fun r1 m2 => pm_pR 1 a0 0 r1 m2 fun m3 => pm_na 100 22 m3 fun r4 m5 => pm_pR 1 a0 1 r4 m5 fun m6 => pm_na 100 7 m6 fun r7 m8 => pm_pR 1 a0 2 r7 m8 fun m9 => pm_rc 1 a0 m9 <| pm_cV (X1_makePlain a0 m9) fun m10 => pm_oV m10
set_option maxRecDepth 100000 in
set_option maxHeartbeats 4000000 in
theorem kcX1_init (hfl : l.flags = flags0) (a0 : Nat) (m : pmM) : pm_C l Γ zX1_init (d + 1) [.ref a0] m (X1_init a0 m) := by
  refine pm_enter (ls := [.ref a0]) hfl (by decide +kernel) rfl (Nat.le_of_ble_eq_true rfl) rfl (Nat.le_of_ble_eq_true rfl) ?_
  unfold X1_init
  refine pm_aload_n dX1_init_0 rfl rfl ?_
  refine pm_oinit (y := zX1_init) tw_271 tw_184 tw_185 dX1_init_1 (Nat.le_of_ble_eq_true rfl) ?_
  refine pm_aload_n dX1_init_4 rfl rfl ?_
  refine pm_sipush (v := 150) dX1_init_5 ks_150 ?_
  refine pm_newa (y := zX1_init) (atype := .int) (kd := 100) (by decide) tw_230 dX1_init_8 (fun r1 m2 => ?_)
  refine fp_1_0 (y := zX1_init) ⟨tw_281, rfl⟩ dX1_init_10 (fun m3 => ?_)
  refine pm_aload_n dX1_init_13 rfl rfl ?_
  refine pm_bipush (v := 22) dX1_init_14 kb_22 ?_
  refine pm_newa (y := zX1_init) (atype := .int) (kd := 100) (by decide) tw_230 dX1_init_16 (fun r4 m5 => ?_)
  refine fp_1_1 (y := zX1_init) ⟨tw_282, rfl⟩ dX1_init_18 (fun m6 => ?_)
  refine pm_aload_n dX1_init_21 rfl rfl ?_
  refine pm_bipush (v := 7) dX1_init_22 kb_7 ?_
  refine pm_newa (y := zX1_init) (atype := .int) (kd := 100) (by decide) tw_230 dX1_init_24 (fun r7 m8 => ?_)
  refine fp_1_2 (y := zX1_init) ⟨tw_283, rfl⟩ dX1_init_26 (fun m9 => ?_)
  refine pm_aload_n dX1_init_29 rfl rfl ?_
  refine pm_rcv (fun hb9 hc9 => ?_)
  refine pm_kV (d := d + 0) rfl (pm_V (y := zX1_init) (z := zX1_makePlain) (As := []) zkX1_makePlain pm_q1 (by decide) tw_272 tw_274 tw_0 dX1_init_30 rfl rfl (Nat.le_of_ble_eq_true rfl) hb9 hc9) (kcX1_makePlain (d := d + 0) hfl a0 m9) (fun m10 => ?_)
  exact pm_vret rfl dX1_init_33
-- StruckPage$Law.takeOver(LStruckPage$Law;)V
def X1_takeOver (a0 : Nat) (a1 : Nat) (m : pmM) : pmR := pm_gR 1 a1 0 m fun r1 => pm_gR 1 a0 0 m fun r2 => pm_cp r1 0 r2 0 150 m fun m3 => pm_gI 1 a1 3 m3 fun x4 => pm_pI 1 a0 3 x4 m3 fun m5 => pm_oV m5
set_option maxRecDepth 100000 in
set_option maxHeartbeats 4000000 in
theorem kcX1_takeOver (hfl : l.flags = flags0) (a0 : Nat) (a1 : Nat) (m : pmM) : pm_C l Γ zX1_takeOver (d + 0) [.ref a0, .ref a1] m (X1_takeOver a0 a1 m) := by
  refine pm_enter (ls := [.ref a0, .ref a1]) hfl (by decide +kernel) rfl (Nat.le_of_ble_eq_true rfl) rfl (Nat.le_of_ble_eq_true rfl) ?_
  unfold X1_takeOver
  refine pm_aload_n dX1_takeOver_0 rfl rfl ?_
  refine fg_1_0 (y := zX1_takeOver) (Or.inl tw_281) dX1_takeOver_1 (fun r1 => ?_)
  refine pm_iconst (v := 0) dX1_takeOver_4 ki_0 ?_
  refine pm_aload_n dX1_takeOver_5 rfl rfl ?_
  refine fg_1_0 (y := zX1_takeOver) (Or.inl tw_281) dX1_takeOver_6 (fun r2 => ?_)
  refine pm_iconst (v := 0) dX1_takeOver_9 ki_0 ?_
  refine pm_sipush (v := 150) dX1_takeOver_10 ks_150 ?_
  refine pm_copy (y := zX1_takeOver) tw_278 tw_280 tw_279 tw_160 dX1_takeOver_13 (Nat.le_of_ble_eq_true rfl) (fun m3 => ?_)
  refine pm_aload_n dX1_takeOver_16 rfl rfl ?_
  refine pm_aload_n dX1_takeOver_17 rfl rfl ?_
  refine fg_1_3 (y := zX1_takeOver) (Or.inl tw_284) dX1_takeOver_18 (fun x4 => ?_)
  refine fp_1_3 (y := zX1_takeOver) (Or.inl tw_284) dX1_takeOver_21 (fun m5 => ?_)
  exact pm_vret rfl dX1_takeOver_24
-- StruckPage$Text.peek()I
def X7_peek_j62 (t0 : Int32) (m : pmM) : pmR := pm_oI t0 m
def X7_peek_j38 (l0 : Nat) (m : pmM) : pmR := pm_gI 7 l0 3 m fun x3 => pm_gI 7 l0 2 m fun x4 => if x4 ≤ x3 then (X7_peek_j62 (-1) m) else (pm_gR 7 l0 0 m fun r5 => pm_gI 7 l0 3 m fun x6 => pm_ld 100 r5 x6 m fun x7 => X7_peek_j62 x7 m)
def X7_peek_L0 (l0 : Nat) (again0 : (pmM) → pmR) (s0 : pmM) : pmR := pm_gI 7 l0 3 s0 fun x1 => pm_gI 7 l0 2 s0 fun x2 => if x2 ≤ x1 then (X7_peek_j38 l0 s0) else (pm_gR 7 l0 0 s0 fun r8 => pm_gI 7 l0 3 s0 fun x9 => pm_ld 100 r8 x9 s0 fun x10 => if x10 = 32 then (pm_gI 7 l0 3 s0 fun x11 => pm_pI 7 l0 3 (x11 + 1) s0 fun m12 => again0 m12) else (X7_peek_j38 l0 s0))
def X7_peek (a0 : Nat) (m : pmM) : pmR := pm_lp pm_N (X7_peek_L0 a0) m
set_option maxRecDepth 100000 in
set_option maxHeartbeats 4000000 in
theorem gX7_peek_j62 (hfl : l.flags = flags0) (t0 : Int32) (m : pmM) : pm_G l Γ zX7_peek (d + 0) 62 [pmU] [.int t0] m (X7_peek_j62 t0 m) := by
  unfold X7_peek_j62
  exact pm_iret rfl dX7_peek_62
set_option maxRecDepth 100000 in
set_option maxHeartbeats 4000000 in
theorem gX7_peek_j38 (hfl : l.flags = flags0) (l0 : Nat) (m : pmM) : pm_G l Γ zX7_peek (d + 0) 38 [.ref l0] [] m (X7_peek_j38 l0 m) := by
  unfold X7_peek_j38
  refine pm_aload_n dX7_peek_38 rfl rfl ?_
  refine fg_7_3 (y := zX7_peek) (Or.inl tw_197) dX7_peek_39 (fun x3 => ?_)
  refine pm_aload_n dX7_peek_42 rfl rfl ?_
  refine fg_7_2 (y := zX7_peek) (Or.inl tw_195) dX7_peek_43 (fun x4 => ?_)
  refine pm_icmp_ge (tgt := 61) dX7_peek_46 rfl ?_ ?_
  · refine pm_iconst (v := (-1)) dX7_peek_61 ki_n1 ?_
    refine pm_drop (ls2 := [pmU]) (Nat.le_refl _) (pm_le_spec (pm_le_u (pm_le_n))) ?_
    exact gX7_peek_j62 hfl (-1) m
  · refine pm_aload_n dX7_peek_49 rfl rfl ?_
    refine fg_7_0 (y := zX7_peek) (Or.inl tw_192) dX7_peek_50 (fun r5 => ?_)
    refine pm_aload_n dX7_peek_53 rfl rfl ?_
    refine fg_7_3 (y := zX7_peek) (Or.inl tw_197) dX7_peek_54 (fun x6 => ?_)
    refine pm_iald (y := zX7_peek) dX7_peek_57 (fun x7 => ?_)
    refine pm_goto (tgt := 62) dX7_peek_58 rfl ?_
    refine pm_drop (ls2 := [pmU]) (Nat.le_refl _) (pm_le_spec (pm_le_u (pm_le_n))) ?_
    exact gX7_peek_j62 hfl x7 m
set_option maxRecDepth 100000 in
set_option maxHeartbeats 4000000 in
theorem gX7_peek_L0 (hfl : l.flags = flags0) (l0 : Nat) : ∀ (n : Nat) (s : pmM), pm_G l Γ zX7_peek (d + 0) 0 [.ref l0] [] s (pm_lp n (X7_peek_L0 l0) s) :=
  pm_loop (lsf := fun s : pmM => [.ref l0]) (mf := fun s : pmM => s) (fun again0 hag0 s0 => by
    unfold X7_peek_L0
    refine pm_aload_n dX7_peek_0 rfl rfl ?_
    refine fg_7_3 (y := zX7_peek) (Or.inl tw_197) dX7_peek_1 (fun x1 => ?_)
    refine pm_aload_n dX7_peek_4 rfl rfl ?_
    refine fg_7_2 (y := zX7_peek) (Or.inl tw_195) dX7_peek_5 (fun x2 => ?_)
    refine pm_icmp_ge (tgt := 38) dX7_peek_8 rfl ?_ ?_
    · exact gX7_peek_j38 hfl l0 s0
    · refine pm_aload_n dX7_peek_11 rfl rfl ?_
      refine fg_7_0 (y := zX7_peek) (Or.inl tw_192) dX7_peek_12 (fun r8 => ?_)
      refine pm_aload_n dX7_peek_15 rfl rfl ?_
      refine fg_7_3 (y := zX7_peek) (Or.inl tw_197) dX7_peek_16 (fun x9 => ?_)
      refine pm_iald (y := zX7_peek) dX7_peek_19 (fun x10 => ?_)
      refine pm_bipush (v := 32) dX7_peek_20 kb_32 ?_
      refine pm_icmp_ne (tgt := 38) dX7_peek_22 rfl ?_ ?_
      · exact gX7_peek_j38 hfl l0 s0
      · refine pm_aload_n dX7_peek_25 rfl rfl ?_
        refine pm_dup dX7_peek_26 rfl ?_
        refine fg_7_3 (y := zX7_peek) (Or.inl tw_197) dX7_peek_27 (fun x11 => ?_)
        refine pm_iconst (v := 1) dX7_peek_30 ki_1 ?_
        refine pm_iadd dX7_peek_31 ?_
        refine fp_7_3 (y := zX7_peek) (Or.inl tw_197) dX7_peek_32 (fun m12 => ?_)
        refine pm_goto (tgt := 0) dX7_peek_35 rfl ?_
        exact hag0 m12)
set_option maxRecDepth 100000 in
set_option maxHeartbeats 4000000 in
theorem kcX7_peek (hfl : l.flags = flags0) (a0 : Nat) (m : pmM) : pm_C l Γ zX7_peek (d + 0) [.ref a0] m (X7_peek a0 m) := by
  refine pm_enter (ls := [.ref a0]) hfl (by decide +kernel) rfl (Nat.le_of_ble_eq_true rfl) rfl (Nat.le_of_ble_eq_true rfl) ?_
  unfold X7_peek
  exact gX7_peek_L0 hfl a0 pm_N m
-- StruckPage$Text.isAtDigit()Z
def X7_isAtDigit_j22 (t0 : Int32) (m : pmM) : pmR := pm_oI (vp_nar .boolean t0) m
def X7_isAtDigit_j21 (m : pmM) : pmR := X7_isAtDigit_j22 0 m
def X7_isAtDigit (a0 : Nat) (m : pmM) : pmR := pm_rc 7 a0 m <| pm_cI (X7_peek a0 m) fun x2 m1 => if x2 < 48 then (X7_isAtDigit_j21 m1) else (if (57 : Int32) < x2 then (X7_isAtDigit_j21 m1) else (X7_isAtDigit_j22 1 m1))
set_option maxRecDepth 100000 in
set_option maxHeartbeats 4000000 in
theorem gX7_isAtDigit_j22 (hfl : l.flags = flags0) (t0 : Int32) (m : pmM) : pm_G l Γ zX7_isAtDigit (d + 1) 22 [pmU, pmU] [.int t0] m (X7_isAtDigit_j22 t0 m) := by
  unfold X7_isAtDigit_j22
  exact pm_nret (ty := .boolean) (w := vp_nar .boolean t0) rfl (by decide) rfl dX7_isAtDigit_22
set_option maxRecDepth 100000 in
set_option maxHeartbeats 4000000 in
theorem gX7_isAtDigit_j21 (hfl : l.flags = flags0) (m : pmM) : pm_G l Γ zX7_isAtDigit (d + 1) 21 [pmU, pmU] [] m (X7_isAtDigit_j21 m) := by
  unfold X7_isAtDigit_j21
  refine pm_iconst (v := 0) dX7_isAtDigit_21 ki_0 ?_
  exact gX7_isAtDigit_j22 hfl 0 m
set_option maxRecDepth 100000 in
set_option maxHeartbeats 4000000 in
theorem kcX7_isAtDigit (hfl : l.flags = flags0) (a0 : Nat) (m : pmM) : pm_C l Γ zX7_isAtDigit (d + 1) [.ref a0] m (X7_isAtDigit a0 m) := by
  refine pm_enter (ls := [.ref a0, pmU]) hfl (by decide +kernel) rfl (Nat.le_of_ble_eq_true rfl) rfl (Nat.le_of_ble_eq_true rfl) ?_
  unfold X7_isAtDigit
  refine pm_aload_n dX7_isAtDigit_0 rfl rfl ?_
  refine pm_rcv (fun hb9 hc9 => ?_)
  refine pm_kI (d := d + 0) rfl (pm_V (y := zX7_isAtDigit) (z := zX7_peek) (As := []) zkX7_peek pm_q7 (by decide) tw_780 tw_766 tw_34 dX7_isAtDigit_1 rfl rfl (Nat.le_of_ble_eq_true rfl) hb9 hc9) (kcX7_peek (d := d + 0) hfl a0 m) (fun x2 m1 => ?_)
  refine pm_istore_n (ls2 := [.ref a0, .int x2]) dX7_isAtDigit_4 rfl rfl (Nat.le_of_ble_eq_true rfl) rfl ?_
  refine pm_iload_n dX7_isAtDigit_5 rfl rfl ?_
  refine pm_bipush (v := 48) dX7_isAtDigit_6 kb_48 ?_
  refine pm_icmp_lt (tgt := 21) dX7_isAtDigit_8 rfl ?_ ?_
  · refine pm_drop (ls2 := [pmU, pmU]) (Nat.le_refl _) (pm_le_spec (pm_le_u (pm_le_u (pm_le_n)))) ?_
    exact gX7_isAtDigit_j21 hfl m1
  · refine pm_iload_n dX7_isAtDigit_11 rfl rfl ?_
    refine pm_bipush (v := 57) dX7_isAtDigit_12 kb_57 ?_
    refine pm_icmp_gt (tgt := 21) dX7_isAtDigit_14 rfl ?_ ?_
    · refine pm_drop (ls2 := [pmU, pmU]) (Nat.le_refl _) (pm_le_spec (pm_le_u (pm_le_u (pm_le_n)))) ?_
      exact gX7_isAtDigit_j21 hfl m1
    · refine pm_iconst (v := 1) dX7_isAtDigit_17 ki_1 ?_
      refine pm_goto (tgt := 22) dX7_isAtDigit_18 rfl ?_
      refine pm_drop (ls2 := [pmU, pmU]) (Nat.le_refl _) (pm_le_spec (pm_le_u (pm_le_u (pm_le_n)))) ?_
      exact gX7_isAtDigit_j22 hfl 1 m1
end GEN2
