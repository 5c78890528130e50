section GEN17
variable {l : Launch} {Γ : pmG} {d : Nat}
-- StruckPageModel.clause()V
abbrev zX9_clause : pmY := (⟨"StruckPageModel", "clause", "()V"⟩, cX9_clause, 4, none, [])
def X9_clause_j165 (m : pmM) : pmR := pm_oV m
def X9_clause_j161 (t0 : Int32) (t1 : Int32) (t2 : Nat) (m : pmM) : pmR := pm_pI 9 t2 11 (t1 + t0) m fun m13 => X9_clause_j165 m13
def X9_clause_j134 (l0 : Nat) (l1 : Int32) (m : pmM) : pmR := pm_rc 9 l0 m <| pm_cV (X9_sign l0 59 m) fun m10 => if l1 = 0 then (pm_gI 9 l0 11 m10 fun x11 => pm_gI 9 l0 5 m10 fun x12 => if x12 = 0 then (X9_clause_j161 1 x11 l0 m10) else (X9_clause_j161 0 x11 l0 m10)) else (X9_clause_j165 m10)
def X9_clause_j117 (l0 : Nat) (l1 : Int32) (m : pmM) : pmR := if l1 = 2 then (pm_rc 9 l0 m <| pm_cI (X9_number l0 0 200 m) fun x15 m14 => pm_pI 9 l0 12 x15 m14 fun m16 => X9_clause_j134 l0 l1 m16) else (X9_clause_j134 l0 l1 m)
def X9_clause_j83 (l0 : Nat) (l1 : Int32) (m : pmM) : pmR := if l1 = 1 then (pm_rc 9 l0 m <| pm_cI (X9_number l0 0 3 m) fun x18 m17 => pm_rc 9 l0 m17 <| pm_cI (X9_number l0 0 99 m17) fun x20 m19 => pm_gI 9 l0 5 m19 fun x21 => if x21 = 0 then (pm_gR 9 l0 14 m19 fun r22 => pm_st 100 r22 x18 x20 m19 fun m23 => X9_clause_j117 l0 l1 m23) else (X9_clause_j117 l0 l1 m19)) else (X9_clause_j117 l0 l1 m)
def X9_clause_j53 (l0 : Nat) (l1 : Int32) (m : pmM) : pmR := pm_gI 9 l0 5 m fun x6 => if x6 = 0 then (pm_rc 9 l0 m <| pm_cV (X9_skipWord l0 m) fun m7 => pm_gI 9 l0 7 m7 fun x8 => pm_pI 9 l0 7 (x8 + 1) m7 fun m9 => if l1 = 0 then (pm_rc 9 l0 m9 <| pm_cV (X9_lineOfPage l0 m9) fun m24 => X9_clause_j83 l0 l1 m24) else (X9_clause_j83 l0 l1 m9)) else (pm_oV m)
def X9_clause_j44 (l0 : Nat) (l1 : Int32) (m : pmM) : pmR := pm_gI 9 l0 4 m fun x4 => pm_rc 9 l0 m <| pm_cV (X9_wrong l0 3 x4 m) fun m5 => X9_clause_j53 l0 l1 m5
def X9_clause (a0 : Nat) (m : pmM) : pmR := pm_rc 9 a0 m <| pm_cI (X9_kindHere a0 m) fun x2 m1 => if x2 = (-1) then (pm_gI 9 a0 4 m1 fun x26 => pm_rc 9 a0 m1 <| pm_cV (X9_wrong a0 1 x26 m1) fun m27 => X9_clause_j53 a0 x2 m27) else (pm_gI 9 a0 7 m1 fun x3 => if x3 = 60 then (X9_clause_j44 a0 x2 m1) else (if x2 = 0 then (pm_gI 9 a0 11 m1 fun x25 => if x25 = 6 then (X9_clause_j44 a0 x2 m1) else (X9_clause_j53 a0 x2 m1)) else (X9_clause_j53 a0 x2 m1)))
theorem zkX9_clause : pm_zOk zX9_clause 0 := ⟨rfl, tw_1578, tw_168, by decide +kernel, by decide⟩
set_option maxRecDepth 100000 in
set_option maxHeartbeats 4000000 in
theorem gX9_clause_j165 (hfl : l.flags = flags0) (m : pmM) : pm_G l Γ zX9_clause (d + 5) 165 [pmU, pmU, pmU, pmU] [] m (X9_clause_j165 m) := by
  unfold X9_clause_j165
  exact pm_vret rfl dX9_clause_165
set_option maxRecDepth 100000 in
set_option maxHeartbeats 4000000 in
theorem gX9_clause_j161 (hfl : l.flags = flags0) (t0 : Int32) (t1 : Int32) (t2 : Nat) (m : pmM) : pm_G l Γ zX9_clause (d + 5) 161 [pmU, pmU, pmU, pmU] [.int t0, .int t1, .ref t2] m (X9_clause_j161 t0 t1 t2 m) := by
  unfold X9_clause_j161
  refine pm_iadd dX9_clause_161 ?_
  refine fp_9_11 (y := zX9_clause) (Or.inl tw_1388) dX9_clause_162 (fun m13 => ?_)
  exact gX9_clause_j165 hfl m13
set_option maxRecDepth 100000 in
set_option maxHeartbeats 4000000 in
theorem gX9_clause_j134 (hfl : l.flags = flags0) (l0 : Nat) (l1 : Int32) (m : pmM) : pm_G l Γ zX9_clause (d + 5) 134 [.ref l0, .int l1, pmU, pmU] [] m (X9_clause_j134 l0 l1 m) := by
  unfold X9_clause_j134
  refine pm_aload_n dX9_clause_134 rfl rfl ?_
  refine pm_bipush (v := 59) dX9_clause_135 kb_59 ?_
  refine pm_rcv (fun hb9 hc9 => ?_)
  refine pm_kV rfl (pm_V (y := zX9_clause) (z := zX9_sign) (As := [.int 59]) zkX9_sign pm_q9 (by decide) tw_1621 tw_1623 tw_114 dX9_clause_137 rfl rfl (Nat.le_of_ble_eq_true rfl) hb9 hc9) (kcX9_sign hfl l0 59 m) (fun m10 => ?_)
  refine pm_iload_n dX9_clause_140 rfl rfl ?_
  refine pm_if_ne (tgt := 165) dX9_clause_141 rfl ?_ ?_
  · refine pm_drop (ls2 := [pmU, pmU, pmU, pmU]) (Nat.le_refl _) (pm_le_spec (pm_le_u (pm_le_u (pm_le_u (pm_le_u (pm_le_n)))))) ?_
    exact gX9_clause_j165 hfl m10
  · refine pm_aload_n dX9_clause_144 rfl rfl ?_
    refine pm_dup dX9_clause_145 rfl ?_
    refine fg_9_11 (y := zX9_clause) (Or.inl tw_1388) dX9_clause_146 (fun x11 => ?_)
    refine pm_aload_n dX9_clause_149 rfl rfl ?_
    refine fg_9_5 (y := zX9_clause) (Or.inl tw_1382) dX9_clause_150 (fun x12 => ?_)
    refine pm_if_ne (tgt := 160) dX9_clause_153 rfl ?_ ?_
    · refine pm_iconst (v := 0) dX9_clause_160 ki_0 ?_
      refine pm_drop (ls2 := [pmU, pmU, pmU, pmU]) (Nat.le_refl _) (pm_le_spec (pm_le_u (pm_le_u (pm_le_u (pm_le_u (pm_le_n)))))) ?_
      exact gX9_clause_j161 hfl 0 x11 l0 m10
    · refine pm_iconst (v := 1) dX9_clause_156 ki_1 ?_
      refine pm_goto (tgt := 161) dX9_clause_157 rfl ?_
      refine pm_drop (ls2 := [pmU, pmU, pmU, pmU]) (Nat.le_refl _) (pm_le_spec (pm_le_u (pm_le_u (pm_le_u (pm_le_u (pm_le_n)))))) ?_
      exact gX9_clause_j161 hfl 1 x11 l0 m10
set_option maxRecDepth 100000 in
set_option maxHeartbeats 4000000 in
theorem gX9_clause_j117 (hfl : l.flags = flags0) (l0 : Nat) (l1 : Int32) (m : pmM) : pm_G l Γ zX9_clause (d + 5) 117 [.ref l0, .int l1, pmU, pmU] [] m (X9_clause_j117 l0 l1 m) := by
  unfold X9_clause_j117
  refine pm_iload_n dX9_clause_117 rfl rfl ?_
  refine pm_iconst (v := 2) dX9_clause_118 ki_2 ?_
  refine pm_icmp_ne (tgt := 134) dX9_clause_119 rfl ?_ ?_
  · exact gX9_clause_j134 hfl l0 l1 m
  · refine pm_aload_n dX9_clause_122 rfl rfl ?_
    refine pm_aload_n dX9_clause_123 rfl rfl ?_
    refine pm_iconst (v := 0) dX9_clause_124 ki_0 ?_
    refine pm_sipush (v := 200) dX9_clause_125 ks_200 ?_
    refine pm_rcv (fun hb9 hc9 => ?_)
    refine pm_kI rfl (pm_V (y := zX9_clause) (z := zX9_number) (As := [.int 0, .int 200]) zkX9_number pm_q9 (by decide) tw_1613 tw_1615 tw_113 dX9_clause_128 rfl rfl (Nat.le_of_ble_eq_true rfl) hb9 hc9) (kcX9_number hfl l0 0 200 m) (fun x15 m14 => ?_)
    refine fp_9_12 (y := zX9_clause) (Or.inl tw_1389) dX9_clause_131 (fun m16 => ?_)
    exact gX9_clause_j134 hfl l0 l1 m16
set_option maxRecDepth 100000 in
set_option maxHeartbeats 4000000 in
theorem gX9_clause_j83 (hfl : l.flags = flags0) (l0 : Nat) (l1 : Int32) (m : pmM) : pm_G l Γ zX9_clause (d + 5) 83 [.ref l0, .int l1, pmU, pmU] [] m (X9_clause_j83 l0 l1 m) := by
  unfold X9_clause_j83
  refine pm_iload_n dX9_clause_83 rfl rfl ?_
  refine pm_iconst (v := 1) dX9_clause_84 ki_1 ?_
  refine pm_icmp_ne (tgt := 117) dX9_clause_85 rfl ?_ ?_
  · exact gX9_clause_j117 hfl l0 l1 m
  · refine pm_aload_n dX9_clause_88 rfl rfl ?_
    refine pm_iconst (v := 0) dX9_clause_89 ki_0 ?_
    refine pm_iconst (v := 3) dX9_clause_90 ki_3 ?_
    refine pm_rcv (fun hb9 hc9 => ?_)
    refine pm_kI rfl (pm_V (y := zX9_clause) (z := zX9_number) (As := [.int 0, .int 3]) zkX9_number pm_q9 (by decide) tw_1613 tw_1615 tw_113 dX9_clause_91 rfl rfl (Nat.le_of_ble_eq_true rfl) hb9 hc9) (kcX9_number hfl l0 0 3 m) (fun x18 m17 => ?_)
    refine pm_istore_n (ls2 := [.ref l0, .int l1, .int x18, pmU]) dX9_clause_94 rfl rfl (Nat.le_of_ble_eq_true rfl) rfl ?_
    refine pm_aload_n dX9_clause_95 rfl rfl ?_
    refine pm_iconst (v := 0) dX9_clause_96 ki_0 ?_
    refine pm_bipush (v := 99) dX9_clause_97 kb_99 ?_
    refine pm_rcv (fun hb9 hc9 => ?_)
    refine pm_kI rfl (pm_V (y := zX9_clause) (z := zX9_number) (As := [.int 0, .int 99]) zkX9_number pm_q9 (by decide) tw_1613 tw_1615 tw_113 dX9_clause_99 rfl rfl (Nat.le_of_ble_eq_true rfl) hb9 hc9) (kcX9_number hfl l0 0 99 m17) (fun x20 m19 => ?_)
    refine pm_istore_n (ls2 := [.ref l0, .int l1, .int x18, .int x20]) dX9_clause_102 rfl rfl (Nat.le_of_ble_eq_true rfl) rfl ?_
    refine pm_aload_n dX9_clause_103 rfl rfl ?_
    refine fg_9_5 (y := zX9_clause) (Or.inl tw_1382) dX9_clause_104 (fun x21 => ?_)
    refine pm_if_ne (tgt := 117) dX9_clause_107 rfl ?_ ?_
    · refine pm_drop (ls2 := [.ref l0, .int l1, pmU, pmU]) (Nat.le_refl _) (pm_le_spec (pm_le_v (pm_le_v (pm_le_u (pm_le_u (pm_le_n)))))) ?_
      exact gX9_clause_j117 hfl l0 l1 m19
    · refine pm_aload_n dX9_clause_110 rfl rfl ?_
      refine fg_9_14 (y := zX9_clause) (Or.inl tw_1391) dX9_clause_111 (fun r22 => ?_)
      refine pm_iload_n dX9_clause_114 rfl rfl ?_
      refine pm_iload_n dX9_clause_115 rfl rfl ?_
      refine pm_iast (y := zX9_clause) dX9_clause_116 (fun m23 => ?_)
      refine pm_drop (ls2 := [.ref l0, .int l1, pmU, pmU]) (Nat.le_refl _) (pm_le_spec (pm_le_v (pm_le_v (pm_le_u (pm_le_u (pm_le_n)))))) ?_
      exact gX9_clause_j117 hfl l0 l1 m23
set_option maxRecDepth 100000 in
set_option maxHeartbeats 4000000 in
theorem gX9_clause_j53 (hfl : l.flags = flags0) (l0 : Nat) (l1 : Int32) (m : pmM) : pm_G l Γ zX9_clause (d + 5) 53 [.ref l0, .int l1, pmU, pmU] [] m (X9_clause_j53 l0 l1 m) := by
  unfold X9_clause_j53
  refine pm_aload_n dX9_clause_53 rfl rfl ?_
  refine fg_9_5 (y := zX9_clause) (Or.inl tw_1382) dX9_clause_54 (fun x6 => ?_)
  refine pm_if_eq (tgt := 61) dX9_clause_57 rfl ?_ ?_
  · refine pm_aload_n dX9_clause_61 rfl rfl ?_
    refine pm_rcv (fun hb9 hc9 => ?_)
    refine pm_kV rfl (pm_V (y := zX9_clause) (z := zX9_skipWord) (As := []) zkX9_skipWord pm_q9 (by decide) tw_1601 tw_1603 tw_110 dX9_clause_62 rfl rfl (Nat.le_of_ble_eq_true rfl) hb9 hc9) (kcX9_skipWord hfl l0 m) (fun m7 => ?_)
    refine pm_aload_n dX9_clause_65 rfl rfl ?_
    refine pm_dup dX9_clause_66 rfl ?_
    refine fg_9_7 (y := zX9_clause) (Or.inl tw_1384) dX9_clause_67 (fun x8 => ?_)
    refine pm_iconst (v := 1) dX9_clause_70 ki_1 ?_
    refine pm_iadd dX9_clause_71 ?_
    refine fp_9_7 (y := zX9_clause) (Or.inl tw_1384) dX9_clause_72 (fun m9 => ?_)
    refine pm_iload_n dX9_clause_75 rfl rfl ?_
    refine pm_if_ne (tgt := 83) dX9_clause_76 rfl ?_ ?_
    · exact gX9_clause_j83 hfl l0 l1 m9
    · refine pm_aload_n dX9_clause_79 rfl rfl ?_
      refine pm_rcv (fun hb9 hc9 => ?_)
      refine pm_kV rfl (pm_V (y := zX9_clause) (z := zX9_lineOfPage) (As := []) zkX9_lineOfPage pm_q9 (by decide) tw_1605 tw_1607 tw_111 dX9_clause_80 rfl rfl (Nat.le_of_ble_eq_true rfl) hb9 hc9) (kcX9_lineOfPage hfl l0 m9) (fun m24 => ?_)
      exact gX9_clause_j83 hfl l0 l1 m24
  · exact pm_vret rfl dX9_clause_60
set_option maxRecDepth 100000 in
set_option maxHeartbeats 4000000 in
theorem gX9_clause_j44 (hfl : l.flags = flags0) (l0 : Nat) (l1 : Int32) (m : pmM) : pm_G l Γ zX9_clause (d + 5) 44 [.ref l0, .int l1, pmU, pmU] [] m (X9_clause_j44 l0 l1 m) := by
  unfold X9_clause_j44
  refine pm_aload_n dX9_clause_44 rfl rfl ?_
  refine pm_iconst (v := 3) dX9_clause_45 ki_3 ?_
  refine pm_aload_n dX9_clause_46 rfl rfl ?_
  refine fg_9_4 (y := zX9_clause) (Or.inl tw_1381) dX9_clause_47 (fun x4 => ?_)
  refine pm_rcv (fun hb9 hc9 => ?_)
  refine pm_kV rfl (pm_V (y := zX9_clause) (z := zX9_wrong) (As := [.int 3, .int x4]) zkX9_wrong pm_q9 (by decide) tw_1597 tw_1599 tw_109 dX9_clause_50 rfl rfl (Nat.le_of_ble_eq_true rfl) hb9 hc9) (kcX9_wrong hfl l0 3 x4 m) (fun m5 => ?_)
  exact gX9_clause_j53 hfl l0 l1 m5
set_option maxRecDepth 100000 in
set_option maxHeartbeats 4000000 in
theorem kcX9_clause (hfl : l.flags = flags0) (a0 : Nat) (m : pmM) : pm_C l Γ zX9_clause (d + 5) [.ref a0] m (X9_clause a0 m) := by
  refine pm_enter (ls := [.ref a0, pmU, pmU, pmU]) hfl (by decide +kernel) rfl (Nat.le_of_ble_eq_true rfl) rfl (Nat.le_of_ble_eq_true rfl) ?_
  unfold X9_clause
  refine pm_aload_n dX9_clause_0 rfl rfl ?_
  refine pm_rcv (fun hb9 hc9 => ?_)
  refine pm_kI rfl (pm_V (y := zX9_clause) (z := zX9_kindHere) (As := []) zkX9_kindHere pm_q9 (by decide) tw_1579 tw_1581 tw_106 dX9_clause_1 rfl rfl (Nat.le_of_ble_eq_true rfl) hb9 hc9) (kcX9_kindHere hfl a0 m) (fun x2 m1 => ?_)
  refine pm_istore_n (ls2 := [.ref a0, .int x2, pmU, pmU]) dX9_clause_4 rfl rfl (Nat.le_of_ble_eq_true rfl) rfl ?_
  refine pm_iload_n dX9_clause_5 rfl rfl ?_
  refine pm_iconst (v := (-1)) dX9_clause_6 ki_n1 ?_
  refine pm_icmp_ne (tgt := 22) dX9_clause_7 rfl ?_ ?_
  · refine pm_aload_n dX9_clause_22 rfl rfl ?_
    refine fg_9_7 (y := zX9_clause) (Or.inl tw_1384) dX9_clause_23 (fun x3 => ?_)
    refine pm_bipush (v := 60) dX9_clause_26 kb_60 ?_
    refine pm_icmp_eq (tgt := 44) dX9_clause_28 rfl ?_ ?_
    · exact gX9_clause_j44 hfl a0 x2 m1
    · refine pm_iload_n dX9_clause_31 rfl rfl ?_
      refine pm_if_ne (tgt := 53) dX9_clause_32 rfl ?_ ?_
      · exact gX9_clause_j53 hfl a0 x2 m1
      · refine pm_aload_n dX9_clause_35 rfl rfl ?_
        refine fg_9_11 (y := zX9_clause) (Or.inl tw_1388) dX9_clause_36 (fun x25 => ?_)
        refine pm_bipush (v := 6) dX9_clause_39 kb_6 ?_
        refine pm_icmp_ne (tgt := 53) dX9_clause_41 rfl ?_ ?_
        · exact gX9_clause_j53 hfl a0 x2 m1
        · exact gX9_clause_j44 hfl a0 x2 m1
  · refine pm_aload_n dX9_clause_10 rfl rfl ?_
    refine pm_iconst (v := 1) dX9_clause_11 ki_1 ?_
    refine pm_aload_n dX9_clause_12 rfl rfl ?_
    refine fg_9_4 (y := zX9_clause) (Or.inl tw_1381) dX9_clause_13 (fun x26 => ?_)
    refine pm_rcv (fun hb9 hc9 => ?_)
    refine pm_kV rfl (pm_V (y := zX9_clause) (z := zX9_wrong) (As := [.int 1, .int x26]) zkX9_wrong pm_q9 (by decide) tw_1597 tw_1599 tw_109 dX9_clause_16 rfl rfl (Nat.le_of_ble_eq_true rfl) hb9 hc9) (kcX9_wrong hfl a0 1 x26 m1) (fun m27 => ?_)
    refine pm_goto (tgt := 53) dX9_clause_19 rfl ?_
    exact gX9_clause_j53 hfl a0 x2 m27
-- StruckPageModel.wordsOfAll()I
abbrev zX9_wordsOfAll : pmY := (⟨"StruckPageModel", "wordsOfAll", "()I"⟩, cX9_wordsOfAll, 3, some .int, [])
def X9_wordsOfAll_L4 (l0 : Nat) (again4 : (Int32 × Int32 × pmM) → pmR) (s4 : Int32 × Int32 × pmM) : pmR := pm_gI 9 l0 13 s4.2.2 fun x1 => if x1 ≤ s4.2.1 then (pm_oI s4.1 s4.2.2) else (pm_gR 9 l0 16 s4.2.2 fun r2 => pm_ld 100 r2 s4.2.1 s4.2.2 fun x3 => pm_bI (s4.1 + x3) fun x4 => pm_bI (s4.2.1 + 1) fun x5 => again4 (x4, x5, s4.2.2))
def X9_wordsOfAll (a0 : Nat) (m : pmM) : pmR := pm_lp pm_N (X9_wordsOfAll_L4 a0) (0, 0, m)
theorem zkX9_wordsOfAll : pm_zOk zX9_wordsOfAll 0 := ⟨rfl, tw_1632, tw_168, by decide +kernel, by decide⟩
set_option maxRecDepth 100000 in
set_option maxHeartbeats 4000000 in
theorem gX9_wordsOfAll_L4 (hfl : l.flags = flags0) (l0 : Nat) : ∀ (n : Nat) (s : Int32 × Int32 × pmM), pm_G l Γ zX9_wordsOfAll (d + 0) 4 [.ref l0, .int s.1, .int s.2.1] [] s.2.2 (pm_lp n (X9_wordsOfAll_L4 l0) s) :=
  pm_loop (lsf := fun s : Int32 × Int32 × pmM => [.ref l0, .int s.1, .int s.2.1]) (mf := fun s : Int32 × Int32 × pmM => s.2.2) (fun again4 hag4 s4 => by
    unfold X9_wordsOfAll_L4
    refine pm_iload_n dX9_wordsOfAll_4 rfl rfl ?_
    refine pm_aload_n dX9_wordsOfAll_5 rfl rfl ?_
    refine fg_9_13 (y := zX9_wordsOfAll) (Or.inl tw_1390) dX9_wordsOfAll_6 (fun x1 => ?_)
    refine pm_icmp_ge (tgt := 27) dX9_wordsOfAll_9 rfl ?_ ?_
    · refine pm_iload_n dX9_wordsOfAll_27 rfl rfl ?_
      exact pm_iret rfl dX9_wordsOfAll_28
    · refine pm_iload_n dX9_wordsOfAll_12 rfl rfl ?_
      refine pm_aload_n dX9_wordsOfAll_13 rfl rfl ?_
      refine fg_9_16 (y := zX9_wordsOfAll) (Or.inl tw_1393) dX9_wordsOfAll_14 (fun r2 => ?_)
      refine pm_iload_n dX9_wordsOfAll_17 rfl rfl ?_
      refine pm_iald (y := zX9_wordsOfAll) dX9_wordsOfAll_18 (fun x3 => ?_)
      refine pm_iadd dX9_wordsOfAll_19 ?_
      refine pm_bIn (fun x4 => ?_)
      refine pm_istore_n (ls2 := [.ref l0, .int x4, .int s4.2.1]) dX9_wordsOfAll_20 rfl rfl (Nat.le_of_ble_eq_true rfl) rfl ?_
      refine pm_iincn (y := zX9_wordsOfAll) dX9_wordsOfAll_21 rfl ki_1 rfl (Nat.le_of_ble_eq_true rfl) (fun x5 => ?_)
      refine pm_eqls (ls2 := [.ref l0, .int x4, .int x5]) rfl ?_
      refine pm_goto (tgt := 4) dX9_wordsOfAll_24 rfl ?_
      exact hag4 (x4, x5, s4.2.2))
set_option maxRecDepth 100000 in
set_option maxHeartbeats 4000000 in
theorem kcX9_wordsOfAll (hfl : l.flags = flags0) (a0 : Nat) (m : pmM) : pm_C l Γ zX9_wordsOfAll (d + 0) [.ref a0] m (X9_wordsOfAll a0 m) := by
  refine pm_enter (ls := [.ref a0, pmU, pmU]) hfl (by decide +kernel) rfl (Nat.le_of_ble_eq_true rfl) rfl (Nat.le_of_ble_eq_true rfl) ?_
  unfold X9_wordsOfAll
  refine pm_iconst (v := 0) dX9_wordsOfAll_0 ki_0 ?_
  refine pm_istore_n (ls2 := [.ref a0, .int 0, pmU]) dX9_wordsOfAll_1 rfl rfl (Nat.le_of_ble_eq_true rfl) rfl ?_
  refine pm_iconst (v := 0) dX9_wordsOfAll_2 ki_0 ?_
  refine pm_istore_n (ls2 := [.ref a0, .int 0, .int 0]) dX9_wordsOfAll_3 rfl rfl (Nat.le_of_ble_eq_true rfl) rfl ?_
  exact gX9_wordsOfAll_L4 hfl a0 pm_N (0, 0, m)
-- StruckPageModel.page(I)I
abbrev zX9_page : pmY := (⟨"StruckPageModel", "page", "(I)I"⟩, cX9_page, 2, some .int, [])
def X9_page_j71 (l0 : Nat) (m : pmM) : pmR := pm_gI 9 l0 5 m fun x10 => if x10 = 0 then (pm_pI 9 l0 3 (-1) m fun m11 => pm_rc 9 l0 m11 <| pm_cV (X9_beginsAnew l0 m11) fun m12 => pm_rc 9 l0 m12 <| pm_cI (X9_wordsOfAll l0 m12) fun x14 m13 => pm_oI x14 m13) else (pm_rc 9 l0 m <| pm_cI (X9_faulty l0 m) fun x16 m15 => pm_oI x16 m15)
def X9_page_L42 (l0 : Nat) (again42 : (pmM) → pmR) (s42 : pmM) : pmR := pm_gI 9 l0 5 s42 fun x9 => if x9 = 0 then (pm_gI 9 l0 4 s42 fun x17 => pm_gI 9 l0 2 s42 fun x18 => if x18 ≤ x17 then (X9_page_j71 l0 s42) else (pm_rc 9 l0 s42 <| pm_cV (X9_clause l0 s42) fun m19 => pm_rc 9 l0 m19 <| pm_cV (X9_blanks l0 m19) fun m20 => again42 m20)) else (X9_page_j71 l0 s42)
def X9_page_j23 (l0 : Nat) (l1 : Int32) (t0 : Int32) (t1 : Nat) (m : pmM) : pmR := pm_rc 9 t1 m <| pm_cI (X9_bad t1 t0 1 1 m) fun x6 m5 => if x6 = 0 then (pm_rc 9 l0 m5 <| pm_cV (X9_starts l0 l1 m5) fun m7 => pm_rc 9 l0 m7 <| pm_cV (X9_tellsNothing l0 m7) fun m8 => pm_lp pm_N (X9_page_L42 l0) m8) else (pm_oI 0 m5)
def X9_page (a0 : Nat) (a1 : Int32) (m : pmM) : pmR := pm_pI 9 a0 0 0 m fun m1 => pm_gI 9 a0 1 m1 fun x2 => pm_cI (X9_in a1 0 x2 m1) fun x4 m3 => if x4 = 0 then (X9_page_j23 a0 a1 1 a0 m3) else (X9_page_j23 a0 a1 0 a0 m3)
theorem zkX9_page : pm_zOk zX9_page 1 := ⟨rfl, tw_1555, tw_168, by decide +kernel, by decide⟩
set_option maxRecDepth 100000 in
set_option maxHeartbeats 4000000 in
theorem gX9_page_j71 (hfl : l.flags = flags0) (l0 : Nat) (m : pmM) : pm_G l Γ zX9_page (d + 6) 71 [.ref l0, pmU] [] m (X9_page_j71 l0 m) := by
  unfold X9_page_j71
  refine pm_aload_n dX9_page_71 rfl rfl ?_
  refine fg_9_5 (y := zX9_page) (Or.inl tw_1382) dX9_page_72 (fun x10 => ?_)
  refine pm_if_eq (tgt := 83) dX9_page_75 rfl ?_ ?_
  · refine pm_aload_n dX9_page_83 rfl rfl ?_
    refine pm_iconst (v := (-1)) dX9_page_84 ki_n1 ?_
    refine fp_9_3 (y := zX9_page) (Or.inl tw_1380) dX9_page_85 (fun m11 => ?_)
    refine pm_aload_n dX9_page_88 rfl rfl ?_
    refine pm_rcv (fun hb9 hc9 => ?_)
    refine pm_kV rfl (pm_V (y := zX9_page) (z := zX9_beginsAnew) (As := []) zkX9_beginsAnew pm_q9 (by decide) tw_1370 tw_1372 tw_100 dX9_page_89 rfl rfl (Nat.le_of_ble_eq_true rfl) hb9 hc9) (kcX9_beginsAnew hfl l0 m11) (fun m12 => ?_)
    refine pm_aload_n dX9_page_92 rfl rfl ?_
    refine pm_rcv (fun hb9 hc9 => ?_)
    refine pm_kI rfl (pm_V (y := zX9_page) (z := zX9_wordsOfAll) (As := []) zkX9_wordsOfAll pm_q9 (by decide) tw_1629 tw_1631 tw_116 dX9_page_93 rfl rfl (Nat.le_of_ble_eq_true rfl) hb9 hc9) (kcX9_wordsOfAll hfl l0 m12) (fun x14 m13 => ?_)
    exact pm_iret rfl dX9_page_96
  · refine pm_aload_n dX9_page_78 rfl rfl ?_
    refine pm_rcv (fun hb9 hc9 => ?_)
    refine pm_kI rfl (pm_V (y := zX9_page) (z := zX9_faulty) (As := []) zkX9_faulty pm_q9 (by decide) tw_1625 tw_1627 tw_115 dX9_page_79 rfl rfl (Nat.le_of_ble_eq_true rfl) hb9 hc9) (kcX9_faulty hfl l0 m) (fun x16 m15 => ?_)
    exact pm_iret rfl dX9_page_82
set_option maxRecDepth 100000 in
set_option maxHeartbeats 4000000 in
theorem gX9_page_L42 (hfl : l.flags = flags0) (l0 : Nat) : ∀ (n : Nat) (s : pmM), pm_G l Γ zX9_page (d + 6) 42 [.ref l0, pmU] [] s (pm_lp n (X9_page_L42 l0) s) :=
  pm_loop (lsf := fun s : pmM => [.ref l0, pmU]) (mf := fun s : pmM => s) (fun again42 hag42 s42 => by
    unfold X9_page_L42
    refine pm_aload_n dX9_page_42 rfl rfl ?_
    refine fg_9_5 (y := zX9_page) (Or.inl tw_1382) dX9_page_43 (fun x9 => ?_)
    refine pm_if_ne (tgt := 71) dX9_page_46 rfl ?_ ?_
    · exact gX9_page_j71 hfl l0 s42
    · refine pm_aload_n dX9_page_49 rfl rfl ?_
      refine fg_9_4 (y := zX9_page) (Or.inl tw_1381) dX9_page_50 (fun x17 => ?_)
      refine pm_aload_n dX9_page_53 rfl rfl ?_
      refine fg_9_2 (y := zX9_page) (Or.inl tw_1379) dX9_page_54 (fun x18 => ?_)
      refine pm_icmp_ge (tgt := 71) dX9_page_57 rfl ?_ ?_
      · exact gX9_page_j71 hfl l0 s42
      · refine pm_aload_n dX9_page_60 rfl rfl ?_
        refine pm_rcv (fun hb9 hc9 => ?_)
        refine pm_kV rfl (pm_V (y := zX9_page) (z := zX9_clause) (As := []) zkX9_clause pm_q9 (by decide) tw_1575 tw_1577 tw_105 dX9_page_61 rfl rfl (Nat.le_of_ble_eq_true rfl) hb9 hc9) (kcX9_clause hfl l0 s42) (fun m19 => ?_)
        refine pm_aload_n dX9_page_64 rfl rfl ?_
        refine pm_rcv (fun hb9 hc9 => ?_)
        refine pm_kV rfl (pm_V (y := zX9_page) (z := zX9_blanks) (As := []) zkX9_blanks pm_q9 (by decide) tw_1567 tw_1569 tw_103 dX9_page_65 rfl rfl (Nat.le_of_ble_eq_true rfl) hb9 hc9) (kcX9_blanks hfl l0 m19) (fun m20 => ?_)
        refine pm_goto (tgt := 42) dX9_page_68 rfl ?_
        exact hag42 m20)
set_option maxRecDepth 100000 in
set_option maxHeartbeats 4000000 in
theorem gX9_page_j23 (hfl : l.flags = flags0) (l0 : Nat) (l1 : Int32) (t0 : Int32) (t1 : Nat) (m : pmM) : pm_G l Γ zX9_page (d + 6) 23 [.ref l0, .int l1] [.int t0, .ref t1] m (X9_page_j23 l0 l1 t0 t1 m) := by
  unfold X9_page_j23
  refine pm_iconst (v := 1) dX9_page_23 ki_1 ?_
  refine pm_iconst (v := 1) dX9_page_24 ki_1 ?_
  refine pm_rcv (fun hb9 hc9 => ?_)
  refine pm_kI rfl (pm_V (y := zX9_page) (z := zX9_bad) (As := [.int t0, .int 1, .int 1]) zkX9_bad pm_q9 (by decide) tw_1559 tw_1561 tw_101 dX9_page_25 rfl rfl (Nat.le_of_ble_eq_true rfl) hb9 hc9) (kcX9_bad hfl t1 t0 1 1 m) (fun x6 m5 => ?_)
  refine pm_if_eq (tgt := 33) dX9_page_28 rfl ?_ ?_
  · refine pm_aload_n dX9_page_33 rfl rfl ?_
    refine pm_iload_n dX9_page_34 rfl rfl ?_
    refine pm_rcv (fun hb9 hc9 => ?_)
    refine pm_kV rfl (pm_V (y := zX9_page) (z := zX9_starts) (As := [.int l1]) zkX9_starts pm_q9 (by decide) tw_1563 tw_1565 tw_102 dX9_page_35 rfl rfl (Nat.le_of_ble_eq_true rfl) hb9 hc9) (kcX9_starts hfl l0 l1 m5) (fun m7 => ?_)
    refine pm_aload_n dX9_page_38 rfl rfl ?_
    refine pm_rcv (fun hb9 hc9 => ?_)
    refine pm_kV rfl (pm_V (y := zX9_page) (z := zX9_tellsNothing) (As := []) zkX9_tellsNothing pm_q9 (by decide) tw_1366 tw_1368 tw_99 dX9_page_39 rfl rfl (Nat.le_of_ble_eq_true rfl) hb9 hc9) (kcX9_tellsNothing hfl l0 m7) (fun m8 => ?_)
    refine pm_drop (ls2 := [.ref l0, pmU]) (Nat.le_refl _) (pm_le_spec (pm_le_v (pm_le_u (pm_le_n)))) ?_
    exact gX9_page_L42 hfl l0 pm_N m8
  · refine pm_iconst (v := 0) dX9_page_31 ki_0 ?_
    exact pm_iret rfl dX9_page_32
set_option maxRecDepth 100000 in
set_option maxHeartbeats 4000000 in
theorem kcX9_page (hfl : l.flags = flags0) (a0 : Nat) (a1 : Int32) (m : pmM) : pm_C l Γ zX9_page (d + 6) [.ref a0, .int a1] m (X9_page a0 a1 m) := by
  refine pm_enter (ls := [.ref a0, .int a1]) hfl (by decide +kernel) rfl (Nat.le_of_ble_eq_true rfl) rfl (Nat.le_of_ble_eq_true rfl) ?_
  unfold X9_page
  refine pm_aload_n dX9_page_0 rfl rfl ?_
  refine pm_iconst (v := 0) dX9_page_1 ki_0 ?_
  refine fp_9_0 (y := zX9_page) (Or.inl tw_1377) dX9_page_2 (fun m1 => ?_)
  refine pm_aload_n dX9_page_5 rfl rfl ?_
  refine pm_iload_n dX9_page_6 rfl rfl ?_
  refine pm_iconst (v := 0) dX9_page_7 ki_0 ?_
  refine pm_aload_n dX9_page_8 rfl rfl ?_
  refine fg_9_1 (y := zX9_page) (Or.inl tw_1378) dX9_page_9 (fun x2 => ?_)
  refine pm_kI rfl (pm_S (y := zX9_page) (z := zX9_in) (As := [.int a1, .int 0, .int x2]) zkX9_in tw_1556 tw_1557 dX9_page_12 rfl rfl (Nat.le_of_ble_eq_true rfl)) (kcX9_in hfl a1 0 x2 m1) (fun x4 m3 => ?_)
  refine pm_if_ne (tgt := 22) dX9_page_15 rfl ?_ ?_
  · refine pm_iconst (v := 0) dX9_page_22 ki_0 ?_
    exact gX9_page_j23 hfl a0 a1 0 a0 m3
  · refine pm_iconst (v := 1) dX9_page_18 ki_1 ?_
    refine pm_goto (tgt := 23) dX9_page_19 rfl ?_
    exact gX9_page_j23 hfl a0 a1 1 a0 m3
-- StruckPageModel.copies([I[I)V
abbrev zX9_copies : pmY := (⟨"StruckPageModel", "copies", "([I[I)V"⟩, cX9_copies, 3, none, [])
def X9_copies_L2 (l0 : Nat) (l1 : Nat) (again2 : (Int32 × pmM) → pmR) (s2 : Int32 × pmM) : pmR := if (14 : Int32) ≤ s2.1 then (pm_oV s2.2) else (pm_ld 100 l0 s2.1 s2.2 fun x1 => pm_st 100 l1 s2.1 x1 s2.2 fun m2 => pm_bI (s2.1 + 1) fun x3 => again2 (x3, m2))
def X9_copies (a0 : Nat) (a1 : Nat) (m : pmM) : pmR := pm_lp pm_N (X9_copies_L2 a0 a1) (0, m)
theorem zkX9_copies : pm_zOk zX9_copies 2 := ⟨rfl, tw_1691, tw_168, by decide +kernel, by decide⟩
set_option maxRecDepth 100000 in
set_option maxHeartbeats 4000000 in
theorem gX9_copies_L2 (hfl : l.flags = flags0) (l0 : Nat) (l1 : Nat) : ∀ (n : Nat) (s : Int32 × pmM), pm_G l Γ zX9_copies (d + 0) 2 [.ref l0, .ref l1, .int s.1] [] s.2 (pm_lp n (X9_copies_L2 l0 l1) s) :=
  pm_loop (lsf := fun s : Int32 × pmM => [.ref l0, .ref l1, .int s.1]) (mf := fun s : Int32 × pmM => s.2) (fun again2 hag2 s2 => by
    unfold X9_copies_L2
    refine pm_iload_n dX9_copies_2 rfl rfl ?_
    refine pm_bipush (v := 14) dX9_copies_3 kb_14 ?_
    refine pm_icmp_ge (tgt := 20) dX9_copies_5 rfl ?_ ?_
    · exact pm_vret rfl dX9_copies_20
    · refine pm_aload_n dX9_copies_8 rfl rfl ?_
      refine pm_iload_n dX9_copies_9 rfl rfl ?_
      refine pm_aload_n dX9_copies_10 rfl rfl ?_
      refine pm_iload_n dX9_copies_11 rfl rfl ?_
      refine pm_iald (y := zX9_copies) dX9_copies_12 (fun x1 => ?_)
      refine pm_iast (y := zX9_copies) dX9_copies_13 (fun m2 => ?_)
      refine pm_iincn (y := zX9_copies) dX9_copies_14 rfl ki_1 rfl (Nat.le_of_ble_eq_true rfl) (fun x3 => ?_)
      refine pm_eqls (ls2 := [.ref l0, .ref l1, .int x3]) rfl ?_
      refine pm_goto (tgt := 2) dX9_copies_17 rfl ?_
      exact hag2 (x3, m2))
set_option maxRecDepth 100000 in
set_option maxHeartbeats 4000000 in
theorem kcX9_copies (hfl : l.flags = flags0) (a0 : Nat) (a1 : Nat) (m : pmM) : pm_C l Γ zX9_copies (d + 0) [.ref a0, .ref a1] m (X9_copies a0 a1 m) := by
  refine pm_enter (ls := [.ref a0, .ref a1, pmU]) hfl (by decide +kernel) rfl (Nat.le_of_ble_eq_true rfl) rfl (Nat.le_of_ble_eq_true rfl) ?_
  unfold X9_copies
  refine pm_iconst (v := 0) dX9_copies_0 ki_0 ?_
  refine pm_istore_n (ls2 := [.ref a0, .ref a1, .int 0]) dX9_copies_1 rfl rfl (Nat.le_of_ble_eq_true rfl) rfl ?_
  exact gX9_copies_L2 hfl a0 a1 pm_N (0, m)
-- StruckPageModel.notes(II)V
abbrev zX9_notes : pmY := (⟨"StruckPageModel", "notes", "(II)V"⟩, cX9_notes, 3, none, [])
def X9_notes (a0 : Nat) (a1 : Int32) (a2 : Int32) (m : pmM) : pmR := pm_gI 9 a0 5 m fun x1 => if x1 = 0 then (pm_gR 9 a0 22 m fun r2 => pm_gI 9 a0 20 m fun x3 => pm_ldR 103 r2 x3 m fun r4 => pm_st 100 r4 0 a1 m fun m5 => pm_gR 9 a0 22 m5 fun r6 => pm_gI 9 a0 20 m5 fun x7 => pm_ldR 103 r6 x7 m5 fun r8 => pm_st 100 r8 1 a2 m5 fun m9 => pm_gI 9 a0 20 m9 fun x10 => pm_pI 9 a0 20 (x10 + 1) m9 fun m11 => pm_oV m11) else (pm_oV m)
theorem zkX9_notes : pm_zOk zX9_notes 2 := ⟨rfl, tw_1656, tw_168, by decide +kernel, by decide⟩
set_option maxRecDepth 100000 in
set_option maxHeartbeats 4000000 in
theorem kcX9_notes (hfl : l.flags = flags0) (a0 : Nat) (a1 : Int32) (a2 : Int32) (m : pmM) : pm_C l Γ zX9_notes (d + 0) [.ref a0, .int a1, .int a2] m (X9_notes a0 a1 a2 m) := by
  refine pm_enter (ls := [.ref a0, .int a1, .int a2]) hfl (by decide +kernel) rfl (Nat.le_of_ble_eq_true rfl) rfl (Nat.le_of_ble_eq_true rfl) ?_
  unfold X9_notes
  refine pm_aload_n dX9_notes_0 rfl rfl ?_
  refine fg_9_5 (y := zX9_notes) (Or.inl tw_1382) dX9_notes_1 (fun x1 => ?_)
  refine pm_if_eq (tgt := 8) dX9_notes_4 rfl ?_ ?_
  · refine pm_aload_n dX9_notes_8 rfl rfl ?_
    refine fg_9_22 (y := zX9_notes) (Or.inl tw_1399) dX9_notes_9 (fun r2 => ?_)
    refine pm_aload_n dX9_notes_12 rfl rfl ?_
    refine fg_9_20 (y := zX9_notes) (Or.inl tw_1397) dX9_notes_13 (fun x3 => ?_)
    refine pm_aaldI (y := zX9_notes) dX9_notes_16 (fun r4 => ?_)
    refine pm_iconst (v := 0) dX9_notes_17 ki_0 ?_
    refine pm_iload_n dX9_notes_18 rfl rfl ?_
    refine pm_iast (y := zX9_notes) dX9_notes_19 (fun m5 => ?_)
    refine pm_aload_n dX9_notes_20 rfl rfl ?_
    refine fg_9_22 (y := zX9_notes) (Or.inl tw_1399) dX9_notes_21 (fun r6 => ?_)
    refine pm_aload_n dX9_notes_24 rfl rfl ?_
    refine fg_9_20 (y := zX9_notes) (Or.inl tw_1397) dX9_notes_25 (fun x7 => ?_)
    refine pm_aaldI (y := zX9_notes) dX9_notes_28 (fun r8 => ?_)
    refine pm_iconst (v := 1) dX9_notes_29 ki_1 ?_
    refine pm_iload_n dX9_notes_30 rfl rfl ?_
    refine pm_iast (y := zX9_notes) dX9_notes_31 (fun m9 => ?_)
    refine pm_aload_n dX9_notes_32 rfl rfl ?_
    refine pm_dup dX9_notes_33 rfl ?_
    refine fg_9_20 (y := zX9_notes) (Or.inl tw_1397) dX9_notes_34 (fun x10 => ?_)
    refine pm_iconst (v := 1) dX9_notes_37 ki_1 ?_
    refine pm_iadd dX9_notes_38 ?_
    refine fp_9_20 (y := zX9_notes) (Or.inl tw_1397) dX9_notes_39 (fun m11 => ?_)
    exact pm_vret rfl dX9_notes_42
  · exact pm_vret rfl dX9_notes_7
-- StruckPageModel.opensOne()Z
abbrev zX9_opensOne : pmY := (⟨"StruckPageModel", "opensOne", "()Z"⟩, cX9_opensOne, 1, some .boolean, [])
def X9_opensOne_j57 (t0 : Int32) (m : pmM) : pmR := pm_oI (vp_nar .boolean t0) m
def X9_opensOne_j45 (l0 : Nat) (m : pmM) : pmR := pm_gI 9 l0 5 m fun x3 => if x3 = 0 then (X9_opensOne_j57 1 m) else (X9_opensOne_j57 0 m)
def X9_opensOne_j28 (l0 : Nat) (m : pmM) : pmR := pm_gI 9 l0 5 m fun x2 => if x2 = 0 then (pm_gI 9 l0 8 m fun x4 => pm_pI 9 l0 8 (x4 + 1) m fun m5 => X9_opensOne_j45 l0 m5) else (X9_opensOne_j45 l0 m)
def X9_opensOne (a0 : Nat) (m : pmM) : pmR := pm_gI 9 a0 5 m fun x1 => if x1 = 0 then (pm_gI 9 a0 8 m fun x6 => if x6 = 6 then (pm_gI 9 a0 4 m fun x7 => pm_rc 9 a0 m <| pm_cV (X9_wrong a0 3 x7 m) fun m8 => X9_opensOne_j45 a0 m8) else (X9_opensOne_j28 a0 m)) else (X9_opensOne_j28 a0 m)
theorem zkX9_opensOne : pm_zOk zX9_opensOne 0 := ⟨rfl, tw_1652, tw_168, by decide +kernel, by decide⟩
set_option maxRecDepth 100000 in
set_option maxHeartbeats 4000000 in
theorem gX9_opensOne_j57 (hfl : l.flags = flags0) (t0 : Int32) (m : pmM) : pm_G l Γ zX9_opensOne (d + 1) 57 [pmU] [.int t0] m (X9_opensOne_j57 t0 m) := by
  unfold X9_opensOne_j57
  exact pm_nret (ty := .boolean) (w := vp_nar .boolean t0) rfl (by decide) rfl dX9_opensOne_57
set_option maxRecDepth 100000 in
set_option maxHeartbeats 4000000 in
theorem gX9_opensOne_j45 (hfl : l.flags = flags0) (l0 : Nat) (m : pmM) : pm_G l Γ zX9_opensOne (d + 1) 45 [.ref l0] [] m (X9_opensOne_j45 l0 m) := by
  unfold X9_opensOne_j45
  refine pm_aload_n dX9_opensOne_45 rfl rfl ?_
  refine fg_9_5 (y := zX9_opensOne) (Or.inl tw_1382) dX9_opensOne_46 (fun x3 => ?_)
  refine pm_if_ne (tgt := 56) dX9_opensOne_49 rfl ?_ ?_
  · refine pm_iconst (v := 0) dX9_opensOne_56 ki_0 ?_
    refine pm_drop (ls2 := [pmU]) (Nat.le_refl _) (pm_le_spec (pm_le_u (pm_le_n))) ?_
    exact gX9_opensOne_j57 hfl 0 m
  · refine pm_iconst (v := 1) dX9_opensOne_52 ki_1 ?_
    refine pm_goto (tgt := 57) dX9_opensOne_53 rfl ?_
    refine pm_drop (ls2 := [pmU]) (Nat.le_refl _) (pm_le_spec (pm_le_u (pm_le_n))) ?_
    exact gX9_opensOne_j57 hfl 1 m
set_option maxRecDepth 100000 in
set_option maxHeartbeats 4000000 in
theorem gX9_opensOne_j28 (hfl : l.flags = flags0) (l0 : Nat) (m : pmM) : pm_G l Γ zX9_opensOne (d + 1) 28 [.ref l0] [] m (X9_opensOne_j28 l0 m) := by
  unfold X9_opensOne_j28
  refine pm_aload_n dX9_opensOne_28 rfl rfl ?_
  refine fg_9_5 (y := zX9_opensOne) (Or.inl tw_1382) dX9_opensOne_29 (fun x2 => ?_)
  refine pm_if_ne (tgt := 45) dX9_opensOne_32 rfl ?_ ?_
  · exact gX9_opensOne_j45 hfl l0 m
  · refine pm_aload_n dX9_opensOne_35 rfl rfl ?_
    refine pm_dup dX9_opensOne_36 rfl ?_
    refine fg_9_8 (y := zX9_opensOne) (Or.inl tw_1385) dX9_opensOne_37 (fun x4 => ?_)
    refine pm_iconst (v := 1) dX9_opensOne_40 ki_1 ?_
    refine pm_iadd dX9_opensOne_41 ?_
    refine fp_9_8 (y := zX9_opensOne) (Or.inl tw_1385) dX9_opensOne_42 (fun m5 => ?_)
    exact gX9_opensOne_j45 hfl l0 m5
set_option maxRecDepth 100000 in
set_option maxHeartbeats 4000000 in
theorem kcX9_opensOne (hfl : l.flags = flags0) (a0 : Nat) (m : pmM) : pm_C l Γ zX9_opensOne (d + 1) [.ref a0] m (X9_opensOne a0 m) := by
  refine pm_enter (ls := [.ref a0]) hfl (by decide +kernel) rfl (Nat.le_of_ble_eq_true rfl) rfl (Nat.le_of_ble_eq_true rfl) ?_
  unfold X9_opensOne
  refine pm_aload_n dX9_opensOne_0 rfl rfl ?_
  refine fg_9_5 (y := zX9_opensOne) (Or.inl tw_1382) dX9_opensOne_1 (fun x1 => ?_)
  refine pm_if_ne (tgt := 28) dX9_opensOne_4 rfl ?_ ?_
  · exact gX9_opensOne_j28 hfl a0 m
  · refine pm_aload_n dX9_opensOne_7 rfl rfl ?_
    refine fg_9_8 (y := zX9_opensOne) (Or.inl tw_1385) dX9_opensOne_8 (fun x6 => ?_)
    refine pm_bipush (v := 6) dX9_opensOne_11 kb_6 ?_
    refine pm_icmp_ne (tgt := 28) dX9_opensOne_13 rfl ?_ ?_
    · exact gX9_opensOne_j28 hfl a0 m
    · refine pm_aload_n dX9_opensOne_16 rfl rfl ?_
      refine pm_iconst (v := 3) dX9_opensOne_17 ki_3 ?_
      refine pm_aload_n dX9_opensOne_18 rfl rfl ?_
      refine fg_9_4 (y := zX9_opensOne) (Or.inl tw_1381) dX9_opensOne_19 (fun x7 => ?_)
      refine pm_rcv (fun hb9 hc9 => ?_)
      refine pm_kV rfl (pm_V (y := zX9_opensOne) (z := zX9_wrong) (As := [.int 3, .int x7]) zkX9_wrong pm_q9 (by decide) tw_1597 tw_1599 tw_109 dX9_opensOne_22 rfl rfl (Nat.le_of_ble_eq_true rfl) hb9 hc9) (kcX9_wrong hfl a0 3 x7 m) (fun m8 => ?_)
      refine pm_goto (tgt := 45) dX9_opensOne_25 rfl ?_
      exact gX9_opensOne_j45 hfl a0 m8
-- StruckPageModel.knownHere()I
abbrev zX9_knownHere : pmY := (⟨"StruckPageModel", "knownHere", "()I"⟩, cX9_knownHere, 1, some .int, [])
def X9_knownHere_j134 (t0 : Int32) (m : pmM) : pmR := pm_oI t0 m
def X9_knownHere (a0 : Nat) (m : pmM) : pmR := pm_rc 9 a0 m <| pm_cI (X9_takes a0 23 15 18 4 19 0 m) fun x2 m1 => if x2 = 0 then (pm_rc 9 a0 m1 <| pm_cI (X9_takes a0 19 20 18 21 3 11 m1) fun x4 m3 => if x4 = 0 then (pm_rc 9 a0 m3 <| pm_cI (X9_takes a0 6 9 18 19 20 0 m3) fun x6 m5 => if x6 = 0 then (pm_rc 9 a0 m5 <| pm_cI (X9_takes a0 12 9 14 5 0 0 m5) fun x8 m7 => if x8 = 0 then (pm_rc 9 a0 m7 <| pm_cI (X9_takes a0 12 5 6 20 0 0 m7) fun x10 m9 => if x10 = 0 then (pm_rc 9 a0 m9 <| pm_cI (X9_takes a0 9 14 11 0 0 0 m9) fun x12 m11 => if x12 = 0 then (pm_rc 9 a0 m11 <| pm_cI (X9_takes a0 3 5 12 12 0 0 m11) fun x14 m13 => if x14 = 0 then (X9_knownHere_j134 (-1) m13) else (X9_knownHere_j134 6 m13)) else (pm_oI 5 m11)) else (pm_oI 4 m9)) else (pm_oI 3 m7)) else (pm_oI 2 m5)) else (pm_oI 1 m3)) else (pm_oI 0 m1)
theorem zkX9_knownHere : pm_zOk zX9_knownHere 0 := ⟨rfl, tw_1660, tw_168, by decide +kernel, by decide⟩
set_option maxRecDepth 100000 in
set_option maxHeartbeats 4000000 in
theorem gX9_knownHere_j134 (hfl : l.flags = flags0) (t0 : Int32) (m : pmM) : pm_G l Γ zX9_knownHere (d + 5) 134 [pmU] [.int t0] m (X9_knownHere_j134 t0 m) := by
  unfold X9_knownHere_j134
  exact pm_iret rfl dX9_knownHere_134
set_option maxRecDepth 100000 in
set_option maxHeartbeats 4000000 in
theorem kcX9_knownHere (hfl : l.flags = flags0) (a0 : Nat) (m : pmM) : pm_C l Γ zX9_knownHere (d + 5) [.ref a0] m (X9_knownHere a0 m) := by
  refine pm_enter (ls := [.ref a0]) hfl (by decide +kernel) rfl (Nat.le_of_ble_eq_true rfl) rfl (Nat.le_of_ble_eq_true rfl) ?_
  unfold X9_knownHere
  refine pm_aload_n dX9_knownHere_0 rfl rfl ?_
  refine pm_bipush (v := 23) dX9_knownHere_1 kb_23 ?_
  refine pm_bipush (v := 15) dX9_knownHere_3 kb_15 ?_
  refine pm_bipush (v := 18) dX9_knownHere_5 kb_18 ?_
  refine pm_iconst (v := 4) dX9_knownHere_7 ki_4 ?_
  refine pm_bipush (v := 19) dX9_knownHere_8 kb_19 ?_
  refine pm_iconst (v := 0) dX9_knownHere_10 ki_0 ?_
  refine pm_rcv (fun hb9 hc9 => ?_)
  refine pm_kI rfl (pm_V (y := zX9_knownHere) (z := zX9_takes) (As := [.int 23, .int 15, .int 18, .int 4, .int 19, .int 0]) zkX9_takes pm_q9 (by decide) tw_1661 tw_1663 tw_123 dX9_knownHere_11 rfl rfl (Nat.le_of_ble_eq_true rfl) hb9 hc9) (kcX9_takes hfl a0 23 15 18 4 19 0 m) (fun x2 m1 => ?_)
  refine pm_if_eq (tgt := 19) dX9_knownHere_14 rfl ?_ ?_
  · refine pm_aload_n dX9_knownHere_19 rfl rfl ?_
    refine pm_bipush (v := 19) dX9_knownHere_20 kb_19 ?_
    refine pm_bipush (v := 20) dX9_knownHere_22 kb_20 ?_
    refine pm_bipush (v := 18) dX9_knownHere_24 kb_18 ?_
    refine pm_bipush (v := 21) dX9_knownHere_26 kb_21 ?_
    refine pm_iconst (v := 3) dX9_knownHere_28 ki_3 ?_
    refine pm_bipush (v := 11) dX9_knownHere_29 kb_11 ?_
    refine pm_rcv (fun hb9 hc9 => ?_)
    refine pm_kI rfl (pm_V (y := zX9_knownHere) (z := zX9_takes) (As := [.int 19, .int 20, .int 18, .int 21, .int 3, .int 11]) zkX9_takes pm_q9 (by decide) tw_1661 tw_1663 tw_123 dX9_knownHere_31 rfl rfl (Nat.le_of_ble_eq_true rfl) hb9 hc9) (kcX9_takes hfl a0 19 20 18 21 3 11 m1) (fun x4 m3 => ?_)
    refine pm_if_eq (tgt := 39) dX9_knownHere_34 rfl ?_ ?_
    · refine pm_aload_n dX9_knownHere_39 rfl rfl ?_
      refine pm_bipush (v := 6) dX9_knownHere_40 kb_6 ?_
      refine pm_bipush (v := 9) dX9_knownHere_42 kb_9 ?_
      refine pm_bipush (v := 18) dX9_knownHere_44 kb_18 ?_
      refine pm_bipush (v := 19) dX9_knownHere_46 kb_19 ?_
      refine pm_bipush (v := 20) dX9_knownHere_48 kb_20 ?_
      refine pm_iconst (v := 0) dX9_knownHere_50 ki_0 ?_
      refine pm_rcv (fun hb9 hc9 => ?_)
      refine pm_kI rfl (pm_V (y := zX9_knownHere) (z := zX9_takes) (As := [.int 6, .int 9, .int 18, .int 19, .int 20, .int 0]) zkX9_takes pm_q9 (by decide) tw_1661 tw_1663 tw_123 dX9_knownHere_51 rfl rfl (Nat.le_of_ble_eq_true rfl) hb9 hc9) (kcX9_takes hfl a0 6 9 18 19 20 0 m3) (fun x6 m5 => ?_)
      refine pm_if_eq (tgt := 59) dX9_knownHere_54 rfl ?_ ?_
      · refine pm_aload_n dX9_knownHere_59 rfl rfl ?_
        refine pm_bipush (v := 12) dX9_knownHere_60 kb_12 ?_
        refine pm_bipush (v := 9) dX9_knownHere_62 kb_9 ?_
        refine pm_bipush (v := 14) dX9_knownHere_64 kb_14 ?_
        refine pm_iconst (v := 5) dX9_knownHere_66 ki_5 ?_
        refine pm_iconst (v := 0) dX9_knownHere_67 ki_0 ?_
        refine pm_iconst (v := 0) dX9_knownHere_68 ki_0 ?_
        refine pm_rcv (fun hb9 hc9 => ?_)
        refine pm_kI rfl (pm_V (y := zX9_knownHere) (z := zX9_takes) (As := [.int 12, .int 9, .int 14, .int 5, .int 0, .int 0]) zkX9_takes pm_q9 (by decide) tw_1661 tw_1663 tw_123 dX9_knownHere_69 rfl rfl (Nat.le_of_ble_eq_true rfl) hb9 hc9) (kcX9_takes hfl a0 12 9 14 5 0 0 m5) (fun x8 m7 => ?_)
        refine pm_if_eq (tgt := 77) dX9_knownHere_72 rfl ?_ ?_
        · refine pm_aload_n dX9_knownHere_77 rfl rfl ?_
          refine pm_bipush (v := 12) dX9_knownHere_78 kb_12 ?_
          refine pm_iconst (v := 5) dX9_knownHere_80 ki_5 ?_
          refine pm_bipush (v := 6) dX9_knownHere_81 kb_6 ?_
          refine pm_bipush (v := 20) dX9_knownHere_83 kb_20 ?_
          refine pm_iconst (v := 0) dX9_knownHere_85 ki_0 ?_
          refine pm_iconst (v := 0) dX9_knownHere_86 ki_0 ?_
          refine pm_rcv (fun hb9 hc9 => ?_)
          refine pm_kI rfl (pm_V (y := zX9_knownHere) (z := zX9_takes) (As := [.int 12, .int 5, .int 6, .int 20, .int 0, .int 0]) zkX9_takes pm_q9 (by decide) tw_1661 tw_1663 tw_123 dX9_knownHere_87 rfl rfl (Nat.le_of_ble_eq_true rfl) hb9 hc9) (kcX9_takes hfl a0 12 5 6 20 0 0 m7) (fun x10 m9 => ?_)
          refine pm_if_eq (tgt := 95) dX9_knownHere_90 rfl ?_ ?_
          · refine pm_aload_n dX9_knownHere_95 rfl rfl ?_
            refine pm_bipush (v := 9) dX9_knownHere_96 kb_9 ?_
            refine pm_bipush (v := 14) dX9_knownHere_98 kb_14 ?_
            refine pm_bipush (v := 11) dX9_knownHere_100 kb_11 ?_
            refine pm_iconst (v := 0) dX9_knownHere_102 ki_0 ?_
            refine pm_iconst (v := 0) dX9_knownHere_103 ki_0 ?_
            refine pm_iconst (v := 0) dX9_knownHere_104 ki_0 ?_
            refine pm_rcv (fun hb9 hc9 => ?_)
            refine pm_kI rfl (pm_V (y := zX9_knownHere) (z := zX9_takes) (As := [.int 9, .int 14, .int 11, .int 0, .int 0, .int 0]) zkX9_takes pm_q9 (by decide) tw_1661 tw_1663 tw_123 dX9_knownHere_105 rfl rfl (Nat.le_of_ble_eq_true rfl) hb9 hc9) (kcX9_takes hfl a0 9 14 11 0 0 0 m9) (fun x12 m11 => ?_)
            refine pm_if_eq (tgt := 113) dX9_knownHere_108 rfl ?_ ?_
            · refine pm_aload_n dX9_knownHere_113 rfl rfl ?_
              refine pm_iconst (v := 3) dX9_knownHere_114 ki_3 ?_
              refine pm_iconst (v := 5) dX9_knownHere_115 ki_5 ?_
              refine pm_bipush (v := 12) dX9_knownHere_116 kb_12 ?_
              refine pm_bipush (v := 12) dX9_knownHere_118 kb_12 ?_
              refine pm_iconst (v := 0) dX9_knownHere_120 ki_0 ?_
              refine pm_iconst (v := 0) dX9_knownHere_121 ki_0 ?_
              refine pm_rcv (fun hb9 hc9 => ?_)
              refine pm_kI rfl (pm_V (y := zX9_knownHere) (z := zX9_takes) (As := [.int 3, .int 5, .int 12, .int 12, .int 0, .int 0]) zkX9_takes pm_q9 (by decide) tw_1661 tw_1663 tw_123 dX9_knownHere_122 rfl rfl (Nat.le_of_ble_eq_true rfl) hb9 hc9) (kcX9_takes hfl a0 3 5 12 12 0 0 m11) (fun x14 m13 => ?_)
              refine pm_if_eq (tgt := 133) dX9_knownHere_125 rfl ?_ ?_
              · refine pm_iconst (v := (-1)) dX9_knownHere_133 ki_n1 ?_
                refine pm_drop (ls2 := [pmU]) (Nat.le_refl _) (pm_le_spec (pm_le_u (pm_le_n))) ?_
                exact gX9_knownHere_j134 hfl (-1) m13
              · refine pm_bipush (v := 6) dX9_knownHere_128 kb_6 ?_
                refine pm_goto (tgt := 134) dX9_knownHere_130 rfl ?_
                refine pm_drop (ls2 := [pmU]) (Nat.le_refl _) (pm_le_spec (pm_le_u (pm_le_n))) ?_
                exact gX9_knownHere_j134 hfl 6 m13
            · refine pm_iconst (v := 5) dX9_knownHere_111 ki_5 ?_
              exact pm_iret rfl dX9_knownHere_112
          · refine pm_iconst (v := 4) dX9_knownHere_93 ki_4 ?_
            exact pm_iret rfl dX9_knownHere_94
        · refine pm_iconst (v := 3) dX9_knownHere_75 ki_3 ?_
          exact pm_iret rfl dX9_knownHere_76
      · refine pm_iconst (v := 2) dX9_knownHere_57 ki_2 ?_
        exact pm_iret rfl dX9_knownHere_58
    · refine pm_iconst (v := 1) dX9_knownHere_37 ki_1 ?_
      exact pm_iret rfl dX9_knownHere_38
  · refine pm_iconst (v := 0) dX9_knownHere_17 ki_0 ?_
    exact pm_iret rfl dX9_knownHere_18
-- StruckPageModel.one()V
abbrev zX9_one : pmY := (⟨"StruckPageModel", "one", "()V"⟩, cX9_one, 3, none, [])
def X9_one_j201 (rs : Nat → pmM → pmR) (m : pmM) : pmR := pm_oV m
def X9_one_j56 (rs : Nat → pmM → pmR) (l0 : Nat) (t0 : Int32) (m : pmM) : pmR := if t0 = (-1) then (pm_gI 9 l0 4 m fun x7 => pm_rc 9 l0 m <| pm_cI (X9_byteAt l0 x7 m) fun x9 m8 => if x9 = 40 then (pm_rc 9 l0 m8 <| pm_cI (X9_opensOne l0 m8) fun x17 m16 => if x17 = 0 then (pm_oV m16) else (pm_gI 9 l0 4 m16 fun x18 => pm_pI 9 l0 4 (x18 + 1) m16 fun m19 => pm_rc 9 l0 m19 <| pm_cV (rs l0 m19) fun m20 => pm_rc 9 l0 m20 <| pm_cV (X9_sign l0 41 m20) fun m21 => pm_gI 9 l0 8 m21 fun x22 => pm_pI 9 l0 8 (x22 - 1) m21 fun m23 => pm_oV m23)) else (pm_rc 9 l0 m8 <| pm_cI (X9_knownHere l0 m8) fun x11 m10 => if x11 = (-1) then (pm_rc 9 l0 m10 <| pm_cI (X9_number l0 0 999 m10) fun x13 m12 => pm_rc 9 l0 m12 <| pm_cV (X9_notes l0 0 x13 m12) fun m14 => X9_one_j201 rs m14) else (pm_rc 9 l0 m10 <| pm_cV (X9_notes l0 1 x11 m10) fun m15 => X9_one_j201 rs m15))) else (pm_rc 9 l0 m <| pm_cI (X9_opensOne l0 m) fun x25 m24 => if x25 = 0 then (pm_oV m24) else (pm_rc 9 l0 m24 <| pm_cV (X9_skipWord l0 m24) fun m26 => pm_rc 9 l0 m26 <| pm_cV (X9_sign l0 91 m26) fun m27 => pm_rc 9 l0 m27 <| pm_cV (rs l0 m27) fun m28 => pm_rc 9 l0 m28 <| pm_cV (X9_sign l0 44 m28) fun m29 => pm_rc 9 l0 m29 <| pm_cV (rs l0 m29) fun m30 => pm_rc 9 l0 m30 <| pm_cV (X9_sign l0 93 m30) fun m31 => pm_rc 9 l0 m31 <| pm_cV (X9_notes l0 t0 0 m31) fun m32 => pm_gI 9 l0 8 m32 fun x33 => pm_pI 9 l0 8 (x33 - 1) m32 fun m34 => pm_oV m34))
def X9_one (rs : Nat → pmM → pmR) (a0 : Nat) (m : pmM) : pmR := pm_gI 9 a0 5 m fun x1 => if x1 = 0 then (pm_rc 9 a0 m <| pm_cV (X9_blanks a0 m) fun m2 => pm_rc 9 a0 m2 <| pm_cI (X9_isWord a0 12 5 1 19 20 0 m2) fun x4 m3 => if x4 = 0 then (pm_rc 9 a0 m3 <| pm_cI (X9_isWord a0 13 15 19 20 0 0 m3) fun x6 m5 => if x6 = 0 then (X9_one_j56 rs a0 (-1) m5) else (X9_one_j56 rs a0 8 m5)) else (X9_one_j56 rs a0 7 m3)) else (pm_oV m)
theorem zkX9_one : pm_zOk zX9_one 0 := ⟨rfl, tw_1648, tw_168, by decide +kernel, by decide⟩
set_option maxRecDepth 100000 in
set_option maxHeartbeats 4000000 in
theorem gX9_one_j201 (hfl : l.flags = flags0) (rs : Nat → pmM → pmR) (m : pmM) (hrs : ∀ (b0 : Nat) (m : pmM), pm_C l Γ zX9_sum (d + 5) [.ref b0] m (rs b0 m)) : pm_G l Γ zX9_one (d + 6) 201 [pmU, pmU, pmU] [] m (X9_one_j201 rs m) := by
  unfold X9_one_j201
  exact pm_vret rfl dX9_one_201
set_option maxRecDepth 100000 in
set_option maxHeartbeats 4000000 in
theorem gX9_one_j56 (hfl : l.flags = flags0) (rs : Nat → pmM → pmR) (l0 : Nat) (t0 : Int32) (m : pmM) (hrs : ∀ (b0 : Nat) (m : pmM), pm_C l Γ zX9_sum (d + 5) [.ref b0] m (rs b0 m)) : pm_G l Γ zX9_one (d + 6) 56 [.ref l0, pmU, pmU] [.int t0] m (X9_one_j56 rs l0 t0 m) := by
  unfold X9_one_j56
  refine pm_istore_n (ls2 := [.ref l0, .int t0, pmU]) dX9_one_56 rfl rfl (Nat.le_of_ble_eq_true rfl) rfl ?_
  refine pm_iload_n dX9_one_57 rfl rfl ?_
  refine pm_iconst (v := (-1)) dX9_one_58 ki_n1 ?_
  refine pm_icmp_eq (tgt := 117) dX9_one_59 rfl ?_ ?_
  · refine pm_aload_n dX9_one_117 rfl rfl ?_
    refine pm_aload_n dX9_one_118 rfl rfl ?_
    refine fg_9_4 (y := zX9_one) (Or.inl tw_1381) dX9_one_119 (fun x7 => ?_)
    refine pm_rcv (fun hb9 hc9 => ?_)
    refine pm_kI rfl (pm_V (y := zX9_one) (z := zX9_byteAt) (As := [.int x7]) zkX9_byteAt pm_q9 (by decide) tw_1571 tw_1573 tw_104 dX9_one_122 rfl rfl (Nat.le_of_ble_eq_true rfl) hb9 hc9) (kcX9_byteAt hfl l0 x7 m) (fun x9 m8 => ?_)
    refine pm_bipush (v := 40) dX9_one_125 kb_40 ?_
    refine pm_icmp_ne (tgt := 169) dX9_one_127 rfl ?_ ?_
    · refine pm_aload_n dX9_one_169 rfl rfl ?_
      refine pm_rcv (fun hb9 hc9 => ?_)
      refine pm_kI rfl (pm_V (y := zX9_one) (z := zX9_knownHere) (As := []) zkX9_knownHere pm_q9 (by decide) tw_1657 tw_1659 tw_122 dX9_one_170 rfl rfl (Nat.le_of_ble_eq_true rfl) hb9 hc9) (kcX9_knownHere hfl l0 m8) (fun x11 m10 => ?_)
      refine pm_istore_n (ls2 := [.ref l0, .int t0, .int x11]) dX9_one_173 rfl rfl (Nat.le_of_ble_eq_true rfl) rfl ?_
      refine pm_iload_n dX9_one_174 rfl rfl ?_
      refine pm_iconst (v := (-1)) dX9_one_175 ki_n1 ?_
      refine pm_icmp_eq (tgt := 188) dX9_one_176 rfl ?_ ?_
      · refine pm_aload_n dX9_one_188 rfl rfl ?_
        refine pm_iconst (v := 0) dX9_one_189 ki_0 ?_
        refine pm_aload_n dX9_one_190 rfl rfl ?_
        refine pm_iconst (v := 0) dX9_one_191 ki_0 ?_
        refine pm_sipush (v := 999) dX9_one_192 ks_999 ?_
        refine pm_rcv (fun hb9 hc9 => ?_)
        refine pm_kI rfl (pm_V (y := zX9_one) (z := zX9_number) (As := [.int 0, .int 999]) zkX9_number pm_q9 (by decide) tw_1613 tw_1615 tw_113 dX9_one_195 rfl rfl (Nat.le_of_ble_eq_true rfl) hb9 hc9) (kcX9_number hfl l0 0 999 m10) (fun x13 m12 => ?_)
        refine pm_rcv (fun hb9 hc9 => ?_)
        refine pm_kV rfl (pm_V (y := zX9_one) (z := zX9_notes) (As := [.int 0, .int x13]) zkX9_notes pm_q9 (by decide) tw_1653 tw_1655 tw_121 dX9_one_198 rfl rfl (Nat.le_of_ble_eq_true rfl) hb9 hc9) (kcX9_notes hfl l0 0 x13 m12) (fun m14 => ?_)
        refine pm_drop (ls2 := [pmU, pmU, pmU]) (Nat.le_refl _) (pm_le_spec (pm_le_u (pm_le_u (pm_le_u (pm_le_n))))) ?_
        exact gX9_one_j201 hfl rs m14 hrs
      · refine pm_aload_n dX9_one_179 rfl rfl ?_
        refine pm_iconst (v := 1) dX9_one_180 ki_1 ?_
        refine pm_iload_n dX9_one_181 rfl rfl ?_
        refine pm_rcv (fun hb9 hc9 => ?_)
        refine pm_kV rfl (pm_V (y := zX9_one) (z := zX9_notes) (As := [.int 1, .int x11]) zkX9_notes pm_q9 (by decide) tw_1653 tw_1655 tw_121 dX9_one_182 rfl rfl (Nat.le_of_ble_eq_true rfl) hb9 hc9) (kcX9_notes hfl l0 1 x11 m10) (fun m15 => ?_)
        refine pm_goto (tgt := 201) dX9_one_185 rfl ?_
        refine pm_drop (ls2 := [pmU, pmU, pmU]) (Nat.le_refl _) (pm_le_spec (pm_le_u (pm_le_u (pm_le_u (pm_le_n))))) ?_
        exact gX9_one_j201 hfl rs m15 hrs
    · refine pm_aload_n dX9_one_130 rfl rfl ?_
      refine pm_rcv (fun hb9 hc9 => ?_)
      refine pm_kI rfl (pm_V (y := zX9_one) (z := zX9_opensOne) (As := []) zkX9_opensOne pm_q9 (by decide) tw_1649 tw_1651 tw_120 dX9_one_131 rfl rfl (Nat.le_of_ble_eq_true rfl) hb9 hc9) (kcX9_opensOne hfl l0 m8) (fun x17 m16 => ?_)
      refine pm_if_ne (tgt := 138) dX9_one_134 rfl ?_ ?_
      · refine pm_aload_n dX9_one_138 rfl rfl ?_
        refine pm_dup dX9_one_139 rfl ?_
        refine fg_9_4 (y := zX9_one) (Or.inl tw_1381) dX9_one_140 (fun x18 => ?_)
        refine pm_iconst (v := 1) dX9_one_143 ki_1 ?_
        refine pm_iadd dX9_one_144 ?_
        refine fp_9_4 (y := zX9_one) (Or.inl tw_1381) dX9_one_145 (fun m19 => ?_)
        refine pm_aload_n dX9_one_148 rfl rfl ?_
        refine pm_rcv (fun hb9 hc9 => ?_)
        refine pm_kV rfl (pm_V (y := zX9_one) (z := zX9_sum) (As := []) zkX9_sum pm_q9 (by decide) tw_1637 tw_1639 tw_117 dX9_one_149 rfl rfl (Nat.le_of_ble_eq_true rfl) hb9 hc9) (hrs l0 m19) (fun m20 => ?_)
        refine pm_aload_n dX9_one_152 rfl rfl ?_
        refine pm_bipush (v := 41) dX9_one_153 kb_41 ?_
        refine pm_rcv (fun hb9 hc9 => ?_)
        refine pm_kV rfl (pm_V (y := zX9_one) (z := zX9_sign) (As := [.int 41]) zkX9_sign pm_q9 (by decide) tw_1621 tw_1623 tw_114 dX9_one_155 rfl rfl (Nat.le_of_ble_eq_true rfl) hb9 hc9) (kcX9_sign hfl l0 41 m20) (fun m21 => ?_)
        refine pm_aload_n dX9_one_158 rfl rfl ?_
        refine pm_dup dX9_one_159 rfl ?_
        refine fg_9_8 (y := zX9_one) (Or.inl tw_1385) dX9_one_160 (fun x22 => ?_)
        refine pm_iconst (v := 1) dX9_one_163 ki_1 ?_
        refine pm_isub dX9_one_164 ?_
        refine fp_9_8 (y := zX9_one) (Or.inl tw_1385) dX9_one_165 (fun m23 => ?_)
        exact pm_vret rfl dX9_one_168
      · exact pm_vret rfl dX9_one_137
  · refine pm_aload_n dX9_one_62 rfl rfl ?_
    refine pm_rcv (fun hb9 hc9 => ?_)
    refine pm_kI rfl (pm_V (y := zX9_one) (z := zX9_opensOne) (As := []) zkX9_opensOne pm_q9 (by decide) tw_1649 tw_1651 tw_120 dX9_one_63 rfl rfl (Nat.le_of_ble_eq_true rfl) hb9 hc9) (kcX9_opensOne hfl l0 m) (fun x25 m24 => ?_)
    refine pm_if_ne (tgt := 70) dX9_one_66 rfl ?_ ?_
    · refine pm_aload_n dX9_one_70 rfl rfl ?_
      refine pm_rcv (fun hb9 hc9 => ?_)
      refine pm_kV rfl (pm_V (y := zX9_one) (z := zX9_skipWord) (As := []) zkX9_skipWord pm_q9 (by decide) tw_1601 tw_1603 tw_110 dX9_one_71 rfl rfl (Nat.le_of_ble_eq_true rfl) hb9 hc9) (kcX9_skipWord hfl l0 m24) (fun m26 => ?_)
      refine pm_aload_n dX9_one_74 rfl rfl ?_
      refine pm_bipush (v := 91) dX9_one_75 kb_91 ?_
      refine pm_rcv (fun hb9 hc9 => ?_)
      refine pm_kV rfl (pm_V (y := zX9_one) (z := zX9_sign) (As := [.int 91]) zkX9_sign pm_q9 (by decide) tw_1621 tw_1623 tw_114 dX9_one_77 rfl rfl (Nat.le_of_ble_eq_true rfl) hb9 hc9) (kcX9_sign hfl l0 91 m26) (fun m27 => ?_)
      refine pm_aload_n dX9_one_80 rfl rfl ?_
      refine pm_rcv (fun hb9 hc9 => ?_)
      refine pm_kV rfl (pm_V (y := zX9_one) (z := zX9_sum) (As := []) zkX9_sum pm_q9 (by decide) tw_1637 tw_1639 tw_117 dX9_one_81 rfl rfl (Nat.le_of_ble_eq_true rfl) hb9 hc9) (hrs l0 m27) (fun m28 => ?_)
      refine pm_aload_n dX9_one_84 rfl rfl ?_
      refine pm_bipush (v := 44) dX9_one_85 kb_44 ?_
      refine pm_rcv (fun hb9 hc9 => ?_)
      refine pm_kV rfl (pm_V (y := zX9_one) (z := zX9_sign) (As := [.int 44]) zkX9_sign pm_q9 (by decide) tw_1621 tw_1623 tw_114 dX9_one_87 rfl rfl (Nat.le_of_ble_eq_true rfl) hb9 hc9) (kcX9_sign hfl l0 44 m28) (fun m29 => ?_)
      refine pm_aload_n dX9_one_90 rfl rfl ?_
      refine pm_rcv (fun hb9 hc9 => ?_)
      refine pm_kV rfl (pm_V (y := zX9_one) (z := zX9_sum) (As := []) zkX9_sum pm_q9 (by decide) tw_1637 tw_1639 tw_117 dX9_one_91 rfl rfl (Nat.le_of_ble_eq_true rfl) hb9 hc9) (hrs l0 m29) (fun m30 => ?_)
      refine pm_aload_n dX9_one_94 rfl rfl ?_
      refine pm_bipush (v := 93) dX9_one_95 kb_93 ?_
      refine pm_rcv (fun hb9 hc9 => ?_)
      refine pm_kV rfl (pm_V (y := zX9_one) (z := zX9_sign) (As := [.int 93]) zkX9_sign pm_q9 (by decide) tw_1621 tw_1623 tw_114 dX9_one_97 rfl rfl (Nat.le_of_ble_eq_true rfl) hb9 hc9) (kcX9_sign hfl l0 93 m30) (fun m31 => ?_)
      refine pm_aload_n dX9_one_100 rfl rfl ?_
      refine pm_iload_n dX9_one_101 rfl rfl ?_
      refine pm_iconst (v := 0) dX9_one_102 ki_0 ?_
      refine pm_rcv (fun hb9 hc9 => ?_)
      refine pm_kV rfl (pm_V (y := zX9_one) (z := zX9_notes) (As := [.int t0, .int 0]) zkX9_notes pm_q9 (by decide) tw_1653 tw_1655 tw_121 dX9_one_103 rfl rfl (Nat.le_of_ble_eq_true rfl) hb9 hc9) (kcX9_notes hfl l0 t0 0 m31) (fun m32 => ?_)
      refine pm_aload_n dX9_one_106 rfl rfl ?_
      refine pm_dup dX9_one_107 rfl ?_
      refine fg_9_8 (y := zX9_one) (Or.inl tw_1385) dX9_one_108 (fun x33 => ?_)
      refine pm_iconst (v := 1) dX9_one_111 ki_1 ?_
      refine pm_isub dX9_one_112 ?_
      refine fp_9_8 (y := zX9_one) (Or.inl tw_1385) dX9_one_113 (fun m34 => ?_)
      exact pm_vret rfl dX9_one_116
    · exact pm_vret rfl dX9_one_69
set_option maxRecDepth 100000 in
set_option maxHeartbeats 4000000 in
theorem kcX9_one (hfl : l.flags = flags0) (rs : Nat → pmM → pmR) (a0 : Nat) (m : pmM) (hrs : ∀ (b0 : Nat) (m : pmM), pm_C l Γ zX9_sum (d + 5) [.ref b0] m (rs b0 m)) : pm_C l Γ zX9_one (d + 6) [.ref a0] m (X9_one rs a0 m) := by
  refine pm_enter (ls := [.ref a0, pmU, pmU]) hfl (by decide +kernel) rfl (Nat.le_of_ble_eq_true rfl) rfl (Nat.le_of_ble_eq_true rfl) ?_
  unfold X9_one
  refine pm_aload_n dX9_one_0 rfl rfl ?_
  refine fg_9_5 (y := zX9_one) (Or.inl tw_1382) dX9_one_1 (fun x1 => ?_)
  refine pm_if_eq (tgt := 8) dX9_one_4 rfl ?_ ?_
  · refine pm_aload_n dX9_one_8 rfl rfl ?_
    refine pm_rcv (fun hb9 hc9 => ?_)
    refine pm_kV rfl (pm_V (y := zX9_one) (z := zX9_blanks) (As := []) zkX9_blanks pm_q9 (by decide) tw_1567 tw_1569 tw_103 dX9_one_9 rfl rfl (Nat.le_of_ble_eq_true rfl) hb9 hc9) (kcX9_blanks hfl a0 m) (fun m2 => ?_)
    refine pm_aload_n dX9_one_12 rfl rfl ?_
    refine pm_bipush (v := 12) dX9_one_13 kb_12 ?_
    refine pm_iconst (v := 5) dX9_one_15 ki_5 ?_
    refine pm_iconst (v := 1) dX9_one_16 ki_1 ?_
    refine pm_bipush (v := 19) dX9_one_17 kb_19 ?_
    refine pm_bipush (v := 20) dX9_one_19 kb_20 ?_
    refine pm_iconst (v := 0) dX9_one_21 ki_0 ?_
    refine pm_rcv (fun hb9 hc9 => ?_)
    refine pm_kI rfl (pm_V (y := zX9_one) (z := zX9_isWord) (As := [.int 12, .int 5, .int 1, .int 19, .int 20, .int 0]) zkX9_isWord pm_q9 (by decide) tw_1583 tw_1585 tw_107 dX9_one_22 rfl rfl (Nat.le_of_ble_eq_true rfl) hb9 hc9) (kcX9_isWord hfl a0 12 5 1 19 20 0 m2) (fun x4 m3 => ?_)
    refine pm_if_eq (tgt := 33) dX9_one_25 rfl ?_ ?_
    · refine pm_aload_n dX9_one_33 rfl rfl ?_
      refine pm_bipush (v := 13) dX9_one_34 kb_13 ?_
      refine pm_bipush (v := 15) dX9_one_36 kb_15 ?_
      refine pm_bipush (v := 19) dX9_one_38 kb_19 ?_
      refine pm_bipush (v := 20) dX9_one_40 kb_20 ?_
      refine pm_iconst (v := 0) dX9_one_42 ki_0 ?_
      refine pm_iconst (v := 0) dX9_one_43 ki_0 ?_
      refine pm_rcv (fun hb9 hc9 => ?_)
      refine pm_kI rfl (pm_V (y := zX9_one) (z := zX9_isWord) (As := [.int 13, .int 15, .int 19, .int 20, .int 0, .int 0]) zkX9_isWord pm_q9 (by decide) tw_1583 tw_1585 tw_107 dX9_one_44 rfl rfl (Nat.le_of_ble_eq_true rfl) hb9 hc9) (kcX9_isWord hfl a0 13 15 19 20 0 0 m3) (fun x6 m5 => ?_)
      refine pm_if_eq (tgt := 55) dX9_one_47 rfl ?_ ?_
      · refine pm_iconst (v := (-1)) dX9_one_55 ki_n1 ?_
        exact gX9_one_j56 hfl rs a0 (-1) m5 hrs
      · refine pm_bipush (v := 8) dX9_one_50 kb_8 ?_
        refine pm_goto (tgt := 56) dX9_one_52 rfl ?_
        exact gX9_one_j56 hfl rs a0 8 m5 hrs
    · refine pm_bipush (v := 7) dX9_one_28 kb_7 ?_
      refine pm_goto (tgt := 56) dX9_one_30 rfl ?_
      exact gX9_one_j56 hfl rs a0 7 m3 hrs
  · exact pm_vret rfl dX9_one_7
end GEN17
