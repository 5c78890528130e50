section GEN5
variable {l : Launch} {Γ : pmG} {d : Nat}
-- StruckPage$Paper.readLine(LStruckPage$Text;)Z
abbrev zX2_readLine : pmY := (⟨"StruckPage$Paper", "readLine", "(LStruckPage$Text;)Z"⟩, cX2_readLine, 3, some .boolean, [])
def X2_readLine_j64 (l0 : Nat) (l2 : Int32) (m : pmM) : pmR := pm_gR 2 l0 0 m fun r8 => pm_gI 2 l0 3 m fun x9 => pm_st 100 r8 x9 l2 m fun m10 => pm_gI 2 l0 3 m10 fun x11 => pm_pI 2 l0 3 (x11 + 1) m10 fun m12 => pm_gI 2 l0 4 m12 fun x13 => pm_pI 2 l0 4 (x13 + l2) m12 fun m14 => pm_oI 1 m14
def X2_readLine_L2 (l0 : Nat) (l1 : Nat) (again2 : (Int32 × pmM) → pmR) (s2 : Int32 × pmM) : pmR := pm_rc 7 l1 s2.2 <| pm_cI (X7_takeNumber l1 0 15 s2.2) fun x2 m1 => if x2 = 0 then (pm_oI 0 m1) else (if s2.1 < 8 then (pm_gR 2 l0 1 m1 fun r3 => pm_gI 2 l0 3 m1 fun x4 => pm_gI 7 l1 5 m1 fun x5 => pm_st 100 r3 ((x4 * 8) + s2.1) x5 m1 fun m6 => pm_bI (s2.1 + 1) fun x7 => if (8 : Int32) < x7 then (X2_readLine_j64 l0 x7 m6) else (pm_rc 7 l1 m6 <| pm_cI (X7_isAtDigit l1 m6) fun x16 m15 => if x16 = 0 then (X2_readLine_j64 l0 x7 m15) else (again2 (x7, m15)))) else (pm_gI 7 l1 4 m1 fun x17 => pm_rc 7 l1 m1 <| pm_cI (X7_fail l1 3 x17 m1) fun x19 m18 => pm_oI (vp_nar .boolean x19) m18))
def X2_readLine (a0 : Nat) (a1 : Nat) (m : pmM) : pmR := pm_lp pm_N (X2_readLine_L2 a0 a1) (0, m)
theorem zkX2_readLine : pm_zOk zX2_readLine 1 := ⟨rfl, tw_847, tw_160, by decide +kernel, by decide⟩
set_option maxRecDepth 100000 in
set_option maxHeartbeats 4000000 in
theorem gX2_readLine_j64 (hfl : l.flags = flags0) (l0 : Nat) (l2 : Int32) (m : pmM) : pm_G l Γ zX2_readLine (d + 3) 64 [.ref l0, pmU, .int l2] [] m (X2_readLine_j64 l0 l2 m) := by
  unfold X2_readLine_j64
  refine pm_aload_n dX2_readLine_64 rfl rfl ?_
  refine fg_2_0 (y := zX2_readLine) (Or.inl tw_239) dX2_readLine_65 (fun r8 => ?_)
  refine pm_aload_n dX2_readLine_68 rfl rfl ?_
  refine fg_2_3 (y := zX2_readLine) (Or.inl tw_246) dX2_readLine_69 (fun x9 => ?_)
  refine pm_iload_n dX2_readLine_72 rfl rfl ?_
  refine pm_iast (y := zX2_readLine) dX2_readLine_73 (fun m10 => ?_)
  refine pm_aload_n dX2_readLine_74 rfl rfl ?_
  refine pm_dup dX2_readLine_75 rfl ?_
  refine fg_2_3 (y := zX2_readLine) (Or.inl tw_246) dX2_readLine_76 (fun x11 => ?_)
  refine pm_iconst (v := 1) dX2_readLine_79 ki_1 ?_
  refine pm_iadd dX2_readLine_80 ?_
  refine fp_2_3 (y := zX2_readLine) (Or.inl tw_246) dX2_readLine_81 (fun m12 => ?_)
  refine pm_aload_n dX2_readLine_84 rfl rfl ?_
  refine pm_dup dX2_readLine_85 rfl ?_
  refine fg_2_4 (y := zX2_readLine) (Or.inl tw_251) dX2_readLine_86 (fun x13 => ?_)
  refine pm_iload_n dX2_readLine_89 rfl rfl ?_
  refine pm_iadd dX2_readLine_90 ?_
  refine fp_2_4 (y := zX2_readLine) (Or.inl tw_251) dX2_readLine_91 (fun m14 => ?_)
  refine pm_iconst (v := 1) dX2_readLine_94 ki_1 ?_
  exact pm_nret (ty := .boolean) (w := 1) rfl (by decide) (by decide) dX2_readLine_95
set_option maxRecDepth 100000 in
set_option maxHeartbeats 4000000 in
theorem gX2_readLine_L2 (hfl : l.flags = flags0) (l0 : Nat) (l1 : Nat) : ∀ (n : Nat) (s : Int32 × pmM), pm_G l Γ zX2_readLine (d + 3) 2 [.ref l0, .ref l1, .int s.1] [] s.2 (pm_lp n (X2_readLine_L2 l0 l1) s) :=
  pm_loop (lsf := fun s : Int32 × pmM => [.ref l0, .ref l1, .int s.1]) (mf := fun s : Int32 × pmM => s.2) (fun again2 hag2 s2 => by
    unfold X2_readLine_L2
    refine pm_aload_n dX2_readLine_2 rfl rfl ?_
    refine pm_iconst (v := 0) dX2_readLine_3 ki_0 ?_
    refine pm_bipush (v := 15) dX2_readLine_4 kb_15 ?_
    refine pm_rcv (fun hb9 hc9 => ?_)
    refine pm_kI rfl (pm_VN (y := zX2_readLine) (z := zX7_takeNumber) (As := [.int 0, .int 15]) zkX7_takeNumber pm_q7 (by decide) tw_848 tw_850 tw_41 dX2_readLine_6 rfl rfl (Nat.le_of_ble_eq_true rfl) hb9 hc9) (kcX7_takeNumber hfl l1 0 15 s2.2) (fun x2 m1 => ?_)
    refine pm_if_ne (tgt := 14) dX2_readLine_9 rfl ?_ ?_
    · refine pm_iload_n dX2_readLine_14 rfl rfl ?_
      refine pm_bipush (v := 8) dX2_readLine_15 kb_8 ?_
      refine pm_icmp_lt (tgt := 30) dX2_readLine_17 rfl ?_ ?_
      · refine pm_aload_n dX2_readLine_30 rfl rfl ?_
        refine fg_2_1 (y := zX2_readLine) (Or.inl tw_243) dX2_readLine_31 (fun r3 => ?_)
        refine pm_aload_n dX2_readLine_34 rfl rfl ?_
        refine fg_2_3 (y := zX2_readLine) (Or.inl tw_246) dX2_readLine_35 (fun x4 => ?_)
        refine pm_bipush (v := 8) dX2_readLine_38 kb_8 ?_
        refine pm_imul dX2_readLine_40 ?_
        refine pm_iload_n dX2_readLine_41 rfl rfl ?_
        refine pm_iadd dX2_readLine_42 ?_
        refine pm_aload_n dX2_readLine_43 rfl rfl ?_
        refine fg_7_5 (y := zX2_readLine) (Or.inr tw_208) dX2_readLine_44 (fun x5 => ?_)
        refine pm_iast (y := zX2_readLine) dX2_readLine_47 (fun m6 => ?_)
        refine pm_iincn (y := zX2_readLine) dX2_readLine_48 rfl ki_1 rfl (Nat.le_of_ble_eq_true rfl) (fun x7 => ?_)
        refine pm_eqls (ls2 := [.ref l0, .ref l1, .int x7]) rfl ?_
        refine pm_iload_n dX2_readLine_51 rfl rfl ?_
        refine pm_bipush (v := 8) dX2_readLine_52 kb_8 ?_
        refine pm_icmp_gt (tgt := 64) dX2_readLine_54 rfl ?_ ?_
        · refine pm_drop (ls2 := [.ref l0, pmU, .int x7]) (Nat.le_refl _) (pm_le_spec (pm_le_v (pm_le_u (pm_le_v (pm_le_n))))) ?_
          exact gX2_readLine_j64 hfl l0 x7 m6
        · refine pm_aload_n dX2_readLine_57 rfl rfl ?_
          refine pm_rcv (fun hb9 hc9 => ?_)
          refine pm_kI rfl (pm_VN (y := zX2_readLine) (z := zX7_isAtDigit) (As := []) zkX7_isAtDigit pm_q7 (by decide) tw_857 tw_854 tw_42 dX2_readLine_58 rfl rfl (Nat.le_of_ble_eq_true rfl) hb9 hc9) (kcX7_isAtDigit hfl l1 m6) (fun x16 m15 => ?_)
          refine pm_if_ne (tgt := 2) dX2_readLine_61 rfl ?_ ?_
          · exact hag2 (x7, m15)
          · refine pm_drop (ls2 := [.ref l0, pmU, .int x7]) (Nat.le_refl _) (pm_le_spec (pm_le_v (pm_le_u (pm_le_v (pm_le_n))))) ?_
            exact gX2_readLine_j64 hfl l0 x7 m15
      · refine pm_aload_n dX2_readLine_20 rfl rfl ?_
        refine pm_iconst (v := 3) dX2_readLine_21 ki_3 ?_
        refine pm_aload_n dX2_readLine_22 rfl rfl ?_
        refine fg_7_4 (y := zX2_readLine) (Or.inr tw_203) dX2_readLine_23 (fun x17 => ?_)
        refine pm_rcv (fun hb9 hc9 => ?_)
        refine pm_kI rfl (pm_VN (y := zX2_readLine) (z := zX7_fail) (As := [.int 3, .int x17]) zkX7_fail pm_q7 (by decide) tw_843 tw_786 tw_38 dX2_readLine_26 rfl rfl (Nat.le_of_ble_eq_true rfl) hb9 hc9) (kcX7_fail hfl l1 3 x17 m1) (fun x19 m18 => ?_)
        exact pm_nret (ty := .boolean) (w := vp_nar .boolean x19) rfl (by decide) rfl dX2_readLine_29
    · refine pm_iconst (v := 0) dX2_readLine_12 ki_0 ?_
      exact pm_nret (ty := .boolean) (w := 0) rfl (by decide) (by decide) dX2_readLine_13)
set_option maxRecDepth 100000 in
set_option maxHeartbeats 4000000 in
theorem kcX2_readLine (hfl : l.flags = flags0) (a0 : Nat) (a1 : Nat) (m : pmM) : pm_C l Γ zX2_readLine (d + 3) [.ref a0, .ref a1] m (X2_readLine a0 a1 m) := by
  refine pm_enter (ls := [.ref a0, .ref a1, pmU]) hfl (by decide +kernel) rfl (Nat.le_of_ble_eq_true rfl) rfl (Nat.le_of_ble_eq_true rfl) ?_
  unfold X2_readLine
  refine pm_iconst (v := 0) dX2_readLine_0 ki_0 ?_
  refine pm_istore_n (ls2 := [.ref a0, .ref a1, .int 0]) dX2_readLine_1 rfl rfl (Nat.le_of_ble_eq_true rfl) rfl ?_
  exact gX2_readLine_L2 hfl a0 a1 pm_N (0, m)
-- StruckPage$Paper.readCell(LStruckPage$Text;)Z
abbrev zX2_readCell : pmY := (⟨"StruckPage$Paper", "readCell", "(LStruckPage$Text;)Z"⟩, cX2_readCell, 3, some .boolean, [])
def X2_readCell (a0 : Nat) (a1 : Nat) (m : pmM) : pmR := pm_rc 7 a1 m <| pm_cI (X7_takeNumber a1 0 3 m) fun x2 m1 => if x2 = 0 then (pm_oI 0 m1) else (pm_gI 7 a1 5 m1 fun x3 => pm_rc 7 a1 m1 <| pm_cI (X7_takeNumber a1 0 99 m1) fun x5 m4 => if x5 = 0 then (pm_oI 0 m4) else (pm_gR 2 a0 2 m4 fun r6 => pm_gI 7 a1 5 m4 fun x7 => pm_st 100 r6 x3 x7 m4 fun m8 => pm_oI 1 m8))
theorem zkX2_readCell : pm_zOk zX2_readCell 1 := ⟨rfl, tw_861, tw_160, by decide +kernel, by decide⟩
set_option maxRecDepth 100000 in
set_option maxHeartbeats 4000000 in
theorem kcX2_readCell (hfl : l.flags = flags0) (a0 : Nat) (a1 : Nat) (m : pmM) : pm_C l Γ zX2_readCell (d + 3) [.ref a0, .ref a1] m (X2_readCell a0 a1 m) := by
  refine pm_enter (ls := [.ref a0, .ref a1, pmU]) hfl (by decide +kernel) rfl (Nat.le_of_ble_eq_true rfl) rfl (Nat.le_of_ble_eq_true rfl) ?_
  unfold X2_readCell
  refine pm_aload_n dX2_readCell_0 rfl rfl ?_
  refine pm_iconst (v := 0) dX2_readCell_1 ki_0 ?_
  refine pm_iconst (v := 3) dX2_readCell_2 ki_3 ?_
  refine pm_rcv (fun hb9 hc9 => ?_)
  refine pm_kI rfl (pm_VN (y := zX2_readCell) (z := zX7_takeNumber) (As := [.int 0, .int 3]) zkX7_takeNumber pm_q7 (by decide) tw_848 tw_850 tw_41 dX2_readCell_3 rfl rfl (Nat.le_of_ble_eq_true rfl) hb9 hc9) (kcX7_takeNumber hfl a1 0 3 m) (fun x2 m1 => ?_)
  refine pm_if_ne (tgt := 11) dX2_readCell_6 rfl ?_ ?_
  · refine pm_aload_n dX2_readCell_11 rfl rfl ?_
    refine fg_7_5 (y := zX2_readCell) (Or.inr tw_208) dX2_readCell_12 (fun x3 => ?_)
    refine pm_istore_n (ls2 := [.ref a0, .ref a1, .int x3]) dX2_readCell_15 rfl rfl (Nat.le_of_ble_eq_true rfl) rfl ?_
    refine pm_aload_n dX2_readCell_16 rfl rfl ?_
    refine pm_iconst (v := 0) dX2_readCell_17 ki_0 ?_
    refine pm_bipush (v := 99) dX2_readCell_18 kb_99 ?_
    refine pm_rcv (fun hb9 hc9 => ?_)
    refine pm_kI rfl (pm_VN (y := zX2_readCell) (z := zX7_takeNumber) (As := [.int 0, .int 99]) zkX7_takeNumber pm_q7 (by decide) tw_848 tw_850 tw_41 dX2_readCell_20 rfl rfl (Nat.le_of_ble_eq_true rfl) hb9 hc9) (kcX7_takeNumber hfl a1 0 99 m1) (fun x5 m4 => ?_)
    refine pm_if_ne (tgt := 28) dX2_readCell_23 rfl ?_ ?_
    · refine pm_aload_n dX2_readCell_28 rfl rfl ?_
      refine fg_2_2 (y := zX2_readCell) (Or.inl tw_244) dX2_readCell_29 (fun r6 => ?_)
      refine pm_iload_n dX2_readCell_32 rfl rfl ?_
      refine pm_aload_n dX2_readCell_33 rfl rfl ?_
      refine fg_7_5 (y := zX2_readCell) (Or.inr tw_208) dX2_readCell_34 (fun x7 => ?_)
      refine pm_iast (y := zX2_readCell) dX2_readCell_37 (fun m8 => ?_)
      refine pm_iconst (v := 1) dX2_readCell_38 ki_1 ?_
      exact pm_nret (ty := .boolean) (w := 1) rfl (by decide) (by decide) dX2_readCell_39
    · refine pm_iconst (v := 0) dX2_readCell_26 ki_0 ?_
      exact pm_nret (ty := .boolean) (w := 0) rfl (by decide) (by decide) dX2_readCell_27
  · refine pm_iconst (v := 0) dX2_readCell_9 ki_0 ?_
    exact pm_nret (ty := .boolean) (w := 0) rfl (by decide) (by decide) dX2_readCell_10
-- StruckPage$Paper.readInk(LStruckPage$Text;)Z
abbrev zX2_readInk : pmY := (⟨"StruckPage$Paper", "readInk", "(LStruckPage$Text;)Z"⟩, cX2_readInk, 2, some .boolean, [])
def X2_readInk (a0 : Nat) (a1 : Nat) (m : pmM) : pmR := pm_rc 7 a1 m <| pm_cI (X7_takeNumber a1 0 200 m) fun x2 m1 => if x2 = 0 then (pm_oI 0 m1) else (pm_gI 7 a1 5 m1 fun x3 => pm_pI 2 a0 5 x3 m1 fun m4 => pm_oI 1 m4)
theorem zkX2_readInk : pm_zOk zX2_readInk 1 := ⟨rfl, tw_865, tw_160, by decide +kernel, by decide⟩
set_option maxRecDepth 100000 in
set_option maxHeartbeats 4000000 in
theorem kcX2_readInk (hfl : l.flags = flags0) (a0 : Nat) (a1 : Nat) (m : pmM) : pm_C l Γ zX2_readInk (d + 3) [.ref a0, .ref a1] m (X2_readInk a0 a1 m) := by
  refine pm_enter (ls := [.ref a0, .ref a1]) hfl (by decide +kernel) rfl (Nat.le_of_ble_eq_true rfl) rfl (Nat.le_of_ble_eq_true rfl) ?_
  unfold X2_readInk
  refine pm_aload_n dX2_readInk_0 rfl rfl ?_
  refine pm_iconst (v := 0) dX2_readInk_1 ki_0 ?_
  refine pm_sipush (v := 200) dX2_readInk_2 ks_200 ?_
  refine pm_rcv (fun hb9 hc9 => ?_)
  refine pm_kI rfl (pm_VN (y := zX2_readInk) (z := zX7_takeNumber) (As := [.int 0, .int 200]) zkX7_takeNumber pm_q7 (by decide) tw_848 tw_850 tw_41 dX2_readInk_5 rfl rfl (Nat.le_of_ble_eq_true rfl) hb9 hc9) (kcX7_takeNumber hfl a1 0 200 m) (fun x2 m1 => ?_)
  refine pm_if_ne (tgt := 13) dX2_readInk_8 rfl ?_ ?_
  · refine pm_aload_n dX2_readInk_13 rfl rfl ?_
    refine pm_aload_n dX2_readInk_14 rfl rfl ?_
    refine fg_7_5 (y := zX2_readInk) (Or.inr tw_208) dX2_readInk_15 (fun x3 => ?_)
    refine fp_2_5 (y := zX2_readInk) (Or.inl tw_253) dX2_readInk_18 (fun m4 => ?_)
    refine pm_iconst (v := 1) dX2_readInk_21 ki_1 ?_
    exact pm_nret (ty := .boolean) (w := 1) rfl (by decide) (by decide) dX2_readInk_22
  · refine pm_iconst (v := 0) dX2_readInk_11 ki_0 ?_
    exact pm_nret (ty := .boolean) (w := 0) rfl (by decide) (by decide) dX2_readInk_12
-- StruckPage$Paper.readClause(LStruckPage$Text;I)Z
abbrev zX2_readClause : pmY := (⟨"StruckPage$Paper", "readClause", "(LStruckPage$Text;I)Z"⟩, cX2_readClause, 6, some .boolean, [])
def X2_readClause_j71 (l1 : Nat) (m : pmM) : pmR := pm_gI 7 l1 4 m fun x7 => pm_rc 7 l1 m <| pm_cI (X7_fail l1 3 x7 m) fun x9 m8 => pm_oI (vp_nar .boolean x9) m8
def X2_readClause_j132 (t0 : Int32) (m : pmM) : pmR := pm_oI (vp_nar .boolean t0) m
def X2_readClause_j131 (m : pmM) : pmR := X2_readClause_j132 0 m
def X2_readClause_j111 (l1 : Nat) (t0 : Int32) (m : pmM) : pmR := if t0 = 0 then (X2_readClause_j131 m) else (pm_rc 7 l1 m <| pm_cI (X7_takeSign l1 59 m) fun x13 m12 => if x13 = 0 then (X2_readClause_j131 m12) else (X2_readClause_j132 1 m12))
def X2_readClause_j81 (l0 : Nat) (l1 : Nat) (l3 : Int32) (l4 : Int32) (m : pmM) : pmR := if l3 = 0 then (if l4 = 0 then (pm_rc 2 l0 m <| pm_cI (X2_readInk l0 l1 m) fun x11 m10 => X2_readClause_j111 l1 x11 m10) else (pm_rc 2 l0 m <| pm_cI (X2_readCell l0 l1 m) fun x15 m14 => X2_readClause_j111 l1 x15 m14)) else (pm_rc 2 l0 m <| pm_cI (X2_readLine l0 l1 m) fun x17 m16 => X2_readClause_j111 l1 x17 m16)
def X2_readClause_j52 (l0 : Nat) (l1 : Nat) (l2 : Int32) (l3 : Int32) (l4 : Int32) (m : pmM) : pmR := if (60 : Int32) ≤ l2 then (X2_readClause_j71 l1 m) else (if l3 = 0 then (X2_readClause_j81 l0 l1 l3 l4 m) else (pm_gI 2 l0 3 m fun x18 => if x18 < 6 then (X2_readClause_j81 l0 l1 l3 l4 m) else (X2_readClause_j71 l1 m)))
def X2_readClause (a0 : Nat) (a1 : Nat) (a2 : Int32) (m : pmM) : pmR := pm_rc 7 a1 m <| pm_cI (X7_takeLetters a1 m) fun x2 m1 => if x2 = 0 then (pm_oI 0 m1) else (pm_rc 7 a1 m1 <| pm_cI (X7_took a1 3 m1) fun x4 m3 => pm_rc 7 a1 m3 <| pm_cI (X7_took a1 4 m3) fun x6 m5 => if x4 = 0 then (if x6 = 0 then (pm_rc 7 a1 m5 <| pm_cI (X7_took a1 5 m5) fun x20 m19 => if x20 = 0 then (pm_gI 7 a1 4 m19 fun x21 => pm_rc 7 a1 m19 <| pm_cI (X7_fail a1 1 x21 m19) fun x23 m22 => pm_oI (vp_nar .boolean x23) m22) else (X2_readClause_j52 a0 a1 a2 x4 x6 m19)) else (X2_readClause_j52 a0 a1 a2 x4 x6 m5)) else (X2_readClause_j52 a0 a1 a2 x4 x6 m5))
theorem zkX2_readClause : pm_zOk zX2_readClause 2 := ⟨rfl, tw_774, tw_160, by decide +kernel, by decide⟩
set_option maxRecDepth 100000 in
set_option maxHeartbeats 4000000 in
theorem gX2_readClause_j71 (hfl : l.flags = flags0) (l1 : Nat) (m : pmM) : pm_G l Γ zX2_readClause (d + 6) 71 [pmU, .ref l1, pmU, pmU, pmU, pmU] [] m (X2_readClause_j71 l1 m) := by
  unfold X2_readClause_j71
  refine pm_aload_n dX2_readClause_71 rfl rfl ?_
  refine pm_iconst (v := 3) dX2_readClause_72 ki_3 ?_
  refine pm_aload_n dX2_readClause_73 rfl rfl ?_
  refine fg_7_4 (y := zX2_readClause) (Or.inr tw_203) dX2_readClause_74 (fun x7 => ?_)
  refine pm_rcv (fun hb9 hc9 => ?_)
  refine pm_kI rfl (pm_VN (y := zX2_readClause) (z := zX7_fail) (As := [.int 3, .int x7]) zkX7_fail pm_q7 (by decide) tw_843 tw_786 tw_38 dX2_readClause_77 rfl rfl (Nat.le_of_ble_eq_true rfl) hb9 hc9) (kcX7_fail hfl l1 3 x7 m) (fun x9 m8 => ?_)
  exact pm_nret (ty := .boolean) (w := vp_nar .boolean x9) rfl (by decide) rfl dX2_readClause_80
set_option maxRecDepth 100000 in
set_option maxHeartbeats 4000000 in
theorem gX2_readClause_j132 (hfl : l.flags = flags0) (t0 : Int32) (m : pmM) : pm_G l Γ zX2_readClause (d + 6) 132 [pmU, pmU, pmU, pmU, pmU, pmU] [.int t0] m (X2_readClause_j132 t0 m) := by
  unfold X2_readClause_j132
  exact pm_nret (ty := .boolean) (w := vp_nar .boolean t0) rfl (by decide) rfl dX2_readClause_132
set_option maxRecDepth 100000 in
set_option maxHeartbeats 4000000 in
theorem gX2_readClause_j131 (hfl : l.flags = flags0) (m : pmM) : pm_G l Γ zX2_readClause (d + 6) 131 [pmU, pmU, pmU, pmU, pmU, pmU] [] m (X2_readClause_j131 m) := by
  unfold X2_readClause_j131
  refine pm_iconst (v := 0) dX2_readClause_131 ki_0 ?_
  exact gX2_readClause_j132 hfl 0 m
set_option maxRecDepth 100000 in
set_option maxHeartbeats 4000000 in
theorem gX2_readClause_j111 (hfl : l.flags = flags0) (l1 : Nat) (t0 : Int32) (m : pmM) : pm_G l Γ zX2_readClause (d + 6) 111 [pmU, .ref l1, pmU, pmU, pmU, pmU] [.int t0] m (X2_readClause_j111 l1 t0 m) := by
  unfold X2_readClause_j111
  refine pm_istore (ls2 := [pmU, .ref l1, pmU, pmU, pmU, .int t0]) dX2_readClause_111 rfl (Nat.le_of_ble_eq_true rfl) rfl ?_
  refine pm_iload dX2_readClause_113 rfl ?_
  refine pm_if_eq (tgt := 131) dX2_readClause_115 rfl ?_ ?_
  · refine pm_drop (ls2 := [pmU, pmU, pmU, pmU, pmU, pmU]) (Nat.le_refl _) (pm_le_spec (pm_le_u (pm_le_u (pm_le_u (pm_le_u (pm_le_u (pm_le_u (pm_le_n)))))))) ?_
    exact gX2_readClause_j131 hfl m
  · refine pm_aload_n dX2_readClause_118 rfl rfl ?_
    refine pm_bipush (v := 59) dX2_readClause_119 kb_59 ?_
    refine pm_rcv (fun hb9 hc9 => ?_)
    refine pm_kI rfl (pm_VN (y := zX2_readClause) (z := zX7_takeSign) (As := [.int 59]) zkX7_takeSign pm_q7 (by decide) tw_866 tw_868 tw_45 dX2_readClause_121 rfl rfl (Nat.le_of_ble_eq_true rfl) hb9 hc9) (kcX7_takeSign hfl l1 59 m) (fun x13 m12 => ?_)
    refine pm_if_eq (tgt := 131) dX2_readClause_124 rfl ?_ ?_
    · refine pm_drop (ls2 := [pmU, pmU, pmU, pmU, pmU, pmU]) (Nat.le_refl _) (pm_le_spec (pm_le_u (pm_le_u (pm_le_u (pm_le_u (pm_le_u (pm_le_u (pm_le_n)))))))) ?_
      exact gX2_readClause_j131 hfl m12
    · refine pm_iconst (v := 1) dX2_readClause_127 ki_1 ?_
      refine pm_goto (tgt := 132) dX2_readClause_128 rfl ?_
      refine pm_drop (ls2 := [pmU, pmU, pmU, pmU, pmU, pmU]) (Nat.le_refl _) (pm_le_spec (pm_le_u (pm_le_u (pm_le_u (pm_le_u (pm_le_u (pm_le_u (pm_le_n)))))))) ?_
      exact gX2_readClause_j132 hfl 1 m12
set_option maxRecDepth 100000 in
set_option maxHeartbeats 4000000 in
theorem gX2_readClause_j81 (hfl : l.flags = flags0) (l0 : Nat) (l1 : Nat) (l3 : Int32) (l4 : Int32) (m : pmM) : pm_G l Γ zX2_readClause (d + 6) 81 [.ref l0, .ref l1, pmU, .int l3, .int l4, pmU] [] m (X2_readClause_j81 l0 l1 l3 l4 m) := by
  unfold X2_readClause_j81
  refine pm_iload_n dX2_readClause_81 rfl rfl ?_
  refine pm_if_eq (tgt := 93) dX2_readClause_82 rfl ?_ ?_
  · refine pm_iload dX2_readClause_93 rfl ?_
    refine pm_if_eq (tgt := 106) dX2_readClause_95 rfl ?_ ?_
    · refine pm_aload_n dX2_readClause_106 rfl rfl ?_
      refine pm_aload_n dX2_readClause_107 rfl rfl ?_
      refine pm_rcv (fun hb9 hc9 => ?_)
      refine pm_kI rfl (pm_V (y := zX2_readClause) (z := zX2_readInk) (As := [.ref l1]) zkX2_readInk pm_q2 (by decide) tw_862 tw_864 tw_44 dX2_readClause_108 rfl rfl (Nat.le_of_ble_eq_true rfl) hb9 hc9) (kcX2_readInk hfl l0 l1 m) (fun x11 m10 => ?_)
      refine pm_drop (ls2 := [pmU, .ref l1, pmU, pmU, pmU, pmU]) (Nat.le_refl _) (pm_le_spec (pm_le_u (pm_le_v (pm_le_u (pm_le_u (pm_le_u (pm_le_u (pm_le_n)))))))) ?_
      exact gX2_readClause_j111 hfl l1 x11 m10
    · refine pm_aload_n dX2_readClause_98 rfl rfl ?_
      refine pm_aload_n dX2_readClause_99 rfl rfl ?_
      refine pm_rcv (fun hb9 hc9 => ?_)
      refine pm_kI rfl (pm_V (y := zX2_readClause) (z := zX2_readCell) (As := [.ref l1]) zkX2_readCell pm_q2 (by decide) tw_858 tw_860 tw_43 dX2_readClause_100 rfl rfl (Nat.le_of_ble_eq_true rfl) hb9 hc9) (kcX2_readCell hfl l0 l1 m) (fun x15 m14 => ?_)
      refine pm_goto (tgt := 111) dX2_readClause_103 rfl ?_
      refine pm_drop (ls2 := [pmU, .ref l1, pmU, pmU, pmU, pmU]) (Nat.le_refl _) (pm_le_spec (pm_le_u (pm_le_v (pm_le_u (pm_le_u (pm_le_u (pm_le_u (pm_le_n)))))))) ?_
      exact gX2_readClause_j111 hfl l1 x15 m14
  · refine pm_aload_n dX2_readClause_85 rfl rfl ?_
    refine pm_aload_n dX2_readClause_86 rfl rfl ?_
    refine pm_rcv (fun hb9 hc9 => ?_)
    refine pm_kI rfl (pm_V (y := zX2_readClause) (z := zX2_readLine) (As := [.ref l1]) zkX2_readLine pm_q2 (by decide) tw_844 tw_846 tw_40 dX2_readClause_87 rfl rfl (Nat.le_of_ble_eq_true rfl) hb9 hc9) (kcX2_readLine hfl l0 l1 m) (fun x17 m16 => ?_)
    refine pm_goto (tgt := 111) dX2_readClause_90 rfl ?_
    refine pm_drop (ls2 := [pmU, .ref l1, pmU, pmU, pmU, pmU]) (Nat.le_refl _) (pm_le_spec (pm_le_u (pm_le_v (pm_le_u (pm_le_u (pm_le_u (pm_le_u (pm_le_n)))))))) ?_
    exact gX2_readClause_j111 hfl l1 x17 m16
set_option maxRecDepth 100000 in
set_option maxHeartbeats 4000000 in
theorem gX2_readClause_j52 (hfl : l.flags = flags0) (l0 : Nat) (l1 : Nat) (l2 : Int32) (l3 : Int32) (l4 : Int32) (m : pmM) : pm_G l Γ zX2_readClause (d + 6) 52 [.ref l0, .ref l1, .int l2, .int l3, .int l4, pmU] [] m (X2_readClause_j52 l0 l1 l2 l3 l4 m) := by
  unfold X2_readClause_j52
  refine pm_iload_n dX2_readClause_52 rfl rfl ?_
  refine pm_bipush (v := 60) dX2_readClause_53 kb_60 ?_
  refine pm_icmp_ge (tgt := 71) dX2_readClause_55 rfl ?_ ?_
  · refine pm_drop (ls2 := [pmU, .ref l1, pmU, pmU, pmU, pmU]) (Nat.le_refl _) (pm_le_spec (pm_le_u (pm_le_v (pm_le_u (pm_le_u (pm_le_u (pm_le_u (pm_le_n)))))))) ?_
    exact gX2_readClause_j71 hfl l1 m
  · refine pm_iload_n dX2_readClause_58 rfl rfl ?_
    refine pm_if_eq (tgt := 81) dX2_readClause_59 rfl ?_ ?_
    · refine pm_drop (ls2 := [.ref l0, .ref l1, pmU, .int l3, .int l4, pmU]) (Nat.le_refl _) (pm_le_spec (pm_le_v (pm_le_v (pm_le_u (pm_le_v (pm_le_v (pm_le_u (pm_le_n)))))))) ?_
      exact gX2_readClause_j81 hfl l0 l1 l3 l4 m
    · refine pm_aload_n dX2_readClause_62 rfl rfl ?_
      refine fg_2_3 (y := zX2_readClause) (Or.inl tw_246) dX2_readClause_63 (fun x18 => ?_)
      refine pm_bipush (v := 6) dX2_readClause_66 kb_6 ?_
      refine pm_icmp_lt (tgt := 81) dX2_readClause_68 rfl ?_ ?_
      · refine pm_drop (ls2 := [.ref l0, .ref l1, pmU, .int l3, .int l4, pmU]) (Nat.le_refl _) (pm_le_spec (pm_le_v (pm_le_v (pm_le_u (pm_le_v (pm_le_v (pm_le_u (pm_le_n)))))))) ?_
        exact gX2_readClause_j81 hfl l0 l1 l3 l4 m
      · refine pm_drop (ls2 := [pmU, .ref l1, pmU, pmU, pmU, pmU]) (Nat.le_refl _) (pm_le_spec (pm_le_u (pm_le_v (pm_le_u (pm_le_u (pm_le_u (pm_le_u (pm_le_n)))))))) ?_
        exact gX2_readClause_j71 hfl l1 m
set_option maxRecDepth 100000 in
set_option maxHeartbeats 4000000 in
theorem kcX2_readClause (hfl : l.flags = flags0) (a0 : Nat) (a1 : Nat) (a2 : Int32) (m : pmM) : pm_C l Γ zX2_readClause (d + 6) [.ref a0, .ref a1, .int a2] m (X2_readClause a0 a1 a2 m) := by
  refine pm_enter (ls := [.ref a0, .ref a1, .int a2, pmU, pmU, pmU]) hfl (by decide +kernel) rfl (Nat.le_of_ble_eq_true rfl) rfl (Nat.le_of_ble_eq_true rfl) ?_
  unfold X2_readClause
  refine pm_aload_n dX2_readClause_0 rfl rfl ?_
  refine pm_rcv (fun hb9 hc9 => ?_)
  refine pm_kI rfl (pm_VN (y := zX2_readClause) (z := zX7_takeLetters) (As := []) zkX7_takeLetters pm_q7 (by decide) tw_775 tw_777 tw_36 dX2_readClause_1 rfl rfl (Nat.le_of_ble_eq_true rfl) hb9 hc9) (kcX7_takeLetters hfl a1 m) (fun x2 m1 => ?_)
  refine pm_if_ne (tgt := 9) dX2_readClause_4 rfl ?_ ?_
  · refine pm_aload_n dX2_readClause_9 rfl rfl ?_
    refine pm_ldcs (y := zX2_readClause) (own := "StruckPage$Paper") (tx := "line") (k := 3) (by decide +kernel) rfl dX2_readClause_10 ?_
    refine pm_rcv (fun hb9 hc9 => ?_)
    refine pm_kI rfl (pm_VN (y := zX2_readClause) (z := zX7_took) (As := [.ref 3]) zkX7_took pm_q7 (by decide) tw_789 tw_791 tw_39 dX2_readClause_12 rfl rfl (Nat.le_of_ble_eq_true rfl) hb9 hc9) (kcX7_took hfl a1 3 m1) (fun x4 m3 => ?_)
    refine pm_istore_n (ls2 := [.ref a0, .ref a1, .int a2, .int x4, pmU, pmU]) dX2_readClause_15 rfl rfl (Nat.le_of_ble_eq_true rfl) rfl ?_
    refine pm_aload_n dX2_readClause_16 rfl rfl ?_
    refine pm_ldcs (y := zX2_readClause) (own := "StruckPage$Paper") (tx := "cell") (k := 4) (by decide +kernel) rfl dX2_readClause_17 ?_
    refine pm_rcv (fun hb9 hc9 => ?_)
    refine pm_kI rfl (pm_VN (y := zX2_readClause) (z := zX7_took) (As := [.ref 4]) zkX7_took pm_q7 (by decide) tw_789 tw_791 tw_39 dX2_readClause_19 rfl rfl (Nat.le_of_ble_eq_true rfl) hb9 hc9) (kcX7_took hfl a1 4 m3) (fun x6 m5 => ?_)
    refine pm_istore (ls2 := [.ref a0, .ref a1, .int a2, .int x4, .int x6, pmU]) dX2_readClause_22 rfl (Nat.le_of_ble_eq_true rfl) rfl ?_
    refine pm_iload_n dX2_readClause_24 rfl rfl ?_
    refine pm_if_ne (tgt := 52) dX2_readClause_25 rfl ?_ ?_
    · exact gX2_readClause_j52 hfl a0 a1 a2 x4 x6 m5
    · refine pm_iload dX2_readClause_28 rfl ?_
      refine pm_if_ne (tgt := 52) dX2_readClause_30 rfl ?_ ?_
      · exact gX2_readClause_j52 hfl a0 a1 a2 x4 x6 m5
      · refine pm_aload_n dX2_readClause_33 rfl rfl ?_
        refine pm_ldcs (y := zX2_readClause) (own := "StruckPage$Paper") (tx := "ink") (k := 5) (by decide +kernel) rfl dX2_readClause_34 ?_
        refine pm_rcv (fun hb9 hc9 => ?_)
        refine pm_kI rfl (pm_VN (y := zX2_readClause) (z := zX7_took) (As := [.ref 5]) zkX7_took pm_q7 (by decide) tw_789 tw_791 tw_39 dX2_readClause_36 rfl rfl (Nat.le_of_ble_eq_true rfl) hb9 hc9) (kcX7_took hfl a1 5 m5) (fun x20 m19 => ?_)
        refine pm_if_ne (tgt := 52) dX2_readClause_39 rfl ?_ ?_
        · exact gX2_readClause_j52 hfl a0 a1 a2 x4 x6 m19
        · refine pm_aload_n dX2_readClause_42 rfl rfl ?_
          refine pm_iconst (v := 1) dX2_readClause_43 ki_1 ?_
          refine pm_aload_n dX2_readClause_44 rfl rfl ?_
          refine fg_7_4 (y := zX2_readClause) (Or.inr tw_203) dX2_readClause_45 (fun x21 => ?_)
          refine pm_rcv (fun hb9 hc9 => ?_)
          refine pm_kI rfl (pm_VN (y := zX2_readClause) (z := zX7_fail) (As := [.int 1, .int x21]) zkX7_fail pm_q7 (by decide) tw_843 tw_786 tw_38 dX2_readClause_48 rfl rfl (Nat.le_of_ble_eq_true rfl) hb9 hc9) (kcX7_fail hfl a1 1 x21 m19) (fun x23 m22 => ?_)
          exact pm_nret (ty := .boolean) (w := vp_nar .boolean x23) rfl (by decide) rfl dX2_readClause_51
  · refine pm_iconst (v := 0) dX2_readClause_7 ki_0 ?_
    exact pm_nret (ty := .boolean) (w := 0) rfl (by decide) (by decide) dX2_readClause_8
-- StruckPage$Paper.readFrom(LStruckPage$Text;)Z
abbrev zX2_readFrom : pmY := (⟨"StruckPage$Paper", "readFrom", "(LStruckPage$Text;)Z"⟩, cX2_readFrom, 3, some .boolean, [])
def X2_readFrom_L38 (l0 : Nat) (l1 : Nat) (again38 : (Int32 × pmM) → pmR) (s38 : Int32 × pmM) : pmR := if (60 : Int32) < s38.1 then (pm_oI 0 s38.2) else (pm_rc 7 l1 s38.2 <| pm_cI (X7_peek l1 s38.2) fun x5 m4 => if x5 = (-1) then (pm_oI 1 m4) else (pm_rc 2 l0 m4 <| pm_cI (X2_readClause l0 l1 s38.1 m4) fun x7 m6 => if x7 = 0 then (pm_oI 0 m6) else (pm_bI (s38.1 + 1) fun x8 => again38 (x8, m6))))
def X2_readFrom_L18 (l0 : Nat) (l1 : Nat) (again18 : (Int32 × pmM) → pmR) (s18 : Int32 × pmM) : pmR := if (4 : Int32) ≤ s18.1 then (pm_lp pm_N (X2_readFrom_L38 l0 l1) (0, s18.2)) else (pm_gR 2 l0 2 s18.2 fun r9 => pm_st 100 r9 s18.1 0 s18.2 fun m10 => pm_bI (s18.1 + 1) fun x11 => again18 (x11, m10))
def X2_readFrom (a0 : Nat) (a1 : Nat) (m : pmM) : pmR := pm_pI 2 a0 3 0 m fun m1 => pm_pI 2 a0 4 0 m1 fun m2 => pm_pI 2 a0 5 60 m2 fun m3 => pm_lp pm_N (X2_readFrom_L18 a0 a1) (0, m3)
theorem zkX2_readFrom : pm_zOk zX2_readFrom 1 := ⟨rfl, tw_766, tw_160, by decide +kernel, by decide⟩
set_option maxRecDepth 100000 in
set_option maxHeartbeats 4000000 in
theorem gX2_readFrom_L38 (hfl : l.flags = flags0) (l0 : Nat) (l1 : Nat) : ∀ (n : Nat) (s : Int32 × pmM), pm_G l Γ zX2_readFrom (d + 7) 38 [.ref l0, .ref l1, .int s.1] [] s.2 (pm_lp n (X2_readFrom_L38 l0 l1) s) :=
  pm_loop (lsf := fun s : Int32 × pmM => [.ref l0, .ref l1, .int s.1]) (mf := fun s : Int32 × pmM => s.2) (fun again38 hag38 s38 => by
    unfold X2_readFrom_L38
    refine pm_iload_n dX2_readFrom_38 rfl rfl ?_
    refine pm_bipush (v := 60) dX2_readFrom_39 kb_60 ?_
    refine pm_icmp_gt (tgt := 71) dX2_readFrom_41 rfl ?_ ?_
    · refine pm_iconst (v := 0) dX2_readFrom_71 ki_0 ?_
      exact pm_nret (ty := .boolean) (w := 0) rfl (by decide) (by decide) dX2_readFrom_72
    · refine pm_aload_n dX2_readFrom_44 rfl rfl ?_
      refine pm_rcv (fun hb9 hc9 => ?_)
      refine pm_kI rfl (pm_VN (y := zX2_readFrom) (z := zX7_peek) (As := []) zkX7_peek pm_q7 (by decide) tw_767 tw_769 tw_34 dX2_readFrom_45 rfl rfl (Nat.le_of_ble_eq_true rfl) hb9 hc9) (kcX7_peek hfl l1 s38.2) (fun x5 m4 => ?_)
      refine pm_iconst (v := (-1)) dX2_readFrom_48 ki_n1 ?_
      refine pm_icmp_ne (tgt := 54) dX2_readFrom_49 rfl ?_ ?_
      · refine pm_aload_n dX2_readFrom_54 rfl rfl ?_
        refine pm_aload_n dX2_readFrom_55 rfl rfl ?_
        refine pm_iload_n dX2_readFrom_56 rfl rfl ?_
        refine pm_rcv (fun hb9 hc9 => ?_)
        refine pm_kI rfl (pm_V (y := zX2_readFrom) (z := zX2_readClause) (As := [.ref l1, .int s38.1]) zkX2_readClause pm_q2 (by decide) tw_771 tw_773 tw_35 dX2_readFrom_57 rfl rfl (Nat.le_of_ble_eq_true rfl) hb9 hc9) (kcX2_readClause hfl l0 l1 s38.1 m4) (fun x7 m6 => ?_)
        refine pm_if_ne (tgt := 65) dX2_readFrom_60 rfl ?_ ?_
        · refine pm_iincn (y := zX2_readFrom) dX2_readFrom_65 rfl ki_1 rfl (Nat.le_of_ble_eq_true rfl) (fun x8 => ?_)
          refine pm_eqls (ls2 := [.ref l0, .ref l1, .int x8]) rfl ?_
          refine pm_goto (tgt := 38) dX2_readFrom_68 rfl ?_
          exact hag38 (x8, m6)
        · refine pm_iconst (v := 0) dX2_readFrom_63 ki_0 ?_
          exact pm_nret (ty := .boolean) (w := 0) rfl (by decide) (by decide) dX2_readFrom_64
      · refine pm_iconst (v := 1) dX2_readFrom_52 ki_1 ?_
        exact pm_nret (ty := .boolean) (w := 1) rfl (by decide) (by decide) dX2_readFrom_53)
set_option maxRecDepth 100000 in
set_option maxHeartbeats 4000000 in
theorem gX2_readFrom_L18 (hfl : l.flags = flags0) (l0 : Nat) (l1 : Nat) : ∀ (n : Nat) (s : Int32 × pmM), pm_G l Γ zX2_readFrom (d + 7) 18 [.ref l0, .ref l1, .int s.1] [] s.2 (pm_lp n (X2_readFrom_L18 l0 l1) s) :=
  pm_loop (lsf := fun s : Int32 × pmM => [.ref l0, .ref l1, .int s.1]) (mf := fun s : Int32 × pmM => s.2) (fun again18 hag18 s18 => by
    unfold X2_readFrom_L18
    refine pm_iload_n dX2_readFrom_18 rfl rfl ?_
    refine pm_iconst (v := 4) dX2_readFrom_19 ki_4 ?_
    refine pm_icmp_ge (tgt := 36) dX2_readFrom_20 rfl ?_ ?_
    · refine pm_iconst (v := 0) dX2_readFrom_36 ki_0 ?_
      refine pm_istore_n (ls2 := [.ref l0, .ref l1, .int 0]) dX2_readFrom_37 rfl rfl (Nat.le_of_ble_eq_true rfl) rfl ?_
      exact gX2_readFrom_L38 hfl l0 l1 pm_N (0, s18.2)
    · refine pm_aload_n dX2_readFrom_23 rfl rfl ?_
      refine fg_2_2 (y := zX2_readFrom) (Or.inl tw_244) dX2_readFrom_24 (fun r9 => ?_)
      refine pm_iload_n dX2_readFrom_27 rfl rfl ?_
      refine pm_iconst (v := 0) dX2_readFrom_28 ki_0 ?_
      refine pm_iast (y := zX2_readFrom) dX2_readFrom_29 (fun m10 => ?_)
      refine pm_iincn (y := zX2_readFrom) dX2_readFrom_30 rfl ki_1 rfl (Nat.le_of_ble_eq_true rfl) (fun x11 => ?_)
      refine pm_eqls (ls2 := [.ref l0, .ref l1, .int x11]) rfl ?_
      refine pm_goto (tgt := 18) dX2_readFrom_33 rfl ?_
      exact hag18 (x11, m10))
set_option maxRecDepth 100000 in
set_option maxHeartbeats 4000000 in
theorem kcX2_readFrom (hfl : l.flags = flags0) (a0 : Nat) (a1 : Nat) (m : pmM) : pm_C l Γ zX2_readFrom (d + 7) [.ref a0, .ref a1] m (X2_readFrom a0 a1 m) := by
  refine pm_enter (ls := [.ref a0, .ref a1, pmU]) hfl (by decide +kernel) rfl (Nat.le_of_ble_eq_true rfl) rfl (Nat.le_of_ble_eq_true rfl) ?_
  unfold X2_readFrom
  refine pm_aload_n dX2_readFrom_0 rfl rfl ?_
  refine pm_iconst (v := 0) dX2_readFrom_1 ki_0 ?_
  refine fp_2_3 (y := zX2_readFrom) (Or.inl tw_246) dX2_readFrom_2 (fun m1 => ?_)
  refine pm_aload_n dX2_readFrom_5 rfl rfl ?_
  refine pm_iconst (v := 0) dX2_readFrom_6 ki_0 ?_
  refine fp_2_4 (y := zX2_readFrom) (Or.inl tw_251) dX2_readFrom_7 (fun m2 => ?_)
  refine pm_aload_n dX2_readFrom_10 rfl rfl ?_
  refine pm_bipush (v := 60) dX2_readFrom_11 kb_60 ?_
  refine fp_2_5 (y := zX2_readFrom) (Or.inl tw_253) dX2_readFrom_13 (fun m3 => ?_)
  refine pm_iconst (v := 0) dX2_readFrom_16 ki_0 ?_
  refine pm_istore_n (ls2 := [.ref a0, .ref a1, .int 0]) dX2_readFrom_17 rfl rfl (Nat.le_of_ble_eq_true rfl) rfl ?_
  exact gX2_readFrom_L18 hfl a0 a1 pm_N (0, m3)
-- StruckPage$Saying.<init>()V
abbrev zX3_init : pmY := (⟨"StruckPage$Saying", "<init>", "()V"⟩, cX3_init, 1, none, [])
def X3_init (a0 : Nat) (m : pmM) : pmR := pm_na 100 12 m fun r1 m2 => pm_pR 3 a0 0 r1 m2 fun m3 => pm_oV m3
theorem zkX3_init : pm_zOk zX3_init 0 := ⟨rfl, tw_300, tw_163, by decide +kernel, by decide⟩
set_option maxRecDepth 100000 in
set_option maxHeartbeats 4000000 in
theorem kcX3_init (hfl : l.flags = flags0) (a0 : Nat) (m : pmM) : pm_C l Γ zX3_init (d + 0) [.ref a0] m (X3_init a0 m) := by
  refine pm_enter (ls := [.ref a0]) hfl (by decide +kernel) rfl (Nat.le_of_ble_eq_true rfl) rfl (Nat.le_of_ble_eq_true rfl) ?_
  unfold X3_init
  refine pm_aload_n dX3_init_0 rfl rfl ?_
  refine pm_oinit (y := zX3_init) tw_301 tw_186 tw_187 dX3_init_1 (Nat.le_of_ble_eq_true rfl) ?_
  refine pm_aload_n dX3_init_4 rfl rfl ?_
  refine pm_bipush (v := 12) dX3_init_5 kb_12 ?_
  refine pm_newa (y := zX3_init) (atype := .int) (kd := 100) (by decide) tw_232 dX3_init_7 (fun r1 m2 => ?_)
  refine fp_3_0 (y := zX3_init) ⟨tw_302, rfl⟩ dX3_init_9 (fun m3 => ?_)
  exact pm_vret rfl dX3_init_12
-- StruckPage$Saying.takeOver(LStruckPage$Saying;)V
abbrev zX3_takeOver : pmY := (⟨"StruckPage$Saying", "takeOver", "(LStruckPage$Saying;)V"⟩, cX3_takeOver, 2, none, [])
def X3_takeOver (a0 : Nat) (a1 : Nat) (m : pmM) : pmR := pm_gR 3 a1 0 m fun r1 => pm_gR 3 a0 0 m fun r2 => pm_cp r1 0 r2 0 12 m fun m3 => pm_gI 3 a1 1 m3 fun x4 => pm_pI 3 a0 1 x4 m3 fun m5 => pm_oV m5
theorem zkX3_takeOver : pm_zOk zX3_takeOver 1 := ⟨rfl, tw_1077, tw_163, by decide +kernel, by decide⟩
set_option maxRecDepth 100000 in
set_option maxHeartbeats 4000000 in
theorem kcX3_takeOver (hfl : l.flags = flags0) (a0 : Nat) (a1 : Nat) (m : pmM) : pm_C l Γ zX3_takeOver (d + 0) [.ref a0, .ref a1] m (X3_takeOver a0 a1 m) := by
  refine pm_enter (ls := [.ref a0, .ref a1]) hfl (by decide +kernel) rfl (Nat.le_of_ble_eq_true rfl) rfl (Nat.le_of_ble_eq_true rfl) ?_
  unfold X3_takeOver
  refine pm_aload_n dX3_takeOver_0 rfl rfl ?_
  refine fg_3_0 (y := zX3_takeOver) (Or.inl tw_302) dX3_takeOver_1 (fun r1 => ?_)
  refine pm_iconst (v := 0) dX3_takeOver_4 ki_0 ?_
  refine pm_aload_n dX3_takeOver_5 rfl rfl ?_
  refine fg_3_0 (y := zX3_takeOver) (Or.inl tw_302) dX3_takeOver_6 (fun r2 => ?_)
  refine pm_iconst (v := 0) dX3_takeOver_9 ki_0 ?_
  refine pm_bipush (v := 12) dX3_takeOver_10 kb_12 ?_
  refine pm_copy (y := zX3_takeOver) tw_1078 tw_282 tw_281 tw_162 dX3_takeOver_12 (Nat.le_of_ble_eq_true rfl) (fun m3 => ?_)
  refine pm_aload_n dX3_takeOver_15 rfl rfl ?_
  refine pm_aload_n dX3_takeOver_16 rfl rfl ?_
  refine fg_3_1 (y := zX3_takeOver) (Or.inl tw_305) dX3_takeOver_17 (fun x4 => ?_)
  refine fp_3_1 (y := zX3_takeOver) (Or.inl tw_305) dX3_takeOver_20 (fun m5 => ?_)
  exact pm_vret rfl dX3_takeOver_23
-- StruckPage$Saying.readFrom(LStruckPage$Text;)Z
abbrev zX3_readFrom : pmY := (⟨"StruckPage$Saying", "readFrom", "(LStruckPage$Text;)Z"⟩, cX3_readFrom, 3, some .boolean, [])
def X3_readFrom_L7 (l0 : Nat) (l1 : Nat) (again7 : (Int32 × pmM) → pmR) (s7 : Int32 × pmM) : pmR := if (12 : Int32) < s7.1 then (pm_oI 0 s7.2) else (pm_rc 7 l1 s7.2 <| pm_cI (X7_peek l1 s7.2) fun x3 m2 => if x3 = (-1) then (pm_oI 1 m2) else (pm_rc 7 l1 m2 <| pm_cI (X7_takeNumber l1 0 15 m2) fun x5 m4 => if x5 = 0 then (pm_oI 0 m4) else (if s7.1 < 12 then (pm_gR 3 l0 0 m4 fun r6 => pm_gI 7 l1 5 m4 fun x7 => pm_st 100 r6 s7.1 x7 m4 fun m8 => pm_pI 3 l0 1 (s7.1 + 1) m8 fun m9 => pm_rc 7 l1 m9 <| pm_cI (X7_takeSign l1 59 m9) fun x11 m10 => if x11 = 0 then (pm_oI 0 m10) else (pm_bI (s7.1 + 1) fun x12 => again7 (x12, m10))) else (pm_gI 7 l1 4 m4 fun x13 => pm_rc 7 l1 m4 <| pm_cI (X7_fail l1 3 x13 m4) fun x15 m14 => pm_oI (vp_nar .boolean x15) m14))))
def X3_readFrom (a0 : Nat) (a1 : Nat) (m : pmM) : pmR := pm_pI 3 a0 1 0 m fun m1 => pm_lp pm_N (X3_readFrom_L7 a0 a1) (0, m1)
theorem zkX3_readFrom : pm_zOk zX3_readFrom 1 := ⟨rfl, tw_1069, tw_163, by decide +kernel, by decide⟩
set_option maxRecDepth 100000 in
set_option maxHeartbeats 4000000 in
theorem gX3_readFrom_L7 (hfl : l.flags = flags0) (l0 : Nat) (l1 : Nat) : ∀ (n : Nat) (s : Int32 × pmM), pm_G l Γ zX3_readFrom (d + 3) 7 [.ref l0, .ref l1, .int s.1] [] s.2 (pm_lp n (X3_readFrom_L7 l0 l1) s) :=
  pm_loop (lsf := fun s : Int32 × pmM => [.ref l0, .ref l1, .int s.1]) (mf := fun s : Int32 × pmM => s.2) (fun again7 hag7 s7 => by
    unfold X3_readFrom_L7
    refine pm_iload_n dX3_readFrom_7 rfl rfl ?_
    refine pm_bipush (v := 12) dX3_readFrom_8 kb_12 ?_
    refine pm_icmp_gt (tgt := 85) dX3_readFrom_10 rfl ?_ ?_
    · refine pm_iconst (v := 0) dX3_readFrom_85 ki_0 ?_
      exact pm_nret (ty := .boolean) (w := 0) rfl (by decide) (by decide) dX3_readFrom_86
    · refine pm_aload_n dX3_readFrom_13 rfl rfl ?_
      refine pm_rcv (fun hb9 hc9 => ?_)
      refine pm_kI rfl (pm_VN (y := zX3_readFrom) (z := zX7_peek) (As := []) zkX7_peek pm_q7 (by decide) tw_1070 tw_769 tw_34 dX3_readFrom_14 rfl rfl (Nat.le_of_ble_eq_true rfl) hb9 hc9) (kcX7_peek hfl l1 s7.2) (fun x3 m2 => ?_)
      refine pm_iconst (v := (-1)) dX3_readFrom_17 ki_n1 ?_
      refine pm_icmp_ne (tgt := 23) dX3_readFrom_18 rfl ?_ ?_
      · refine pm_aload_n dX3_readFrom_23 rfl rfl ?_
        refine pm_iconst (v := 0) dX3_readFrom_24 ki_0 ?_
        refine pm_bipush (v := 15) dX3_readFrom_25 kb_15 ?_
        refine pm_rcv (fun hb9 hc9 => ?_)
        refine pm_kI rfl (pm_VN (y := zX3_readFrom) (z := zX7_takeNumber) (As := [.int 0, .int 15]) zkX7_takeNumber pm_q7 (by decide) tw_1071 tw_850 tw_41 dX3_readFrom_27 rfl rfl (Nat.le_of_ble_eq_true rfl) hb9 hc9) (kcX7_takeNumber hfl l1 0 15 m2) (fun x5 m4 => ?_)
        refine pm_if_ne (tgt := 35) dX3_readFrom_30 rfl ?_ ?_
        · refine pm_iload_n dX3_readFrom_35 rfl rfl ?_
          refine pm_bipush (v := 12) dX3_readFrom_36 kb_12 ?_
          refine pm_icmp_lt (tgt := 51) dX3_readFrom_38 rfl ?_ ?_
          · refine pm_aload_n dX3_readFrom_51 rfl rfl ?_
            refine fg_3_0 (y := zX3_readFrom) (Or.inl tw_302) dX3_readFrom_52 (fun r6 => ?_)
            refine pm_iload_n dX3_readFrom_55 rfl rfl ?_
            refine pm_aload_n dX3_readFrom_56 rfl rfl ?_
            refine fg_7_5 (y := zX3_readFrom) (Or.inr tw_206) dX3_readFrom_57 (fun x7 => ?_)
            refine pm_iast (y := zX3_readFrom) dX3_readFrom_60 (fun m8 => ?_)
            refine pm_aload_n dX3_readFrom_61 rfl rfl ?_
            refine pm_iload_n dX3_readFrom_62 rfl rfl ?_
            refine pm_iconst (v := 1) dX3_readFrom_63 ki_1 ?_
            refine pm_iadd dX3_readFrom_64 ?_
            refine fp_3_1 (y := zX3_readFrom) (Or.inl tw_305) dX3_readFrom_65 (fun m9 => ?_)
            refine pm_aload_n dX3_readFrom_68 rfl rfl ?_
            refine pm_bipush (v := 59) dX3_readFrom_69 kb_59 ?_
            refine pm_rcv (fun hb9 hc9 => ?_)
            refine pm_kI rfl (pm_VN (y := zX3_readFrom) (z := zX7_takeSign) (As := [.int 59]) zkX7_takeSign pm_q7 (by decide) tw_1073 tw_868 tw_45 dX3_readFrom_71 rfl rfl (Nat.le_of_ble_eq_true rfl) hb9 hc9) (kcX7_takeSign hfl l1 59 m9) (fun x11 m10 => ?_)
            refine pm_if_ne (tgt := 79) dX3_readFrom_74 rfl ?_ ?_
            · refine pm_iincn (y := zX3_readFrom) dX3_readFrom_79 rfl ki_1 rfl (Nat.le_of_ble_eq_true rfl) (fun x12 => ?_)
              refine pm_eqls (ls2 := [.ref l0, .ref l1, .int x12]) rfl ?_
              refine pm_goto (tgt := 7) dX3_readFrom_82 rfl ?_
              exact hag7 (x12, m10)
            · refine pm_iconst (v := 0) dX3_readFrom_77 ki_0 ?_
              exact pm_nret (ty := .boolean) (w := 0) rfl (by decide) (by decide) dX3_readFrom_78
          · refine pm_aload_n dX3_readFrom_41 rfl rfl ?_
            refine pm_iconst (v := 3) dX3_readFrom_42 ki_3 ?_
            refine pm_aload_n dX3_readFrom_43 rfl rfl ?_
            refine fg_7_4 (y := zX3_readFrom) (Or.inr tw_201) dX3_readFrom_44 (fun x13 => ?_)
            refine pm_rcv (fun hb9 hc9 => ?_)
            refine pm_kI rfl (pm_VN (y := zX3_readFrom) (z := zX7_fail) (As := [.int 3, .int x13]) zkX7_fail pm_q7 (by decide) tw_1072 tw_786 tw_38 dX3_readFrom_47 rfl rfl (Nat.le_of_ble_eq_true rfl) hb9 hc9) (kcX7_fail hfl l1 3 x13 m4) (fun x15 m14 => ?_)
            exact pm_nret (ty := .boolean) (w := vp_nar .boolean x15) rfl (by decide) rfl dX3_readFrom_50
        · refine pm_iconst (v := 0) dX3_readFrom_33 ki_0 ?_
          exact pm_nret (ty := .boolean) (w := 0) rfl (by decide) (by decide) dX3_readFrom_34
      · refine pm_iconst (v := 1) dX3_readFrom_21 ki_1 ?_
        exact pm_nret (ty := .boolean) (w := 1) rfl (by decide) (by decide) dX3_readFrom_22)
set_option maxRecDepth 100000 in
set_option maxHeartbeats 4000000 in
theorem kcX3_readFrom (hfl : l.flags = flags0) (a0 : Nat) (a1 : Nat) (m : pmM) : pm_C l Γ zX3_readFrom (d + 3) [.ref a0, .ref a1] m (X3_readFrom a0 a1 m) := by
  refine pm_enter (ls := [.ref a0, .ref a1, pmU]) hfl (by decide +kernel) rfl (Nat.le_of_ble_eq_true rfl) rfl (Nat.le_of_ble_eq_true rfl) ?_
  unfold X3_readFrom
  refine pm_aload_n dX3_readFrom_0 rfl rfl ?_
  refine pm_iconst (v := 0) dX3_readFrom_1 ki_0 ?_
  refine fp_3_1 (y := zX3_readFrom) (Or.inl tw_305) dX3_readFrom_2 (fun m1 => ?_)
  refine pm_iconst (v := 0) dX3_readFrom_5 ki_0 ?_
  refine pm_istore_n (ls2 := [.ref a0, .ref a1, .int 0]) dX3_readFrom_6 rfl rfl (Nat.le_of_ble_eq_true rfl) rfl ?_
  exact gX3_readFrom_L7 hfl a0 a1 pm_N (0, m1)
-- StruckPage$Search.<init>(LStruckPage$Paper;)V
abbrev zX4_init : pmY := (⟨"StruckPage$Search", "<init>", "(LStruckPage$Paper;)V"⟩, cX4_init, 2, none, [])
def X4_init (a0 : Nat) (a1 : Nat) (m : pmM) : pmR := pm_na 102 13 m fun r1 m2 => pm_pR 4 a0 1 r1 m2 fun m3 => pm_na 102 208 m3 fun r4 m5 => pm_pR 4 a0 2 r4 m5 fun m6 => pm_na 100 26 m6 fun r7 m8 => pm_pR 4 a0 3 r7 m8 fun m9 => pm_na 102 26 m9 fun r10 m11 => pm_pR 4 a0 4 r10 m11 fun m12 => pm_na 100 9 m12 fun r13 m14 => pm_pR 4 a0 5 r13 m14 fun m15 => pm_pR 4 a0 0 a1 m15 fun m16 => pm_oV m16
theorem zkX4_init : pm_zOk zX4_init 1 := ⟨rfl, tw_418, tw_167, by decide +kernel, by decide⟩
set_option maxRecDepth 100000 in
set_option maxHeartbeats 4000000 in
theorem kcX4_init (hfl : l.flags = flags0) (a0 : Nat) (a1 : Nat) (m : pmM) : pm_C l Γ zX4_init (d + 0) [.ref a0, .ref a1] m (X4_init a0 a1 m) := by
  refine pm_enter (ls := [.ref a0, .ref a1]) hfl (by decide +kernel) rfl (Nat.le_of_ble_eq_true rfl) rfl (Nat.le_of_ble_eq_true rfl) ?_
  unfold X4_init
  refine pm_aload_n dX4_init_0 rfl rfl ?_
  refine pm_oinit (y := zX4_init) tw_419 tw_186 tw_187 dX4_init_1 (Nat.le_of_ble_eq_true rfl) ?_
  refine pm_aload_n dX4_init_4 rfl rfl ?_
  refine pm_bipush (v := 13) dX4_init_5 kb_13 ?_
  refine pm_newa (y := zX4_init) (atype := .long) (kd := 102) (by decide) tw_439 dX4_init_7 (fun r1 m2 => ?_)
  refine fp_4_1 (y := zX4_init) ⟨tw_421, rfl⟩ dX4_init_9 (fun m3 => ?_)
  refine pm_aload_n dX4_init_12 rfl rfl ?_
  refine pm_sipush (v := 208) dX4_init_13 ks_208 ?_
  refine pm_newa (y := zX4_init) (atype := .long) (kd := 102) (by decide) tw_439 dX4_init_16 (fun r4 m5 => ?_)
  refine fp_4_2 (y := zX4_init) ⟨tw_422, rfl⟩ dX4_init_18 (fun m6 => ?_)
  refine pm_aload_n dX4_init_21 rfl rfl ?_
  refine pm_bipush (v := 26) dX4_init_22 kb_26 ?_
  refine pm_newa (y := zX4_init) (atype := .int) (kd := 100) (by decide) tw_232 dX4_init_24 (fun r7 m8 => ?_)
  refine fp_4_3 (y := zX4_init) ⟨tw_423, rfl⟩ dX4_init_26 (fun m9 => ?_)
  refine pm_aload_n dX4_init_29 rfl rfl ?_
  refine pm_bipush (v := 26) dX4_init_30 kb_26 ?_
  refine pm_newa (y := zX4_init) (atype := .long) (kd := 102) (by decide) tw_439 dX4_init_32 (fun r10 m11 => ?_)
  refine fp_4_4 (y := zX4_init) ⟨tw_424, rfl⟩ dX4_init_34 (fun m12 => ?_)
  refine pm_aload_n dX4_init_37 rfl rfl ?_
  refine pm_bipush (v := 9) dX4_init_38 kb_9 ?_
  refine pm_newa (y := zX4_init) (atype := .int) (kd := 100) (by decide) tw_232 dX4_init_40 (fun r13 m14 => ?_)
  refine fp_4_5 (y := zX4_init) ⟨tw_425, rfl⟩ dX4_init_42 (fun m15 => ?_)
  refine pm_aload_n dX4_init_45 rfl rfl ?_
  refine pm_aload_n dX4_init_46 rfl rfl ?_
  refine fp_4_0 (y := zX4_init) ⟨tw_420, rfl⟩ dX4_init_47 (fun m16 => ?_)
  exact pm_vret rfl dX4_init_50
-- StruckPage$Search.startWays()V
abbrev zX4_startWays : pmY := (⟨"StruckPage$Search", "startWays", "()V"⟩, cX4_startWays, 2, none, [])
def X4_startWays_L2 (l0 : Nat) (again2 : (Int32 × pmM) → pmR) (s2 : Int32 × pmM) : pmR := if (13 : Int32) ≤ s2.1 then (pm_gR 4 l0 1 s2.2 fun r1 => pm_stL r1 0 1 s2.2 fun m2 => pm_oV m2) else (pm_gR 4 l0 1 s2.2 fun r3 => pm_stL r3 s2.1 0 s2.2 fun m4 => pm_bI (s2.1 + 1) fun x5 => again2 (x5, m4))
def X4_startWays (a0 : Nat) (m : pmM) : pmR := pm_lp pm_N (X4_startWays_L2 a0) (0, m)
theorem zkX4_startWays : pm_zOk zX4_startWays 0 := ⟨rfl, tw_629, tw_167, by decide +kernel, by decide⟩
set_option maxRecDepth 100000 in
set_option maxHeartbeats 4000000 in
theorem gX4_startWays_L2 (hfl : l.flags = flags0) (l0 : Nat) : ∀ (n : Nat) (s : Int32 × pmM), pm_G l Γ zX4_startWays (d + 0) 2 [.ref l0, .int s.1] [] s.2 (pm_lp n (X4_startWays_L2 l0) s) :=
  pm_loop (lsf := fun s : Int32 × pmM => [.ref l0, .int s.1]) (mf := fun s : Int32 × pmM => s.2) (fun again2 hag2 s2 => by
    unfold X4_startWays_L2
    refine pm_iload_n dX4_startWays_2 rfl rfl ?_
    refine pm_bipush (v := 13) dX4_startWays_3 kb_13 ?_
    refine pm_icmp_ge (tgt := 21) dX4_startWays_5 rfl ?_ ?_
    · refine pm_aload_n dX4_startWays_21 rfl rfl ?_
      refine fg_4_1 (y := zX4_startWays) (Or.inl tw_421) dX4_startWays_22 (fun r1 => ?_)
      refine pm_iconst (v := 0) dX4_startWays_25 ki_0 ?_
      refine pm_lconst (v := 1) dX4_startWays_26 kl_1 ?_
      refine pm_last (y := zX4_startWays) dX4_startWays_27 (fun m2 => ?_)
      exact pm_vret rfl dX4_startWays_28
    · refine pm_aload_n dX4_startWays_8 rfl rfl ?_
      refine fg_4_1 (y := zX4_startWays) (Or.inl tw_421) dX4_startWays_9 (fun r3 => ?_)
      refine pm_iload_n dX4_startWays_12 rfl rfl ?_
      refine pm_lconst (v := 0) dX4_startWays_13 kl_0 ?_
      refine pm_last (y := zX4_startWays) dX4_startWays_14 (fun m4 => ?_)
      refine pm_iincn (y := zX4_startWays) dX4_startWays_15 rfl ki_1 rfl (Nat.le_of_ble_eq_true rfl) (fun x5 => ?_)
      refine pm_eqls (ls2 := [.ref l0, .int x5]) rfl ?_
      refine pm_goto (tgt := 2) dX4_startWays_18 rfl ?_
      exact hag2 (x5, m4))
set_option maxRecDepth 100000 in
set_option maxHeartbeats 4000000 in
theorem kcX4_startWays (hfl : l.flags = flags0) (a0 : Nat) (m : pmM) : pm_C l Γ zX4_startWays (d + 0) [.ref a0] m (X4_startWays a0 m) := by
  refine pm_enter (ls := [.ref a0, pmU]) hfl (by decide +kernel) rfl (Nat.le_of_ble_eq_true rfl) rfl (Nat.le_of_ble_eq_true rfl) ?_
  unfold X4_startWays
  refine pm_iconst (v := 0) dX4_startWays_0 ki_0 ?_
  refine pm_istore_n (ls2 := [.ref a0, .int 0]) dX4_startWays_1 rfl rfl (Nat.le_of_ble_eq_true rfl) rfl ?_
  exact gX4_startWays_L2 hfl a0 pm_N (0, m)
-- StruckPage$Search.waysTo(LStruckPage$Saying;)J
abbrev zX4_waysTo : pmY := (⟨"StruckPage$Search", "waysTo", "(LStruckPage$Saying;)J"⟩, cX4_waysTo, 5, some .long, [])
def X4_waysTo_j83 (again6 : (Int32 × pmM) → pmR) (again19 : (Int32 × pmM) → pmR) (again38 : (Int32 × pmM) → pmR) (l0 : Nat) (l1 : Nat) (l2 : Int32) (l3 : Int32) (l4 : Int32) (m : pmM) : pmR := pm_bI (l4 + (-1)) fun x18 => again38 (x18, m)
def X4_waysTo_L38 (again6 : (Int32 × pmM) → pmR) (again19 : (Int32 × pmM) → pmR) (l0 : Nat) (l1 : Nat) (l2 : Int32) (l3 : Int32) (again38 : (Int32 × pmM) → pmR) (s38 : Int32 × pmM) : pmR := if s38.1 ≤ 0 then (pm_bI (l3 + 1) fun x12 => again19 (x12, s38.2)) else (pm_gR 3 l1 0 s38.2 fun r13 => pm_ld 100 r13 (s38.1 - 1) s38.2 fun x14 => pm_gR 4 l0 0 s38.2 fun r15 => pm_rc 2 r15 s38.2 <| pm_cI (X2_wordAt r15 l2 l3 s38.2) fun x17 m16 => if x14 = x17 then (pm_gR 4 l0 1 m16 fun r19 => pm_ldL r19 s38.1 m16 fun x20 => pm_gR 4 l0 1 m16 fun r21 => pm_ldL r21 (s38.1 - 1) m16 fun x22 => pm_stL r19 s38.1 (x20 + x22) m16 fun m23 => X4_waysTo_j83 again6 again19 again38 l0 l1 l2 l3 s38.1 m23) else (X4_waysTo_j83 again6 again19 again38 l0 l1 l2 l3 s38.1 m16))
def X4_waysTo_L19 (again6 : (Int32 × pmM) → pmR) (l0 : Nat) (l1 : Nat) (l2 : Int32) (again19 : (Int32 × pmM) → pmR) (s19 : Int32 × pmM) : pmR := pm_gR 4 l0 0 s19.2 fun r7 => pm_gR 2 r7 0 s19.2 fun r8 => pm_ld 100 r8 l2 s19.2 fun x9 => if x9 ≤ s19.1 then (pm_bI (l2 + 1) fun x10 => again6 (x10, s19.2)) else (pm_gI 3 l1 1 s19.2 fun x11 => pm_lp pm_N (X4_waysTo_L38 again6 again19 l0 l1 l2 s19.1) (x11, s19.2))
def X4_waysTo_L6 (l0 : Nat) (l1 : Nat) (again6 : (Int32 × pmM) → pmR) (s6 : Int32 × pmM) : pmR := pm_gR 4 l0 0 s6.2 fun r2 => pm_gI 2 r2 3 s6.2 fun x3 => if x3 ≤ s6.1 then (pm_gR 4 l0 1 s6.2 fun r4 => pm_gI 3 l1 1 s6.2 fun x5 => pm_ldL r4 x5 s6.2 fun x6 => pm_oL x6 s6.2) else (pm_lp pm_N (X4_waysTo_L19 again6 l0 l1 s6.1) (0, s6.2))
def X4_waysTo (a0 : Nat) (a1 : Nat) (m : pmM) : pmR := pm_rc 4 a0 m <| pm_cV (X4_startWays a0 m) fun m1 => pm_lp pm_N (X4_waysTo_L6 a0 a1) (0, m1)
theorem zkX4_waysTo : pm_zOk zX4_waysTo 1 := ⟨rfl, tw_625, tw_167, by decide +kernel, by decide⟩
set_option maxRecDepth 100000 in
set_option maxHeartbeats 4000000 in
theorem gX4_waysTo_j83 (hfl : l.flags = flags0) (again6 : (Int32 × pmM) → pmR) (again19 : (Int32 × pmM) → pmR) (again38 : (Int32 × pmM) → pmR) (l0 : Nat) (l1 : Nat) (l2 : Int32) (l3 : Int32) (l4 : Int32) (m : pmM) (hag6 : ∀ s : Int32 × pmM, pm_G l Γ zX4_waysTo (d + 3) 6 [.ref l0, .ref l1, .int s.1, pmU, pmU] [] s.2 (again6 s)) (hag19 : ∀ s : Int32 × pmM, pm_G l Γ zX4_waysTo (d + 3) 19 [.ref l0, .ref l1, .int l2, .int s.1, pmU] [] s.2 (again19 s)) (hag38 : ∀ s : Int32 × pmM, pm_G l Γ zX4_waysTo (d + 3) 38 [.ref l0, .ref l1, .int l2, .int l3, .int s.1] [] s.2 (again38 s)) : pm_G l Γ zX4_waysTo (d + 3) 83 [.ref l0, .ref l1, .int l2, .int l3, .int l4] [] m (X4_waysTo_j83 again6 again19 again38 l0 l1 l2 l3 l4 m) := by
  unfold X4_waysTo_j83
  refine pm_iincn (y := zX4_waysTo) dX4_waysTo_83 rfl ki_n1 rfl (Nat.le_of_ble_eq_true rfl) (fun x18 => ?_)
  refine pm_eqls (ls2 := [.ref l0, .ref l1, .int l2, .int l3, .int x18]) rfl ?_
  refine pm_goto (tgt := 38) dX4_waysTo_86 rfl ?_
  exact hag38 (x18, m)
set_option maxRecDepth 100000 in
set_option maxHeartbeats 4000000 in
theorem gX4_waysTo_L38 (hfl : l.flags = flags0) (again6 : (Int32 × pmM) → pmR) (again19 : (Int32 × pmM) → pmR) (l0 : Nat) (l1 : Nat) (l2 : Int32) (l3 : Int32) (hag6 : ∀ s : Int32 × pmM, pm_G l Γ zX4_waysTo (d + 3) 6 [.ref l0, .ref l1, .int s.1, pmU, pmU] [] s.2 (again6 s)) (hag19 : ∀ s : Int32 × pmM, pm_G l Γ zX4_waysTo (d + 3) 19 [.ref l0, .ref l1, .int l2, .int s.1, pmU] [] s.2 (again19 s)) : ∀ (n : Nat) (s : Int32 × pmM), pm_G l Γ zX4_waysTo (d + 3) 38 [.ref l0, .ref l1, .int l2, .int l3, .int s.1] [] s.2 (pm_lp n (X4_waysTo_L38 again6 again19 l0 l1 l2 l3) s) :=
  pm_loop (lsf := fun s : Int32 × pmM => [.ref l0, .ref l1, .int l2, .int l3, .int s.1]) (mf := fun s : Int32 × pmM => s.2) (fun again38 hag38 s38 => by
    unfold X4_waysTo_L38
    refine pm_iload dX4_waysTo_38 rfl ?_
    refine pm_if_le (tgt := 89) dX4_waysTo_40 rfl ?_ ?_
    · refine pm_iincn (y := zX4_waysTo) dX4_waysTo_89 rfl ki_1 rfl (Nat.le_of_ble_eq_true rfl) (fun x12 => ?_)
      refine pm_eqls (ls2 := [.ref l0, .ref l1, .int l2, .int x12, .int s38.1]) rfl ?_
      refine pm_goto (tgt := 19) dX4_waysTo_92 rfl ?_
      refine pm_drop (ls2 := [.ref l0, .ref l1, .int l2, .int x12, pmU]) (Nat.le_refl _) (pm_le_spec (pm_le_v (pm_le_v (pm_le_v (pm_le_v (pm_le_u (pm_le_n))))))) ?_
      exact hag19 (x12, s38.2)
    · refine pm_aload_n dX4_waysTo_43 rfl rfl ?_
      refine fg_3_0 (y := zX4_waysTo) (Or.inr tw_303) dX4_waysTo_44 (fun r13 => ?_)
      refine pm_iload dX4_waysTo_47 rfl ?_
      refine pm_iconst (v := 1) dX4_waysTo_49 ki_1 ?_
      refine pm_isub dX4_waysTo_50 ?_
      refine pm_iald (y := zX4_waysTo) dX4_waysTo_51 (fun x14 => ?_)
      refine pm_aload_n dX4_waysTo_52 rfl rfl ?_
      refine fg_4_0 (y := zX4_waysTo) (Or.inl tw_420) dX4_waysTo_53 (fun r15 => ?_)
      refine pm_iload_n dX4_waysTo_56 rfl rfl ?_
      refine pm_iload_n dX4_waysTo_57 rfl rfl ?_
      refine pm_rcv (fun hb9 hc9 => ?_)
      refine pm_kI rfl (pm_VN (y := zX4_waysTo) (z := zX2_wordAt) (As := [.int l2, .int l3]) zkX2_wordAt pm_q2 (by decide) tw_630 tw_580 tw_13 dX4_waysTo_58 rfl rfl (Nat.le_of_ble_eq_true rfl) hb9 hc9) (kcX2_wordAt hfl r15 l2 l3 s38.2) (fun x17 m16 => ?_)
      refine pm_icmp_ne (tgt := 83) dX4_waysTo_61 rfl ?_ ?_
      · exact gX4_waysTo_j83 hfl again6 again19 again38 l0 l1 l2 l3 s38.1 m16 hag6 hag19 hag38
      · refine pm_aload_n dX4_waysTo_64 rfl rfl ?_
        refine fg_4_1 (y := zX4_waysTo) (Or.inl tw_421) dX4_waysTo_65 (fun r19 => ?_)
        refine pm_iload dX4_waysTo_68 rfl ?_
        refine pm_dup2 dX4_waysTo_70 rfl rfl ?_
        refine pm_lald (y := zX4_waysTo) dX4_waysTo_71 (fun x20 => ?_)
        refine pm_aload_n dX4_waysTo_72 rfl rfl ?_
        refine fg_4_1 (y := zX4_waysTo) (Or.inl tw_421) dX4_waysTo_73 (fun r21 => ?_)
        refine pm_iload dX4_waysTo_76 rfl ?_
        refine pm_iconst (v := 1) dX4_waysTo_78 ki_1 ?_
        refine pm_isub dX4_waysTo_79 ?_
        refine pm_lald (y := zX4_waysTo) dX4_waysTo_80 (fun x22 => ?_)
        refine pm_ladd dX4_waysTo_81 ?_
        refine pm_last (y := zX4_waysTo) dX4_waysTo_82 (fun m23 => ?_)
        exact gX4_waysTo_j83 hfl again6 again19 again38 l0 l1 l2 l3 s38.1 m23 hag6 hag19 hag38)
set_option maxRecDepth 100000 in
set_option maxHeartbeats 4000000 in
theorem gX4_waysTo_L19 (hfl : l.flags = flags0) (again6 : (Int32 × pmM) → pmR) (l0 : Nat) (l1 : Nat) (l2 : Int32) (hag6 : ∀ s : Int32 × pmM, pm_G l Γ zX4_waysTo (d + 3) 6 [.ref l0, .ref l1, .int s.1, pmU, pmU] [] s.2 (again6 s)) : ∀ (n : Nat) (s : Int32 × pmM), pm_G l Γ zX4_waysTo (d + 3) 19 [.ref l0, .ref l1, .int l2, .int s.1, pmU] [] s.2 (pm_lp n (X4_waysTo_L19 again6 l0 l1 l2) s) :=
  pm_loop (lsf := fun s : Int32 × pmM => [.ref l0, .ref l1, .int l2, .int s.1, pmU]) (mf := fun s : Int32 × pmM => s.2) (fun again19 hag19 s19 => by
    unfold X4_waysTo_L19
    refine pm_iload_n dX4_waysTo_19 rfl rfl ?_
    refine pm_aload_n dX4_waysTo_20 rfl rfl ?_
    refine fg_4_0 (y := zX4_waysTo) (Or.inl tw_420) dX4_waysTo_21 (fun r7 => ?_)
    refine fg_2_0 (y := zX4_waysTo) (Or.inr tw_240) dX4_waysTo_24 (fun r8 => ?_)
    refine pm_iload_n dX4_waysTo_27 rfl rfl ?_
    refine pm_iald (y := zX4_waysTo) dX4_waysTo_28 (fun x9 => ?_)
    refine pm_icmp_ge (tgt := 95) dX4_waysTo_29 rfl ?_ ?_
    · refine pm_iincn (y := zX4_waysTo) dX4_waysTo_95 rfl ki_1 rfl (Nat.le_of_ble_eq_true rfl) (fun x10 => ?_)
      refine pm_eqls (ls2 := [.ref l0, .ref l1, .int x10, .int s19.1, pmU]) rfl ?_
      refine pm_goto (tgt := 6) dX4_waysTo_98 rfl ?_
      refine pm_drop (ls2 := [.ref l0, .ref l1, .int x10, pmU, pmU]) (Nat.le_refl _) (pm_le_spec (pm_le_v (pm_le_v (pm_le_v (pm_le_u (pm_le_u (pm_le_n))))))) ?_
      exact hag6 (x10, s19.2)
    · refine pm_aload_n dX4_waysTo_32 rfl rfl ?_
      refine fg_3_1 (y := zX4_waysTo) (Or.inr tw_306) dX4_waysTo_33 (fun x11 => ?_)
      refine pm_istore (ls2 := [.ref l0, .ref l1, .int l2, .int s19.1, .int x11]) dX4_waysTo_36 rfl (Nat.le_of_ble_eq_true rfl) rfl ?_
      exact gX4_waysTo_L38 hfl again6 again19 l0 l1 l2 s19.1 hag6 hag19 pm_N (x11, s19.2))
set_option maxRecDepth 100000 in
set_option maxHeartbeats 4000000 in
theorem gX4_waysTo_L6 (hfl : l.flags = flags0) (l0 : Nat) (l1 : Nat) : ∀ (n : Nat) (s : Int32 × pmM), pm_G l Γ zX4_waysTo (d + 3) 6 [.ref l0, .ref l1, .int s.1, pmU, pmU] [] s.2 (pm_lp n (X4_waysTo_L6 l0 l1) s) :=
  pm_loop (lsf := fun s : Int32 × pmM => [.ref l0, .ref l1, .int s.1, pmU, pmU]) (mf := fun s : Int32 × pmM => s.2) (fun again6 hag6 s6 => by
    unfold X4_waysTo_L6
    refine pm_iload_n dX4_waysTo_6 rfl rfl ?_
    refine pm_aload_n dX4_waysTo_7 rfl rfl ?_
    refine fg_4_0 (y := zX4_waysTo) (Or.inl tw_420) dX4_waysTo_8 (fun r2 => ?_)
    refine fg_2_3 (y := zX4_waysTo) (Or.inr tw_247) dX4_waysTo_11 (fun x3 => ?_)
    refine pm_icmp_ge (tgt := 101) dX4_waysTo_14 rfl ?_ ?_
    · refine pm_aload_n dX4_waysTo_101 rfl rfl ?_
      refine fg_4_1 (y := zX4_waysTo) (Or.inl tw_421) dX4_waysTo_102 (fun r4 => ?_)
      refine pm_aload_n dX4_waysTo_105 rfl rfl ?_
      refine fg_3_1 (y := zX4_waysTo) (Or.inr tw_306) dX4_waysTo_106 (fun x5 => ?_)
      refine pm_lald (y := zX4_waysTo) dX4_waysTo_109 (fun x6 => ?_)
      exact pm_lret rfl dX4_waysTo_110
    · refine pm_iconst (v := 0) dX4_waysTo_17 ki_0 ?_
      refine pm_istore_n (ls2 := [.ref l0, .ref l1, .int s6.1, .int 0, pmU]) dX4_waysTo_18 rfl rfl (Nat.le_of_ble_eq_true rfl) rfl ?_
      exact gX4_waysTo_L19 hfl again6 l0 l1 s6.1 hag6 pm_N (0, s6.2))
set_option maxRecDepth 100000 in
set_option maxHeartbeats 4000000 in
theorem kcX4_waysTo (hfl : l.flags = flags0) (a0 : Nat) (a1 : Nat) (m : pmM) : pm_C l Γ zX4_waysTo (d + 3) [.ref a0, .ref a1] m (X4_waysTo a0 a1 m) := by
  refine pm_enter (ls := [.ref a0, .ref a1, pmU, pmU, pmU]) hfl (by decide +kernel) rfl (Nat.le_of_ble_eq_true rfl) rfl (Nat.le_of_ble_eq_true rfl) ?_
  unfold X4_waysTo
  refine pm_aload_n dX4_waysTo_0 rfl rfl ?_
  refine pm_rcv (fun hb9 hc9 => ?_)
  refine pm_kV rfl (pm_V (y := zX4_waysTo) (z := zX4_startWays) (As := []) zkX4_startWays pm_q4 (by decide) tw_626 tw_628 tw_21 dX4_waysTo_1 rfl rfl (Nat.le_of_ble_eq_true rfl) hb9 hc9) (kcX4_startWays hfl a0 m) (fun m1 => ?_)
  refine pm_iconst (v := 0) dX4_waysTo_4 ki_0 ?_
  refine pm_istore_n (ls2 := [.ref a0, .ref a1, .int 0, pmU, pmU]) dX4_waysTo_5 rfl rfl (Nat.le_of_ble_eq_true rfl) rfl ?_
  exact gX4_waysTo_L6 hfl a0 a1 pm_N (0, m1)
end GEN5
