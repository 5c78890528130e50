section GEN4
variable {l : Launch} {Γ : pmG} {d : Nat}
-- StruckPage$Law.readUnit(LStruckPage$Text;I)Z
def X1_readUnit_j141 (rs : Nat → Nat → Int32 → pmM → pmR) (t0 : Int32) (t1 : Int32) (t2 : Nat) (t3 : Nat) (m : pmM) : pmR := pm_rc 1 t3 m <| pm_cI (X1_readPair rs t3 t2 t1 t0 m) fun x12 m11 => pm_oI (vp_nar .boolean x12) m11
def X1_readUnit_j122 (rs : Nat → Nat → Int32 → pmM → pmR) (l0 : Nat) (l1 : Nat) (l2 : Int32) (m : pmM) : pmR := pm_rc 7 l1 m <| pm_cI (X7_took l1 6 m) fun x10 m9 => if x10 = 0 then (X1_readUnit_j141 rs (-14) l2 l1 l0 m9) else (X1_readUnit_j141 rs (-13) l2 l1 l0 m9)
def X1_readUnit_j171 (rs : Nat → Nat → Int32 → pmM → pmR) (t0 : Int32) (m : pmM) : pmR := pm_oI (vp_nar .boolean t0) m
def X1_readUnit_j94 (rs : Nat → Nat → Int32 → pmM → pmR) (t0 : Int32) (m : pmM) : pmR := pm_oI (vp_nar .boolean t0) m
def X1_readUnit_j93 (rs : Nat → Nat → Int32 → pmM → pmR) (m : pmM) : pmR := X1_readUnit_j94 rs 0 m
def X1_readUnit_j34 (rs : Nat → Nat → Int32 → pmM → pmR) (t0 : Int32) (m : pmM) : pmR := pm_oI (vp_nar .boolean t0) m
def X1_readUnit_j33 (rs : Nat → Nat → Int32 → pmM → pmR) (m : pmM) : pmR := X1_readUnit_j34 rs 0 m
def X1_readUnit (rs : Nat → Nat → Int32 → pmM → pmR) (a0 : Nat) (a1 : Nat) (a2 : Int32) (m : pmM) : pmR := pm_rc 7 a1 m <| pm_cI (X7_isAtDigit a1 m) fun x2 m1 => if x2 = 0 then (pm_rc 7 a1 m1 <| pm_cI (X7_peek a1 m1) fun x4 m3 => if x4 = 40 then (if a2 < 6 then (pm_rc 7 a1 m3 <| pm_cI (X7_takeSign a1 40 m3) fun x23 m22 => if x23 = 0 then (X1_readUnit_j93 rs m22) else (pm_rc 1 a0 m22 <| pm_cI (rs a0 a1 (a2 + 1) m22) fun x25 m24 => if x25 = 0 then (X1_readUnit_j93 rs m24) else (pm_rc 7 a1 m24 <| pm_cI (X7_takeSign a1 41 m24) fun x27 m26 => if x27 = 0 then (X1_readUnit_j93 rs m26) else (X1_readUnit_j94 rs 1 m26)))) else (pm_gI 7 a1 3 m3 fun x28 => pm_rc 7 a1 m3 <| pm_cI (X7_fail a1 3 x28 m3) fun x30 m29 => pm_oI (vp_nar .boolean x30) m29)) else (pm_rc 7 a1 m3 <| pm_cI (X7_takeLetters a1 m3) fun x6 m5 => if x6 = 0 then (pm_oI 0 m5) else (pm_rc 7 a1 m5 <| pm_cI (X7_took a1 6 m5) fun x8 m7 => if x8 = 0 then (pm_rc 7 a1 m7 <| pm_cI (X7_took a1 7 m7) fun x14 m13 => if x14 = 0 then (pm_cI (X1_nameTaken a1 m13) fun x16 m15 => if x16 = 0 then (pm_gI 7 a1 4 m15 fun x19 => pm_rc 7 a1 m15 <| pm_cI (X7_fail a1 1 x19 m15) fun x21 m20 => X1_readUnit_j171 rs x21 m20) else (pm_rc 1 a0 m15 <| pm_cI (X1_append a0 x16 m15) fun x18 m17 => X1_readUnit_j171 rs x18 m17)) else (X1_readUnit_j122 rs a0 a1 a2 m13)) else (X1_readUnit_j122 rs a0 a1 a2 m7)))) else (pm_rc 7 a1 m1 <| pm_cI (X7_takeNumber a1 0 999 m1) fun x32 m31 => if x32 = 0 then (X1_readUnit_j33 rs m31) else (pm_gI 7 a1 5 m31 fun x33 => pm_rc 1 a0 m31 <| pm_cI (X1_append a0 x33 m31) fun x35 m34 => if x35 = 0 then (X1_readUnit_j33 rs m34) else (X1_readUnit_j34 rs 1 m34)))
set_option maxRecDepth 100000 in
set_option maxHeartbeats 4000000 in
theorem gX1_readUnit_j141 (hfl : l.flags = flags0) (rs : Nat → Nat → Int32 → pmM → pmR) (t0 : Int32) (t1 : Int32) (t2 : Nat) (t3 : Nat) (m : pmM) (hrs : ∀ (j : Nat) (b0 : Nat) (b1 : Nat) (b2 : Int32) (m : pmM), pm_C l Γ zX1_readSum (d + j + 6) [.ref b0, .ref b1, .int b2] m (rs b0 b1 b2 m)) : pm_G l Γ zX1_readUnit (d + 8) 141 [pmU, pmU, pmU, pmU] [.int t0, .int t1, .ref t2, .ref t3] m (X1_readUnit_j141 rs t0 t1 t2 t3 m) := by
  unfold X1_readUnit_j141
  refine pm_rcv (fun hb9 hc9 => ?_)
  refine pm_kI (d := d + 7) rfl (pm_V (y := zX1_readUnit) (z := zX1_readPair) (As := [.ref t2, .int t1, .int t0]) zkX1_readPair pm_q1 (by decide) tw_916 tw_918 tw_54 dX1_readUnit_141 rfl rfl (Nat.le_of_ble_eq_true rfl) hb9 hc9) (kcX1_readPair hfl rs t3 t2 t1 t0 m hrs) (fun x12 m11 => ?_)
  exact pm_nret (ty := .boolean) (w := vp_nar .boolean x12) rfl (by decide) rfl dX1_readUnit_144
set_option maxRecDepth 100000 in
set_option maxHeartbeats 4000000 in
theorem gX1_readUnit_j122 (hfl : l.flags = flags0) (rs : Nat → Nat → Int32 → pmM → pmR) (l0 : Nat) (l1 : Nat) (l2 : Int32) (m : pmM) (hrs : ∀ (j : Nat) (b0 : Nat) (b1 : Nat) (b2 : Int32) (m : pmM), pm_C l Γ zX1_readSum (d + j + 6) [.ref b0, .ref b1, .int b2] m (rs b0 b1 b2 m)) : pm_G l Γ zX1_readUnit (d + 8) 122 [.ref l0, .ref l1, .int l2, pmU] [] m (X1_readUnit_j122 rs l0 l1 l2 m) := by
  unfold X1_readUnit_j122
  refine pm_aload_n dX1_readUnit_122 rfl rfl ?_
  refine pm_aload_n dX1_readUnit_123 rfl rfl ?_
  refine pm_iload_n dX1_readUnit_124 rfl rfl ?_
  refine pm_aload_n dX1_readUnit_125 rfl rfl ?_
  refine pm_ldcs (y := zX1_readUnit) (own := "StruckPage$Law") (tx := "least") (k := 6) (by decide +kernel) rfl dX1_readUnit_126 ?_
  refine pm_rcv (fun hb9 hc9 => ?_)
  refine pm_kI (d := d + 7) rfl (pm_VN (y := zX1_readUnit) (z := zX7_took) (As := [.ref 6]) zkX7_took pm_q7 (by decide) tw_914 tw_788 tw_39 dX1_readUnit_128 rfl rfl (Nat.le_of_ble_eq_true rfl) hb9 hc9) (kcX7_took (d := d + 2) hfl l1 6 m) (fun x10 m9 => ?_)
  refine pm_if_eq (tgt := 139) dX1_readUnit_131 rfl ?_ ?_
  · refine pm_bipush (v := (-14)) dX1_readUnit_139 kb_n14 ?_
    refine pm_drop (ls2 := [pmU, pmU, pmU, pmU]) (Nat.le_refl _) (pm_le_spec (pm_le_u (pm_le_u (pm_le_u (pm_le_u (pm_le_n)))))) ?_
    exact gX1_readUnit_j141 hfl rs (-14) l2 l1 l0 m9 hrs
  · refine pm_bipush (v := (-13)) dX1_readUnit_134 kb_n13 ?_
    refine pm_goto (tgt := 141) dX1_readUnit_136 rfl ?_
    refine pm_drop (ls2 := [pmU, pmU, pmU, pmU]) (Nat.le_refl _) (pm_le_spec (pm_le_u (pm_le_u (pm_le_u (pm_le_u (pm_le_n)))))) ?_
    exact gX1_readUnit_j141 hfl rs (-13) l2 l1 l0 m9 hrs
set_option maxRecDepth 100000 in
set_option maxHeartbeats 4000000 in
theorem gX1_readUnit_j171 (hfl : l.flags = flags0) (rs : Nat → Nat → Int32 → pmM → pmR) (t0 : Int32) (m : pmM) (hrs : ∀ (j : Nat) (b0 : Nat) (b1 : Nat) (b2 : Int32) (m : pmM), pm_C l Γ zX1_readSum (d + j + 6) [.ref b0, .ref b1, .int b2] m (rs b0 b1 b2 m)) : pm_G l Γ zX1_readUnit (d + 8) 171 [pmU, pmU, pmU, pmU] [.int t0] m (X1_readUnit_j171 rs t0 m) := by
  unfold X1_readUnit_j171
  exact pm_nret (ty := .boolean) (w := vp_nar .boolean t0) rfl (by decide) rfl dX1_readUnit_171
set_option maxRecDepth 100000 in
set_option maxHeartbeats 4000000 in
theorem gX1_readUnit_j94 (hfl : l.flags = flags0) (rs : Nat → Nat → Int32 → pmM → pmR) (t0 : Int32) (m : pmM) (hrs : ∀ (j : Nat) (b0 : Nat) (b1 : Nat) (b2 : Int32) (m : pmM), pm_C l Γ zX1_readSum (d + j + 6) [.ref b0, .ref b1, .int b2] m (rs b0 b1 b2 m)) : pm_G l Γ zX1_readUnit (d + 8) 94 [pmU, pmU, pmU, pmU] [.int t0] m (X1_readUnit_j94 rs t0 m) := by
  unfold X1_readUnit_j94
  exact pm_nret (ty := .boolean) (w := vp_nar .boolean t0) rfl (by decide) rfl dX1_readUnit_94
set_option maxRecDepth 100000 in
set_option maxHeartbeats 4000000 in
theorem gX1_readUnit_j93 (hfl : l.flags = flags0) (rs : Nat → Nat → Int32 → pmM → pmR) (m : pmM) (hrs : ∀ (j : Nat) (b0 : Nat) (b1 : Nat) (b2 : Int32) (m : pmM), pm_C l Γ zX1_readSum (d + j + 6) [.ref b0, .ref b1, .int b2] m (rs b0 b1 b2 m)) : pm_G l Γ zX1_readUnit (d + 8) 93 [pmU, pmU, pmU, pmU] [] m (X1_readUnit_j93 rs m) := by
  unfold X1_readUnit_j93
  refine pm_iconst (v := 0) dX1_readUnit_93 ki_0 ?_
  exact gX1_readUnit_j94 hfl rs 0 m hrs
set_option maxRecDepth 100000 in
set_option maxHeartbeats 4000000 in
theorem gX1_readUnit_j34 (hfl : l.flags = flags0) (rs : Nat → Nat → Int32 → pmM → pmR) (t0 : Int32) (m : pmM) (hrs : ∀ (j : Nat) (b0 : Nat) (b1 : Nat) (b2 : Int32) (m : pmM), pm_C l Γ zX1_readSum (d + j + 6) [.ref b0, .ref b1, .int b2] m (rs b0 b1 b2 m)) : pm_G l Γ zX1_readUnit (d + 8) 34 [pmU, pmU, pmU, pmU] [.int t0] m (X1_readUnit_j34 rs t0 m) := by
  unfold X1_readUnit_j34
  exact pm_nret (ty := .boolean) (w := vp_nar .boolean t0) rfl (by decide) rfl dX1_readUnit_34
set_option maxRecDepth 100000 in
set_option maxHeartbeats 4000000 in
theorem gX1_readUnit_j33 (hfl : l.flags = flags0) (rs : Nat → Nat → Int32 → pmM → pmR) (m : pmM) (hrs : ∀ (j : Nat) (b0 : Nat) (b1 : Nat) (b2 : Int32) (m : pmM), pm_C l Γ zX1_readSum (d + j + 6) [.ref b0, .ref b1, .int b2] m (rs b0 b1 b2 m)) : pm_G l Γ zX1_readUnit (d + 8) 33 [pmU, pmU, pmU, pmU] [] m (X1_readUnit_j33 rs m) := by
  unfold X1_readUnit_j33
  refine pm_iconst (v := 0) dX1_readUnit_33 ki_0 ?_
  exact gX1_readUnit_j34 hfl rs 0 m hrs
set_option maxRecDepth 100000 in
set_option maxHeartbeats 4000000 in
theorem kcX1_readUnit (hfl : l.flags = flags0) (rs : Nat → Nat → Int32 → pmM → pmR) (a0 : Nat) (a1 : Nat) (a2 : Int32) (m : pmM) (hrs : ∀ (j : Nat) (b0 : Nat) (b1 : Nat) (b2 : Int32) (m : pmM), pm_C l Γ zX1_readSum (d + j + 6) [.ref b0, .ref b1, .int b2] m (rs b0 b1 b2 m)) : pm_C l Γ zX1_readUnit (d + 8) [.ref a0, .ref a1, .int a2] m (X1_readUnit rs a0 a1 a2 m) := by
  refine pm_enter (ls := [.ref a0, .ref a1, .int a2, pmU]) hfl (by decide +kernel) rfl (Nat.le_of_ble_eq_true rfl) rfl (Nat.le_of_ble_eq_true rfl) ?_
  unfold X1_readUnit
  refine pm_aload_n dX1_readUnit_0 rfl rfl ?_
  refine pm_rcv (fun hb9 hc9 => ?_)
  refine pm_kI (d := d + 7) rfl (pm_VN (y := zX1_readUnit) (z := zX7_isAtDigit) (As := []) zkX7_isAtDigit pm_q7 (by decide) tw_903 tw_852 tw_42 dX1_readUnit_1 rfl rfl (Nat.le_of_ble_eq_true rfl) hb9 hc9) (kcX7_isAtDigit (d := d + 6) hfl a1 m) (fun x2 m1 => ?_)
  refine pm_if_eq (tgt := 35) dX1_readUnit_4 rfl ?_ ?_
  · refine pm_aload_n dX1_readUnit_35 rfl rfl ?_
    refine pm_rcv (fun hb9 hc9 => ?_)
    refine pm_kI (d := d + 7) rfl (pm_VN (y := zX1_readUnit) (z := zX7_peek) (As := []) zkX7_peek pm_q7 (by decide) tw_909 tw_766 tw_34 dX1_readUnit_36 rfl rfl (Nat.le_of_ble_eq_true rfl) hb9 hc9) (kcX7_peek (d := d + 7) hfl a1 m1) (fun x4 m3 => ?_)
    refine pm_bipush (v := 40) dX1_readUnit_39 kb_40 ?_
    refine pm_icmp_ne (tgt := 95) dX1_readUnit_41 rfl ?_ ?_
    · refine pm_aload_n dX1_readUnit_95 rfl rfl ?_
      refine pm_rcv (fun hb9 hc9 => ?_)
      refine pm_kI (d := d + 7) rfl (pm_VN (y := zX1_readUnit) (z := zX7_takeLetters) (As := []) zkX7_takeLetters pm_q7 (by decide) tw_912 tw_774 tw_36 dX1_readUnit_96 rfl rfl (Nat.le_of_ble_eq_true rfl) hb9 hc9) (kcX7_takeLetters (d := d + 5) hfl a1 m3) (fun x6 m5 => ?_)
      refine pm_if_ne (tgt := 104) dX1_readUnit_99 rfl ?_ ?_
      · refine pm_aload_n dX1_readUnit_104 rfl rfl ?_
        refine pm_ldcs (y := zX1_readUnit) (own := "StruckPage$Law") (tx := "least") (k := 6) (by decide +kernel) rfl dX1_readUnit_105 ?_
        refine pm_rcv (fun hb9 hc9 => ?_)
        refine pm_kI (d := d + 7) rfl (pm_VN (y := zX1_readUnit) (z := zX7_took) (As := [.ref 6]) zkX7_took pm_q7 (by decide) tw_914 tw_788 tw_39 dX1_readUnit_107 rfl rfl (Nat.le_of_ble_eq_true rfl) hb9 hc9) (kcX7_took (d := d + 2) hfl a1 6 m5) (fun x8 m7 => ?_)
        refine pm_if_ne (tgt := 122) dX1_readUnit_110 rfl ?_ ?_
        · exact gX1_readUnit_j122 hfl rs a0 a1 a2 m7 hrs
        · refine pm_aload_n dX1_readUnit_113 rfl rfl ?_
          refine pm_ldcs (y := zX1_readUnit) (own := "StruckPage$Law") (tx := "most") (k := 7) (by decide +kernel) rfl dX1_readUnit_114 ?_
          refine pm_rcv (fun hb9 hc9 => ?_)
          refine pm_kI (d := d + 7) rfl (pm_VN (y := zX1_readUnit) (z := zX7_took) (As := [.ref 7]) zkX7_took pm_q7 (by decide) tw_914 tw_788 tw_39 dX1_readUnit_116 rfl rfl (Nat.le_of_ble_eq_true rfl) hb9 hc9) (kcX7_took (d := d + 2) hfl a1 7 m7) (fun x14 m13 => ?_)
          refine pm_if_eq (tgt := 145) dX1_readUnit_119 rfl ?_ ?_
          · refine pm_aload_n dX1_readUnit_145 rfl rfl ?_
            refine pm_kI (d := d + 7) rfl (pm_S (y := zX1_readUnit) (z := zX1_nameTaken) (As := [.ref a1]) zkX1_nameTaken tw_920 tw_921 dX1_readUnit_146 rfl rfl (Nat.le_of_ble_eq_true rfl)) (kcX1_nameTaken (d := d + 1) hfl a1 m13) (fun x16 m15 => ?_)
            refine pm_istore_n (ls2 := [.ref a0, .ref a1, .int a2, .int x16]) dX1_readUnit_149 rfl rfl (Nat.le_of_ble_eq_true rfl) rfl ?_
            refine pm_iload_n dX1_readUnit_150 rfl rfl ?_
            refine pm_if_ne (tgt := 166) dX1_readUnit_151 rfl ?_ ?_
            · refine pm_aload_n dX1_readUnit_166 rfl rfl ?_
              refine pm_iload_n dX1_readUnit_167 rfl rfl ?_
              refine pm_rcv (fun hb9 hc9 => ?_)
              refine pm_kI (d := d + 7) rfl (pm_V (y := zX1_readUnit) (z := zX1_append) (As := [.int x16]) zkX1_append pm_q1 (by decide) tw_905 tw_907 tw_53 dX1_readUnit_168 rfl rfl (Nat.le_of_ble_eq_true rfl) hb9 hc9) (kcX1_append (d := d + 7) hfl a0 x16 m15) (fun x18 m17 => ?_)
              refine pm_drop (ls2 := [pmU, pmU, pmU, pmU]) (Nat.le_refl _) (pm_le_spec (pm_le_u (pm_le_u (pm_le_u (pm_le_u (pm_le_n)))))) ?_
              exact gX1_readUnit_j171 hfl rs x18 m17 hrs
            · refine pm_aload_n dX1_readUnit_154 rfl rfl ?_
              refine pm_iconst (v := 1) dX1_readUnit_155 ki_1 ?_
              refine pm_aload_n dX1_readUnit_156 rfl rfl ?_
              refine fg_7_4 (y := zX1_readUnit) (Or.inr tw_203) dX1_readUnit_157 (fun x19 => ?_)
              refine pm_rcv (fun hb9 hc9 => ?_)
              refine pm_kI (d := d + 7) rfl (pm_VN (y := zX1_readUnit) (z := zX7_fail) (As := [.int 1, .int x19]) zkX7_fail pm_q7 (by decide) tw_910 tw_783 tw_38 dX1_readUnit_160 rfl rfl (Nat.le_of_ble_eq_true rfl) hb9 hc9) (kcX7_fail (d := d + 7) hfl a1 1 x19 m15) (fun x21 m20 => ?_)
              refine pm_goto (tgt := 171) dX1_readUnit_163 rfl ?_
              refine pm_drop (ls2 := [pmU, pmU, pmU, pmU]) (Nat.le_refl _) (pm_le_spec (pm_le_u (pm_le_u (pm_le_u (pm_le_u (pm_le_n)))))) ?_
              exact gX1_readUnit_j171 hfl rs x21 m20 hrs
          · exact gX1_readUnit_j122 hfl rs a0 a1 a2 m13 hrs
      · refine pm_iconst (v := 0) dX1_readUnit_102 ki_0 ?_
        exact pm_nret (ty := .boolean) (w := 0) rfl (by decide) (by decide) dX1_readUnit_103
    · refine pm_iload_n dX1_readUnit_44 rfl rfl ?_
      refine pm_bipush (v := 6) dX1_readUnit_45 kb_6 ?_
      refine pm_icmp_lt (tgt := 60) dX1_readUnit_47 rfl ?_ ?_
      · refine pm_aload_n dX1_readUnit_60 rfl rfl ?_
        refine pm_bipush (v := 40) dX1_readUnit_61 kb_40 ?_
        refine pm_rcv (fun hb9 hc9 => ?_)
        refine pm_kI (d := d + 7) rfl (pm_VN (y := zX1_readUnit) (z := zX7_takeSign) (As := [.int 40]) zkX7_takeSign pm_q7 (by decide) tw_911 tw_864 tw_45 dX1_readUnit_63 rfl rfl (Nat.le_of_ble_eq_true rfl) hb9 hc9) (kcX7_takeSign (d := d + 6) hfl a1 40 m3) (fun x23 m22 => ?_)
        refine pm_if_eq (tgt := 93) dX1_readUnit_66 rfl ?_ ?_
        · refine pm_drop (ls2 := [pmU, pmU, pmU, pmU]) (Nat.le_refl _) (pm_le_spec (pm_le_u (pm_le_u (pm_le_u (pm_le_u (pm_le_n)))))) ?_
          exact gX1_readUnit_j93 hfl rs m22 hrs
        · refine pm_aload_n dX1_readUnit_69 rfl rfl ?_
          refine pm_aload_n dX1_readUnit_70 rfl rfl ?_
          refine pm_iload_n dX1_readUnit_71 rfl rfl ?_
          refine pm_iconst (v := 1) dX1_readUnit_72 ki_1 ?_
          refine pm_iadd dX1_readUnit_73 ?_
          refine pm_rcv (fun hb9 hc9 => ?_)
          refine pm_kI (d := d + 7) rfl (pm_V (y := zX1_readUnit) (z := zX1_readSum) (As := [.ref a1, .int (a2 + 1)]) zkX1_readSum pm_q1 (by decide) tw_891 tw_893 tw_50 dX1_readUnit_74 rfl rfl (Nat.le_of_ble_eq_true rfl) hb9 hc9) (hrs 1 a0 a1 (a2 + 1) m22) (fun x25 m24 => ?_)
          refine pm_if_eq (tgt := 93) dX1_readUnit_77 rfl ?_ ?_
          · refine pm_drop (ls2 := [pmU, pmU, pmU, pmU]) (Nat.le_refl _) (pm_le_spec (pm_le_u (pm_le_u (pm_le_u (pm_le_u (pm_le_n)))))) ?_
            exact gX1_readUnit_j93 hfl rs m24 hrs
          · refine pm_aload_n dX1_readUnit_80 rfl rfl ?_
            refine pm_bipush (v := 41) dX1_readUnit_81 kb_41 ?_
            refine pm_rcv (fun hb9 hc9 => ?_)
            refine pm_kI (d := d + 7) rfl (pm_VN (y := zX1_readUnit) (z := zX7_takeSign) (As := [.int 41]) zkX7_takeSign pm_q7 (by decide) tw_911 tw_864 tw_45 dX1_readUnit_83 rfl rfl (Nat.le_of_ble_eq_true rfl) hb9 hc9) (kcX7_takeSign (d := d + 6) hfl a1 41 m24) (fun x27 m26 => ?_)
            refine pm_if_eq (tgt := 93) dX1_readUnit_86 rfl ?_ ?_
            · refine pm_drop (ls2 := [pmU, pmU, pmU, pmU]) (Nat.le_refl _) (pm_le_spec (pm_le_u (pm_le_u (pm_le_u (pm_le_u (pm_le_n)))))) ?_
              exact gX1_readUnit_j93 hfl rs m26 hrs
            · refine pm_iconst (v := 1) dX1_readUnit_89 ki_1 ?_
              refine pm_goto (tgt := 94) dX1_readUnit_90 rfl ?_
              refine pm_drop (ls2 := [pmU, pmU, pmU, pmU]) (Nat.le_refl _) (pm_le_spec (pm_le_u (pm_le_u (pm_le_u (pm_le_u (pm_le_n)))))) ?_
              exact gX1_readUnit_j94 hfl rs 1 m26 hrs
      · refine pm_aload_n dX1_readUnit_50 rfl rfl ?_
        refine pm_iconst (v := 3) dX1_readUnit_51 ki_3 ?_
        refine pm_aload_n dX1_readUnit_52 rfl rfl ?_
        refine fg_7_3 (y := zX1_readUnit) (Or.inr tw_198) dX1_readUnit_53 (fun x28 => ?_)
        refine pm_rcv (fun hb9 hc9 => ?_)
        refine pm_kI (d := d + 7) rfl (pm_VN (y := zX1_readUnit) (z := zX7_fail) (As := [.int 3, .int x28]) zkX7_fail pm_q7 (by decide) tw_910 tw_783 tw_38 dX1_readUnit_56 rfl rfl (Nat.le_of_ble_eq_true rfl) hb9 hc9) (kcX7_fail (d := d + 7) hfl a1 3 x28 m3) (fun x30 m29 => ?_)
        exact pm_nret (ty := .boolean) (w := vp_nar .boolean x30) rfl (by decide) rfl dX1_readUnit_59
  · refine pm_aload_n dX1_readUnit_7 rfl rfl ?_
    refine pm_iconst (v := 0) dX1_readUnit_8 ki_0 ?_
    refine pm_sipush (v := 999) dX1_readUnit_9 ks_999 ?_
    refine pm_rcv (fun hb9 hc9 => ?_)
    refine pm_kI (d := d + 7) rfl (pm_VN (y := zX1_readUnit) (z := zX7_takeNumber) (As := [.int 0, .int 999]) zkX7_takeNumber pm_q7 (by decide) tw_904 tw_847 tw_41 dX1_readUnit_12 rfl rfl (Nat.le_of_ble_eq_true rfl) hb9 hc9) (kcX7_takeNumber (d := d + 6) hfl a1 0 999 m1) (fun x32 m31 => ?_)
    refine pm_if_eq (tgt := 33) dX1_readUnit_15 rfl ?_ ?_
    · refine pm_drop (ls2 := [pmU, pmU, pmU, pmU]) (Nat.le_refl _) (pm_le_spec (pm_le_u (pm_le_u (pm_le_u (pm_le_u (pm_le_n)))))) ?_
      exact gX1_readUnit_j33 hfl rs m31 hrs
    · refine pm_aload_n dX1_readUnit_18 rfl rfl ?_
      refine pm_aload_n dX1_readUnit_19 rfl rfl ?_
      refine fg_7_5 (y := zX1_readUnit) (Or.inr tw_208) dX1_readUnit_20 (fun x33 => ?_)
      refine pm_rcv (fun hb9 hc9 => ?_)
      refine pm_kI (d := d + 7) rfl (pm_V (y := zX1_readUnit) (z := zX1_append) (As := [.int x33]) zkX1_append pm_q1 (by decide) tw_905 tw_907 tw_53 dX1_readUnit_23 rfl rfl (Nat.le_of_ble_eq_true rfl) hb9 hc9) (kcX1_append (d := d + 7) hfl a0 x33 m31) (fun x35 m34 => ?_)
      refine pm_if_eq (tgt := 33) dX1_readUnit_26 rfl ?_ ?_
      · refine pm_drop (ls2 := [pmU, pmU, pmU, pmU]) (Nat.le_refl _) (pm_le_spec (pm_le_u (pm_le_u (pm_le_u (pm_le_u (pm_le_n)))))) ?_
        exact gX1_readUnit_j33 hfl rs m34 hrs
      · refine pm_iconst (v := 1) dX1_readUnit_29 ki_1 ?_
        refine pm_goto (tgt := 34) dX1_readUnit_30 rfl ?_
        refine pm_drop (ls2 := [pmU, pmU, pmU, pmU]) (Nat.le_refl _) (pm_le_spec (pm_le_u (pm_le_u (pm_le_u (pm_le_u (pm_le_n)))))) ?_
        exact gX1_readUnit_j34 hfl rs 1 m34 hrs
-- StruckPage$Law.readProduct(LStruckPage$Text;I)Z
def X1_readProduct_j97 (rs : Nat → Nat → Int32 → pmM → pmR) (again13 : (Int32 × pmM) → pmR) (l0 : Nat) (l1 : Nat) (l2 : Int32) (l3 : Int32) (t0 : Int32) (t1 : Nat) (m : pmM) : pmR := pm_rc 1 t1 m <| pm_cI (X1_append t1 t0 m) fun x10 m9 => pm_bI (l3 + 1) fun x11 => again13 (x11, m9)
def X1_readProduct_j49 (rs : Nat → Nat → Int32 → pmM → pmR) (again13 : (Int32 × pmM) → pmR) (l0 : Nat) (l1 : Nat) (l2 : Int32) (l3 : Int32) (l4 : Int32) (m : pmM) : pmR := pm_gI 7 l1 3 m fun x5 => pm_pI 7 l1 3 (x5 + 1) m fun m6 => pm_rc 1 l0 m6 <| pm_cI (X1_readUnit rs l0 l1 l2 m6) fun x8 m7 => if x8 = 0 then (pm_oI 0 m7) else (if l4 = 42 then (X1_readProduct_j97 rs again13 l0 l1 l2 l3 (-10) l0 m7) else (if l4 = 47 then (X1_readProduct_j97 rs again13 l0 l1 l2 l3 (-11) l0 m7) else (X1_readProduct_j97 rs again13 l0 l1 l2 l3 (-12) l0 m7)))
def X1_readProduct_L13 (rs : Nat → Nat → Int32 → pmM → pmR) (l0 : Nat) (l1 : Nat) (l2 : Int32) (again13 : (Int32 × pmM) → pmR) (s13 : Int32 × pmM) : pmR := if (150 : Int32) ≤ s13.1 then (pm_oI 1 s13.2) else (pm_rc 7 l1 s13.2 <| pm_cI (X7_peek l1 s13.2) fun x4 m3 => if x4 = 42 then (X1_readProduct_j49 rs again13 l0 l1 l2 s13.1 x4 m3) else (if x4 = 47 then (X1_readProduct_j49 rs again13 l0 l1 l2 s13.1 x4 m3) else (if x4 = 37 then (X1_readProduct_j49 rs again13 l0 l1 l2 s13.1 x4 m3) else (pm_oI 1 m3))))
def X1_readProduct (rs : Nat → Nat → Int32 → pmM → pmR) (a0 : Nat) (a1 : Nat) (a2 : Int32) (m : pmM) : pmR := pm_rc 1 a0 m <| pm_cI (X1_readUnit rs a0 a1 a2 m) fun x2 m1 => if x2 = 0 then (pm_oI 0 m1) else (pm_lp pm_N (X1_readProduct_L13 rs a0 a1 a2) (0, m1))
set_option maxRecDepth 100000 in
set_option maxHeartbeats 4000000 in
theorem gX1_readProduct_j97 (hfl : l.flags = flags0) (rs : Nat → Nat → Int32 → pmM → pmR) (again13 : (Int32 × pmM) → pmR) (l0 : Nat) (l1 : Nat) (l2 : Int32) (l3 : Int32) (t0 : Int32) (t1 : Nat) (m : pmM) (hrs : ∀ (j : Nat) (b0 : Nat) (b1 : Nat) (b2 : Int32) (m : pmM), pm_C l Γ zX1_readSum (d + j + 6) [.ref b0, .ref b1, .int b2] m (rs b0 b1 b2 m)) (hag13 : ∀ s : Int32 × pmM, pm_G l Γ zX1_readProduct (d + 9) 13 [.ref l0, .ref l1, .int l2, .int s.1, pmU] [] s.2 (again13 s)) : pm_G l Γ zX1_readProduct (d + 9) 97 [.ref l0, .ref l1, .int l2, .int l3, pmU] [.int t0, .ref t1] m (X1_readProduct_j97 rs again13 l0 l1 l2 l3 t0 t1 m) := by
  unfold X1_readProduct_j97
  refine pm_rcv (fun hb9 hc9 => ?_)
  refine pm_kI (d := d + 8) rfl (pm_V (y := zX1_readProduct) (z := zX1_append) (As := [.int t0]) zkX1_append pm_q1 (by decide) tw_905 tw_907 tw_53 dX1_readProduct_97 rfl rfl (Nat.le_of_ble_eq_true rfl) hb9 hc9) (kcX1_append (d := d + 8) hfl t1 t0 m) (fun x10 m9 => ?_)
  refine pm_pop dX1_readProduct_100 rfl ?_
  refine pm_iincn (y := zX1_readProduct) dX1_readProduct_101 rfl ki_1 rfl (Nat.le_of_ble_eq_true rfl) (fun x11 => ?_)
  refine pm_eqls (ls2 := [.ref l0, .ref l1, .int l2, .int x11, pmU]) rfl ?_
  refine pm_goto (tgt := 13) dX1_readProduct_104 rfl ?_
  exact hag13 (x11, m9)
set_option maxRecDepth 100000 in
set_option maxHeartbeats 4000000 in
theorem gX1_readProduct_j49 (hfl : l.flags = flags0) (rs : Nat → Nat → Int32 → pmM → pmR) (again13 : (Int32 × pmM) → pmR) (l0 : Nat) (l1 : Nat) (l2 : Int32) (l3 : Int32) (l4 : Int32) (m : pmM) (hrs : ∀ (j : Nat) (b0 : Nat) (b1 : Nat) (b2 : Int32) (m : pmM), pm_C l Γ zX1_readSum (d + j + 6) [.ref b0, .ref b1, .int b2] m (rs b0 b1 b2 m)) (hag13 : ∀ s : Int32 × pmM, pm_G l Γ zX1_readProduct (d + 9) 13 [.ref l0, .ref l1, .int l2, .int s.1, pmU] [] s.2 (again13 s)) : pm_G l Γ zX1_readProduct (d + 9) 49 [.ref l0, .ref l1, .int l2, .int l3, .int l4] [] m (X1_readProduct_j49 rs again13 l0 l1 l2 l3 l4 m) := by
  unfold X1_readProduct_j49
  refine pm_aload_n dX1_readProduct_49 rfl rfl ?_
  refine pm_dup dX1_readProduct_50 rfl ?_
  refine fg_7_3 (y := zX1_readProduct) (Or.inr tw_198) dX1_readProduct_51 (fun x5 => ?_)
  refine pm_iconst (v := 1) dX1_readProduct_54 ki_1 ?_
  refine pm_iadd dX1_readProduct_55 ?_
  refine fp_7_3 (y := zX1_readProduct) (Or.inr tw_198) dX1_readProduct_56 (fun m6 => ?_)
  refine pm_aload_n dX1_readProduct_59 rfl rfl ?_
  refine pm_aload_n dX1_readProduct_60 rfl rfl ?_
  refine pm_iload_n dX1_readProduct_61 rfl rfl ?_
  refine pm_rcv (fun hb9 hc9 => ?_)
  refine pm_kI (d := d + 8) rfl (pm_V (y := zX1_readProduct) (z := zX1_readUnit) (As := [.ref l1, .int l2]) zkX1_readUnit pm_q1 (by decide) tw_899 tw_901 tw_52 dX1_readProduct_62 rfl rfl (Nat.le_of_ble_eq_true rfl) hb9 hc9) (kcX1_readUnit hfl rs l0 l1 l2 m6 hrs) (fun x8 m7 => ?_)
  refine pm_if_ne (tgt := 70) dX1_readProduct_65 rfl ?_ ?_
  · refine pm_aload_n dX1_readProduct_70 rfl rfl ?_
    refine pm_iload dX1_readProduct_71 rfl ?_
    refine pm_bipush (v := 42) dX1_readProduct_73 kb_42 ?_
    refine pm_icmp_ne (tgt := 83) dX1_readProduct_75 rfl ?_ ?_
    · refine pm_iload dX1_readProduct_83 rfl ?_
      refine pm_bipush (v := 47) dX1_readProduct_85 kb_47 ?_
      refine pm_icmp_ne (tgt := 95) dX1_readProduct_87 rfl ?_ ?_
      · refine pm_bipush (v := (-12)) dX1_readProduct_95 kb_n12 ?_
        refine pm_drop (ls2 := [.ref l0, .ref l1, .int l2, .int l3, pmU]) (Nat.le_refl _) (pm_le_spec (pm_le_v (pm_le_v (pm_le_v (pm_le_v (pm_le_u (pm_le_n))))))) ?_
        exact gX1_readProduct_j97 hfl rs again13 l0 l1 l2 l3 (-12) l0 m7 hrs hag13
      · refine pm_bipush (v := (-11)) dX1_readProduct_90 kb_n11 ?_
        refine pm_goto (tgt := 97) dX1_readProduct_92 rfl ?_
        refine pm_drop (ls2 := [.ref l0, .ref l1, .int l2, .int l3, pmU]) (Nat.le_refl _) (pm_le_spec (pm_le_v (pm_le_v (pm_le_v (pm_le_v (pm_le_u (pm_le_n))))))) ?_
        exact gX1_readProduct_j97 hfl rs again13 l0 l1 l2 l3 (-11) l0 m7 hrs hag13
    · refine pm_bipush (v := (-10)) dX1_readProduct_78 kb_n10 ?_
      refine pm_goto (tgt := 97) dX1_readProduct_80 rfl ?_
      refine pm_drop (ls2 := [.ref l0, .ref l1, .int l2, .int l3, pmU]) (Nat.le_refl _) (pm_le_spec (pm_le_v (pm_le_v (pm_le_v (pm_le_v (pm_le_u (pm_le_n))))))) ?_
      exact gX1_readProduct_j97 hfl rs again13 l0 l1 l2 l3 (-10) l0 m7 hrs hag13
  · refine pm_iconst (v := 0) dX1_readProduct_68 ki_0 ?_
    exact pm_nret (ty := .boolean) (w := 0) rfl (by decide) (by decide) dX1_readProduct_69
set_option maxRecDepth 100000 in
set_option maxHeartbeats 4000000 in
theorem gX1_readProduct_L13 (hfl : l.flags = flags0) (rs : Nat → Nat → Int32 → pmM → pmR) (l0 : Nat) (l1 : Nat) (l2 : Int32) (hrs : ∀ (j : Nat) (b0 : Nat) (b1 : Nat) (b2 : Int32) (m : pmM), pm_C l Γ zX1_readSum (d + j + 6) [.ref b0, .ref b1, .int b2] m (rs b0 b1 b2 m)) : ∀ (n : Nat) (s : Int32 × pmM), pm_G l Γ zX1_readProduct (d + 9) 13 [.ref l0, .ref l1, .int l2, .int s.1, pmU] [] s.2 (pm_lp n (X1_readProduct_L13 rs l0 l1 l2) s) :=
  pm_loop (lsf := fun s : Int32 × pmM => [.ref l0, .ref l1, .int l2, .int s.1, pmU]) (mf := fun s : Int32 × pmM => s.2) (fun again13 hag13 s13 => by
    unfold X1_readProduct_L13
    refine pm_iload_n dX1_readProduct_13 rfl rfl ?_
    refine pm_sipush (v := 150) dX1_readProduct_14 ks_150 ?_
    refine pm_icmp_ge (tgt := 107) dX1_readProduct_17 rfl ?_ ?_
    · refine pm_iconst (v := 1) dX1_readProduct_107 ki_1 ?_
      exact pm_nret (ty := .boolean) (w := 1) rfl (by decide) (by decide) dX1_readProduct_108
    · refine pm_aload_n dX1_readProduct_20 rfl rfl ?_
      refine pm_rcv (fun hb9 hc9 => ?_)
      refine pm_kI (d := d + 8) rfl (pm_VN (y := zX1_readProduct) (z := zX7_peek) (As := []) zkX7_peek pm_q7 (by decide) tw_909 tw_766 tw_34 dX1_readProduct_21 rfl rfl (Nat.le_of_ble_eq_true rfl) hb9 hc9) (kcX7_peek (d := d + 8) hfl l1 s13.2) (fun x4 m3 => ?_)
      refine pm_istore (ls2 := [.ref l0, .ref l1, .int l2, .int s13.1, .int x4]) dX1_readProduct_24 rfl (Nat.le_of_ble_eq_true rfl) rfl ?_
      refine pm_iload dX1_readProduct_26 rfl ?_
      refine pm_bipush (v := 42) dX1_readProduct_28 kb_42 ?_
      refine pm_icmp_eq (tgt := 49) dX1_readProduct_30 rfl ?_ ?_
      · exact gX1_readProduct_j49 hfl rs again13 l0 l1 l2 s13.1 x4 m3 hrs hag13
      · refine pm_iload dX1_readProduct_33 rfl ?_
        refine pm_bipush (v := 47) dX1_readProduct_35 kb_47 ?_
        refine pm_icmp_eq (tgt := 49) dX1_readProduct_37 rfl ?_ ?_
        · exact gX1_readProduct_j49 hfl rs again13 l0 l1 l2 s13.1 x4 m3 hrs hag13
        · refine pm_iload dX1_readProduct_40 rfl ?_
          refine pm_bipush (v := 37) dX1_readProduct_42 kb_37 ?_
          refine pm_icmp_eq (tgt := 49) dX1_readProduct_44 rfl ?_ ?_
          · exact gX1_readProduct_j49 hfl rs again13 l0 l1 l2 s13.1 x4 m3 hrs hag13
          · refine pm_iconst (v := 1) dX1_readProduct_47 ki_1 ?_
            exact pm_nret (ty := .boolean) (w := 1) rfl (by decide) (by decide) dX1_readProduct_48)
set_option maxRecDepth 100000 in
set_option maxHeartbeats 4000000 in
theorem kcX1_readProduct (hfl : l.flags = flags0) (rs : Nat → Nat → Int32 → pmM → pmR) (a0 : Nat) (a1 : Nat) (a2 : Int32) (m : pmM) (hrs : ∀ (j : Nat) (b0 : Nat) (b1 : Nat) (b2 : Int32) (m : pmM), pm_C l Γ zX1_readSum (d + j + 6) [.ref b0, .ref b1, .int b2] m (rs b0 b1 b2 m)) : pm_C l Γ zX1_readProduct (d + 9) [.ref a0, .ref a1, .int a2] m (X1_readProduct rs a0 a1 a2 m) := by
  refine pm_enter (ls := [.ref a0, .ref a1, .int a2, pmU, pmU]) hfl (by decide +kernel) rfl (Nat.le_of_ble_eq_true rfl) rfl (Nat.le_of_ble_eq_true rfl) ?_
  unfold X1_readProduct
  refine pm_aload_n dX1_readProduct_0 rfl rfl ?_
  refine pm_aload_n dX1_readProduct_1 rfl rfl ?_
  refine pm_iload_n dX1_readProduct_2 rfl rfl ?_
  refine pm_rcv (fun hb9 hc9 => ?_)
  refine pm_kI (d := d + 8) rfl (pm_V (y := zX1_readProduct) (z := zX1_readUnit) (As := [.ref a1, .int a2]) zkX1_readUnit pm_q1 (by decide) tw_899 tw_901 tw_52 dX1_readProduct_3 rfl rfl (Nat.le_of_ble_eq_true rfl) hb9 hc9) (kcX1_readUnit hfl rs a0 a1 a2 m hrs) (fun x2 m1 => ?_)
  refine pm_if_ne (tgt := 11) dX1_readProduct_6 rfl ?_ ?_
  · refine pm_iconst (v := 0) dX1_readProduct_11 ki_0 ?_
    refine pm_istore_n (ls2 := [.ref a0, .ref a1, .int a2, .int 0, pmU]) dX1_readProduct_12 rfl rfl (Nat.le_of_ble_eq_true rfl) rfl ?_
    exact gX1_readProduct_L13 hfl rs a0 a1 a2 hrs pm_N (0, m1)
  · refine pm_iconst (v := 0) dX1_readProduct_9 ki_0 ?_
    exact pm_nret (ty := .boolean) (w := 0) rfl (by decide) (by decide) dX1_readProduct_10
-- StruckPage$Law.readSum(LStruckPage$Text;I)Z
def X1_readSum_j78 (rs : Nat → Nat → Int32 → pmM → pmR) (again13 : (Int32 × pmM) → pmR) (l0 : Nat) (l1 : Nat) (l2 : Int32) (l3 : Int32) (t0 : Int32) (t1 : Nat) (m : pmM) : pmR := pm_rc 1 t1 m <| pm_cI (X1_append t1 t0 m) fun x10 m9 => pm_bI (l3 + 1) fun x11 => again13 (x11, m9)
def X1_readSum_j42 (rs : Nat → Nat → Int32 → pmM → pmR) (again13 : (Int32 × pmM) → pmR) (l0 : Nat) (l1 : Nat) (l2 : Int32) (l3 : Int32) (l4 : Int32) (m : pmM) : pmR := pm_gI 7 l1 3 m fun x5 => pm_pI 7 l1 3 (x5 + 1) m fun m6 => pm_rc 1 l0 m6 <| pm_cI (X1_readProduct rs l0 l1 l2 m6) fun x8 m7 => if x8 = 0 then (pm_oI 0 m7) else (if l4 = 43 then (X1_readSum_j78 rs again13 l0 l1 l2 l3 (-8) l0 m7) else (X1_readSum_j78 rs again13 l0 l1 l2 l3 (-9) l0 m7))
def X1_readSum_L13 (rs : Nat → Nat → Int32 → pmM → pmR) (l0 : Nat) (l1 : Nat) (l2 : Int32) (again13 : (Int32 × pmM) → pmR) (s13 : Int32 × pmM) : pmR := if (150 : Int32) ≤ s13.1 then (pm_oI 1 s13.2) else (pm_rc 7 l1 s13.2 <| pm_cI (X7_peek l1 s13.2) fun x4 m3 => if x4 = 43 then (X1_readSum_j42 rs again13 l0 l1 l2 s13.1 x4 m3) else (if x4 = 45 then (X1_readSum_j42 rs again13 l0 l1 l2 s13.1 x4 m3) else (pm_oI 1 m3)))
def X1_readSum (rs : Nat → Nat → Int32 → pmM → pmR) (a0 : Nat) (a1 : Nat) (a2 : Int32) (m : pmM) : pmR := pm_rc 1 a0 m <| pm_cI (X1_readProduct rs a0 a1 a2 m) fun x2 m1 => if x2 = 0 then (pm_oI 0 m1) else (pm_lp pm_N (X1_readSum_L13 rs a0 a1 a2) (0, m1))
def X1_readSum_N : Nat → Nat → Nat → Int32 → pmM → pmR
  | 0 => fun _ _ _ _ => none
  | n + 1 => X1_readSum (X1_readSum_N n)
set_option maxRecDepth 100000 in
set_option maxHeartbeats 4000000 in
theorem gX1_readSum_j78 (hfl : l.flags = flags0) (rs : Nat → Nat → Int32 → pmM → pmR) (again13 : (Int32 × pmM) → pmR) (l0 : Nat) (l1 : Nat) (l2 : Int32) (l3 : Int32) (t0 : Int32) (t1 : Nat) (m : pmM) (hrs : ∀ (j : Nat) (b0 : Nat) (b1 : Nat) (b2 : Int32) (m : pmM), pm_C l Γ zX1_readSum (d + j + 6) [.ref b0, .ref b1, .int b2] m (rs b0 b1 b2 m)) (hag13 : ∀ s : Int32 × pmM, pm_G l Γ zX1_readSum (d + 10) 13 [.ref l0, .ref l1, .int l2, .int s.1, pmU] [] s.2 (again13 s)) : pm_G l Γ zX1_readSum (d + 10) 78 [.ref l0, .ref l1, .int l2, .int l3, pmU] [.int t0, .ref t1] m (X1_readSum_j78 rs again13 l0 l1 l2 l3 t0 t1 m) := by
  unfold X1_readSum_j78
  refine pm_rcv (fun hb9 hc9 => ?_)
  refine pm_kI (d := d + 9) rfl (pm_V (y := zX1_readSum) (z := zX1_append) (As := [.int t0]) zkX1_append pm_q1 (by decide) tw_905 tw_907 tw_53 dX1_readSum_78 rfl rfl (Nat.le_of_ble_eq_true rfl) hb9 hc9) (kcX1_append (d := d + 9) hfl t1 t0 m) (fun x10 m9 => ?_)
  refine pm_pop dX1_readSum_81 rfl ?_
  refine pm_iincn (y := zX1_readSum) dX1_readSum_82 rfl ki_1 rfl (Nat.le_of_ble_eq_true rfl) (fun x11 => ?_)
  refine pm_eqls (ls2 := [.ref l0, .ref l1, .int l2, .int x11, pmU]) rfl ?_
  refine pm_goto (tgt := 13) dX1_readSum_85 rfl ?_
  exact hag13 (x11, m9)
set_option maxRecDepth 100000 in
set_option maxHeartbeats 4000000 in
theorem gX1_readSum_j42 (hfl : l.flags = flags0) (rs : Nat → Nat → Int32 → pmM → pmR) (again13 : (Int32 × pmM) → pmR) (l0 : Nat) (l1 : Nat) (l2 : Int32) (l3 : Int32) (l4 : Int32) (m : pmM) (hrs : ∀ (j : Nat) (b0 : Nat) (b1 : Nat) (b2 : Int32) (m : pmM), pm_C l Γ zX1_readSum (d + j + 6) [.ref b0, .ref b1, .int b2] m (rs b0 b1 b2 m)) (hag13 : ∀ s : Int32 × pmM, pm_G l Γ zX1_readSum (d + 10) 13 [.ref l0, .ref l1, .int l2, .int s.1, pmU] [] s.2 (again13 s)) : pm_G l Γ zX1_readSum (d + 10) 42 [.ref l0, .ref l1, .int l2, .int l3, .int l4] [] m (X1_readSum_j42 rs again13 l0 l1 l2 l3 l4 m) := by
  unfold X1_readSum_j42
  refine pm_aload_n dX1_readSum_42 rfl rfl ?_
  refine pm_dup dX1_readSum_43 rfl ?_
  refine fg_7_3 (y := zX1_readSum) (Or.inr tw_198) dX1_readSum_44 (fun x5 => ?_)
  refine pm_iconst (v := 1) dX1_readSum_47 ki_1 ?_
  refine pm_iadd dX1_readSum_48 ?_
  refine fp_7_3 (y := zX1_readSum) (Or.inr tw_198) dX1_readSum_49 (fun m6 => ?_)
  refine pm_aload_n dX1_readSum_52 rfl rfl ?_
  refine pm_aload_n dX1_readSum_53 rfl rfl ?_
  refine pm_iload_n dX1_readSum_54 rfl rfl ?_
  refine pm_rcv (fun hb9 hc9 => ?_)
  refine pm_kI (d := d + 9) rfl (pm_V (y := zX1_readSum) (z := zX1_readProduct) (As := [.ref l1, .int l2]) zkX1_readProduct pm_q1 (by decide) tw_895 tw_897 tw_51 dX1_readSum_55 rfl rfl (Nat.le_of_ble_eq_true rfl) hb9 hc9) (kcX1_readProduct hfl rs l0 l1 l2 m6 hrs) (fun x8 m7 => ?_)
  refine pm_if_ne (tgt := 63) dX1_readSum_58 rfl ?_ ?_
  · refine pm_aload_n dX1_readSum_63 rfl rfl ?_
    refine pm_iload dX1_readSum_64 rfl ?_
    refine pm_bipush (v := 43) dX1_readSum_66 kb_43 ?_
    refine pm_icmp_ne (tgt := 76) dX1_readSum_68 rfl ?_ ?_
    · refine pm_bipush (v := (-9)) dX1_readSum_76 kb_n9 ?_
      refine pm_drop (ls2 := [.ref l0, .ref l1, .int l2, .int l3, pmU]) (Nat.le_refl _) (pm_le_spec (pm_le_v (pm_le_v (pm_le_v (pm_le_v (pm_le_u (pm_le_n))))))) ?_
      exact gX1_readSum_j78 hfl rs again13 l0 l1 l2 l3 (-9) l0 m7 hrs hag13
    · refine pm_bipush (v := (-8)) dX1_readSum_71 kb_n8 ?_
      refine pm_goto (tgt := 78) dX1_readSum_73 rfl ?_
      refine pm_drop (ls2 := [.ref l0, .ref l1, .int l2, .int l3, pmU]) (Nat.le_refl _) (pm_le_spec (pm_le_v (pm_le_v (pm_le_v (pm_le_v (pm_le_u (pm_le_n))))))) ?_
      exact gX1_readSum_j78 hfl rs again13 l0 l1 l2 l3 (-8) l0 m7 hrs hag13
  · refine pm_iconst (v := 0) dX1_readSum_61 ki_0 ?_
    exact pm_nret (ty := .boolean) (w := 0) rfl (by decide) (by decide) dX1_readSum_62
set_option maxRecDepth 100000 in
set_option maxHeartbeats 4000000 in
theorem gX1_readSum_L13 (hfl : l.flags = flags0) (rs : Nat → Nat → Int32 → pmM → pmR) (l0 : Nat) (l1 : Nat) (l2 : Int32) (hrs : ∀ (j : Nat) (b0 : Nat) (b1 : Nat) (b2 : Int32) (m : pmM), pm_C l Γ zX1_readSum (d + j + 6) [.ref b0, .ref b1, .int b2] m (rs b0 b1 b2 m)) : ∀ (n : Nat) (s : Int32 × pmM), pm_G l Γ zX1_readSum (d + 10) 13 [.ref l0, .ref l1, .int l2, .int s.1, pmU] [] s.2 (pm_lp n (X1_readSum_L13 rs l0 l1 l2) s) :=
  pm_loop (lsf := fun s : Int32 × pmM => [.ref l0, .ref l1, .int l2, .int s.1, pmU]) (mf := fun s : Int32 × pmM => s.2) (fun again13 hag13 s13 => by
    unfold X1_readSum_L13
    refine pm_iload_n dX1_readSum_13 rfl rfl ?_
    refine pm_sipush (v := 150) dX1_readSum_14 ks_150 ?_
    refine pm_icmp_ge (tgt := 88) dX1_readSum_17 rfl ?_ ?_
    · refine pm_iconst (v := 1) dX1_readSum_88 ki_1 ?_
      exact pm_nret (ty := .boolean) (w := 1) rfl (by decide) (by decide) dX1_readSum_89
    · refine pm_aload_n dX1_readSum_20 rfl rfl ?_
      refine pm_rcv (fun hb9 hc9 => ?_)
      refine pm_kI (d := d + 9) rfl (pm_VN (y := zX1_readSum) (z := zX7_peek) (As := []) zkX7_peek pm_q7 (by decide) tw_909 tw_766 tw_34 dX1_readSum_21 rfl rfl (Nat.le_of_ble_eq_true rfl) hb9 hc9) (kcX7_peek (d := d + 9) hfl l1 s13.2) (fun x4 m3 => ?_)
      refine pm_istore (ls2 := [.ref l0, .ref l1, .int l2, .int s13.1, .int x4]) dX1_readSum_24 rfl (Nat.le_of_ble_eq_true rfl) rfl ?_
      refine pm_iload dX1_readSum_26 rfl ?_
      refine pm_bipush (v := 43) dX1_readSum_28 kb_43 ?_
      refine pm_icmp_eq (tgt := 42) dX1_readSum_30 rfl ?_ ?_
      · exact gX1_readSum_j42 hfl rs again13 l0 l1 l2 s13.1 x4 m3 hrs hag13
      · refine pm_iload dX1_readSum_33 rfl ?_
        refine pm_bipush (v := 45) dX1_readSum_35 kb_45 ?_
        refine pm_icmp_eq (tgt := 42) dX1_readSum_37 rfl ?_ ?_
        · exact gX1_readSum_j42 hfl rs again13 l0 l1 l2 s13.1 x4 m3 hrs hag13
        · refine pm_iconst (v := 1) dX1_readSum_40 ki_1 ?_
          exact pm_nret (ty := .boolean) (w := 1) rfl (by decide) (by decide) dX1_readSum_41)
set_option maxRecDepth 100000 in
set_option maxHeartbeats 4000000 in
theorem kcX1_readSum (hfl : l.flags = flags0) (rs : Nat → Nat → Int32 → pmM → pmR) (a0 : Nat) (a1 : Nat) (a2 : Int32) (m : pmM) (hrs : ∀ (j : Nat) (b0 : Nat) (b1 : Nat) (b2 : Int32) (m : pmM), pm_C l Γ zX1_readSum (d + j + 6) [.ref b0, .ref b1, .int b2] m (rs b0 b1 b2 m)) : pm_C l Γ zX1_readSum (d + 10) [.ref a0, .ref a1, .int a2] m (X1_readSum rs a0 a1 a2 m) := by
  refine pm_enter (ls := [.ref a0, .ref a1, .int a2, pmU, pmU]) hfl (by decide +kernel) rfl (Nat.le_of_ble_eq_true rfl) rfl (Nat.le_of_ble_eq_true rfl) ?_
  unfold X1_readSum
  refine pm_aload_n dX1_readSum_0 rfl rfl ?_
  refine pm_aload_n dX1_readSum_1 rfl rfl ?_
  refine pm_iload_n dX1_readSum_2 rfl rfl ?_
  refine pm_rcv (fun hb9 hc9 => ?_)
  refine pm_kI (d := d + 9) rfl (pm_V (y := zX1_readSum) (z := zX1_readProduct) (As := [.ref a1, .int a2]) zkX1_readProduct pm_q1 (by decide) tw_895 tw_897 tw_51 dX1_readSum_3 rfl rfl (Nat.le_of_ble_eq_true rfl) hb9 hc9) (kcX1_readProduct hfl rs a0 a1 a2 m hrs) (fun x2 m1 => ?_)
  refine pm_if_ne (tgt := 11) dX1_readSum_6 rfl ?_ ?_
  · refine pm_iconst (v := 0) dX1_readSum_11 ki_0 ?_
    refine pm_istore_n (ls2 := [.ref a0, .ref a1, .int a2, .int 0, pmU]) dX1_readSum_12 rfl rfl (Nat.le_of_ble_eq_true rfl) rfl ?_
    exact gX1_readSum_L13 hfl rs a0 a1 a2 hrs pm_N (0, m1)
  · refine pm_iconst (v := 0) dX1_readSum_9 ki_0 ?_
    exact pm_nret (ty := .boolean) (w := 0) rfl (by decide) (by decide) dX1_readSum_10
set_option maxRecDepth 100000 in
set_option maxHeartbeats 4000000 in
theorem kcX1_readSum_N0 (hfl : l.flags = flags0) : ∀ (n d : Nat) (b0 : Nat) (b1 : Nat) (b2 : Int32) (m : pmM), pm_C l Γ zX1_readSum (d + 6 + 4 * n) [.ref b0, .ref b1, .int b2] m (X1_readSum_N n b0 b1 b2 m)
  | 0, d, b0, b1, b2, m => fun o m9 h => by cases h
  | n + 1, d, b0, b1, b2, m => by
    have h := kcX1_readSum (d := d + 4 * n) hfl (X1_readSum_N n) b0 b1 b2 m (fun j b0 b1 b2 m => by
      have h2 := kcX1_readSum_N0 hfl n (d + j) b0 b1 b2 m
      rw [show d + 4 * n + j + 6 = d + j + 6 + 4 * n by omega]
      exact h2)
    rw [show d + 6 + 4 * (n + 1) = d + 4 * n + 10 by omega]
    exact h
theorem kcX1_readSum_N (hfl : l.flags = flags0) (n : Nat) (b0 : Nat) (b1 : Nat) (b2 : Int32) (m : pmM) : pm_C l Γ zX1_readSum (d + 6 + 4 * n) [.ref b0, .ref b1, .int b2] m (X1_readSum_N n b0 b1 b2 m) := kcX1_readSum_N0 hfl n d b0 b1 b2 m
-- StruckPage$Law.readFrom(LStruckPage$Text;)Z
def X1_readFrom_j41 (t0 : Int32) (m : pmM) : pmR := pm_oI (vp_nar .boolean t0) m
def X1_readFrom_j36 (m : pmM) : pmR := X1_readFrom_j41 1 m
def X1_readFrom (a0 : Nat) (a1 : Nat) (m : pmM) : pmR := pm_pI 1 a0 3 0 m fun m1 => pm_rc 1 a0 m1 <| pm_cI (X1_readSum_N 10 a0 a1 0 m1) fun x3 m2 => if x3 = 0 then (pm_oI 0 m2) else (pm_rc 7 a1 m2 <| pm_cI (X7_peek a1 m2) fun x5 m4 => if x5 = (-1) then (X1_readFrom_j36 m4) else (pm_gI 7 a1 3 m4 fun x6 => pm_rc 7 a1 m4 <| pm_cI (X7_fail a1 1 x6 m4) fun x8 m7 => if x8 = 0 then (X1_readFrom_j41 0 m7) else (X1_readFrom_j36 m7)))
set_option maxRecDepth 100000 in
set_option maxHeartbeats 4000000 in
theorem gX1_readFrom_j41 (hfl : l.flags = flags0) (t0 : Int32) (m : pmM) : pm_G l Γ zX1_readFrom (d + 47) 41 [pmU, pmU] [.int t0] m (X1_readFrom_j41 t0 m) := by
  unfold X1_readFrom_j41
  exact pm_nret (ty := .boolean) (w := vp_nar .boolean t0) rfl (by decide) rfl dX1_readFrom_41
set_option maxRecDepth 100000 in
set_option maxHeartbeats 4000000 in
theorem gX1_readFrom_j36 (hfl : l.flags = flags0) (m : pmM) : pm_G l Γ zX1_readFrom (d + 47) 36 [pmU, pmU] [] m (X1_readFrom_j36 m) := by
  unfold X1_readFrom_j36
  refine pm_iconst (v := 1) dX1_readFrom_36 ki_1 ?_
  refine pm_goto (tgt := 41) dX1_readFrom_37 rfl ?_
  exact gX1_readFrom_j41 hfl 1 m
set_option maxRecDepth 100000 in
set_option maxHeartbeats 4000000 in
theorem kcX1_readFrom (hfl : l.flags = flags0) (a0 : Nat) (a1 : Nat) (m : pmM) : pm_C l Γ zX1_readFrom (d + 47) [.ref a0, .ref a1] m (X1_readFrom a0 a1 m) := by
  refine pm_enter (ls := [.ref a0, .ref a1]) hfl (by decide +kernel) rfl (Nat.le_of_ble_eq_true rfl) rfl (Nat.le_of_ble_eq_true rfl) ?_
  unfold X1_readFrom
  refine pm_aload_n dX1_readFrom_0 rfl rfl ?_
  refine pm_iconst (v := 0) dX1_readFrom_1 ki_0 ?_
  refine fp_1_3 (y := zX1_readFrom) (Or.inl tw_284) dX1_readFrom_2 (fun m1 => ?_)
  refine pm_aload_n dX1_readFrom_5 rfl rfl ?_
  refine pm_aload_n dX1_readFrom_6 rfl rfl ?_
  refine pm_iconst (v := 0) dX1_readFrom_7 ki_0 ?_
  refine pm_rcv (fun hb9 hc9 => ?_)
  refine pm_kI (d := d + 46) rfl (pm_V (y := zX1_readFrom) (z := zX1_readSum) (As := [.ref a1, .int 0]) zkX1_readSum pm_q1 (by decide) tw_891 tw_893 tw_50 dX1_readFrom_8 rfl rfl (Nat.le_of_ble_eq_true rfl) hb9 hc9) (pm_Cd (by omega) (kcX1_readSum_N (d := d + 0) hfl 10 a0 a1 0 m1)) (fun x3 m2 => ?_)
  refine pm_if_ne (tgt := 16) dX1_readFrom_11 rfl ?_ ?_
  · refine pm_aload_n dX1_readFrom_16 rfl rfl ?_
    refine pm_rcv (fun hb9 hc9 => ?_)
    refine pm_kI (d := d + 46) rfl (pm_VN (y := zX1_readFrom) (z := zX7_peek) (As := []) zkX7_peek pm_q7 (by decide) tw_909 tw_766 tw_34 dX1_readFrom_17 rfl rfl (Nat.le_of_ble_eq_true rfl) hb9 hc9) (kcX7_peek (d := d + 46) hfl a1 m2) (fun x5 m4 => ?_)
    refine pm_iconst (v := (-1)) dX1_readFrom_20 ki_n1 ?_
    refine pm_icmp_eq (tgt := 36) dX1_readFrom_21 rfl ?_ ?_
    · refine pm_drop (ls2 := [pmU, pmU]) (Nat.le_refl _) (pm_le_spec (pm_le_u (pm_le_u (pm_le_n)))) ?_
      exact gX1_readFrom_j36 hfl m4
    · refine pm_aload_n dX1_readFrom_24 rfl rfl ?_
      refine pm_iconst (v := 1) dX1_readFrom_25 ki_1 ?_
      refine pm_aload_n dX1_readFrom_26 rfl rfl ?_
      refine fg_7_3 (y := zX1_readFrom) (Or.inr tw_198) dX1_readFrom_27 (fun x6 => ?_)
      refine pm_rcv (fun hb9 hc9 => ?_)
      refine pm_kI (d := d + 46) rfl (pm_VN (y := zX1_readFrom) (z := zX7_fail) (As := [.int 1, .int x6]) zkX7_fail pm_q7 (by decide) tw_910 tw_783 tw_38 dX1_readFrom_30 rfl rfl (Nat.le_of_ble_eq_true rfl) hb9 hc9) (kcX7_fail (d := d + 46) hfl a1 1 x6 m4) (fun x8 m7 => ?_)
      refine pm_if_eq (tgt := 40) dX1_readFrom_33 rfl ?_ ?_
      · refine pm_iconst (v := 0) dX1_readFrom_40 ki_0 ?_
        refine pm_drop (ls2 := [pmU, pmU]) (Nat.le_refl _) (pm_le_spec (pm_le_u (pm_le_u (pm_le_n)))) ?_
        exact gX1_readFrom_j41 hfl 0 m7
      · refine pm_drop (ls2 := [pmU, pmU]) (Nat.le_refl _) (pm_le_spec (pm_le_u (pm_le_u (pm_le_n)))) ?_
        exact gX1_readFrom_j36 hfl m7
  · refine pm_iconst (v := 0) dX1_readFrom_14 ki_0 ?_
    exact pm_nret (ty := .boolean) (w := 0) rfl (by decide) (by decide) dX1_readFrom_15
-- StruckPage$Paper.<init>()V
def X2_init (a0 : Nat) (m : pmM) : pmR := pm_na 100 6 m fun r1 m2 => pm_pR 2 a0 0 r1 m2 fun m3 => pm_na 100 48 m3 fun r4 m5 => pm_pR 2 a0 1 r4 m5 fun m6 => pm_na 100 4 m6 fun r7 m8 => pm_pR 2 a0 2 r7 m8 fun m9 => pm_pI 2 a0 5 60 m9 fun m10 => pm_oV m10
set_option maxRecDepth 100000 in
set_option maxHeartbeats 4000000 in
theorem kcX2_init (hfl : l.flags = flags0) (a0 : Nat) (m : pmM) : pm_C l Γ zX2_init (d + 0) [.ref a0] m (X2_init a0 m) := by
  refine pm_enter (ls := [.ref a0]) hfl (by decide +kernel) rfl (Nat.le_of_ble_eq_true rfl) rfl (Nat.le_of_ble_eq_true rfl) ?_
  unfold X2_init
  refine pm_aload_n dX2_init_0 rfl rfl ?_
  refine pm_oinit (y := zX2_init) tw_236 tw_184 tw_185 dX2_init_1 (Nat.le_of_ble_eq_true rfl) ?_
  refine pm_aload_n dX2_init_4 rfl rfl ?_
  refine pm_bipush (v := 6) dX2_init_5 kb_6 ?_
  refine pm_newa (y := zX2_init) (atype := .int) (kd := 100) (by decide) tw_230 dX2_init_7 (fun r1 m2 => ?_)
  refine fp_2_0 (y := zX2_init) ⟨tw_237, rfl⟩ dX2_init_9 (fun m3 => ?_)
  refine pm_aload_n dX2_init_12 rfl rfl ?_
  refine pm_bipush (v := 48) dX2_init_13 kb_48 ?_
  refine pm_newa (y := zX2_init) (atype := .int) (kd := 100) (by decide) tw_230 dX2_init_15 (fun r4 m5 => ?_)
  refine fp_2_1 (y := zX2_init) ⟨tw_241, rfl⟩ dX2_init_17 (fun m6 => ?_)
  refine pm_aload_n dX2_init_20 rfl rfl ?_
  refine pm_iconst (v := 4) dX2_init_21 ki_4 ?_
  refine pm_newa (y := zX2_init) (atype := .int) (kd := 100) (by decide) tw_230 dX2_init_22 (fun r7 m8 => ?_)
  refine fp_2_2 (y := zX2_init) ⟨tw_242, rfl⟩ dX2_init_24 (fun m9 => ?_)
  refine pm_aload_n dX2_init_27 rfl rfl ?_
  refine pm_bipush (v := 60) dX2_init_28 kb_60 ?_
  refine fp_2_5 (y := zX2_init) (Or.inl tw_251) dX2_init_30 (fun m10 => ?_)
  exact pm_vret rfl dX2_init_33
-- StruckPage$Paper.takeOver(LStruckPage$Paper;)V
def X2_takeOver (a0 : Nat) (a1 : Nat) (m : pmM) : pmR := pm_gR 2 a1 0 m fun r1 => pm_gR 2 a0 0 m fun r2 => pm_cp r1 0 r2 0 6 m fun m3 => pm_gR 2 a1 1 m3 fun r4 => pm_gR 2 a0 1 m3 fun r5 => pm_cp r4 0 r5 0 48 m3 fun m6 => pm_gR 2 a1 2 m6 fun r7 => pm_gR 2 a0 2 m6 fun r8 => pm_cp r7 0 r8 0 4 m6 fun m9 => pm_gI 2 a1 3 m9 fun x10 => pm_pI 2 a0 3 x10 m9 fun m11 => pm_gI 2 a1 4 m11 fun x12 => pm_pI 2 a0 4 x12 m11 fun m13 => pm_gI 2 a1 5 m13 fun x14 => pm_pI 2 a0 5 x14 m13 fun m15 => pm_oV m15
set_option maxRecDepth 100000 in
set_option maxHeartbeats 4000000 in
theorem kcX2_takeOver (hfl : l.flags = flags0) (a0 : Nat) (a1 : Nat) (m : pmM) : pm_C l Γ zX2_takeOver (d + 0) [.ref a0, .ref a1] m (X2_takeOver a0 a1 m) := by
  refine pm_enter (ls := [.ref a0, .ref a1]) hfl (by decide +kernel) rfl (Nat.le_of_ble_eq_true rfl) rfl (Nat.le_of_ble_eq_true rfl) ?_
  unfold X2_takeOver
  refine pm_aload_n dX2_takeOver_0 rfl rfl ?_
  refine fg_2_0 (y := zX2_takeOver) (Or.inl tw_237) dX2_takeOver_1 (fun r1 => ?_)
  refine pm_iconst (v := 0) dX2_takeOver_4 ki_0 ?_
  refine pm_aload_n dX2_takeOver_5 rfl rfl ?_
  refine fg_2_0 (y := zX2_takeOver) (Or.inl tw_237) dX2_takeOver_6 (fun r2 => ?_)
  refine pm_iconst (v := 0) dX2_takeOver_9 ki_0 ?_
  refine pm_bipush (v := 6) dX2_takeOver_10 kb_6 ?_
  refine pm_copy (y := zX2_takeOver) tw_870 tw_280 tw_279 tw_160 dX2_takeOver_12 (Nat.le_of_ble_eq_true rfl) (fun m3 => ?_)
  refine pm_aload_n dX2_takeOver_15 rfl rfl ?_
  refine fg_2_1 (y := zX2_takeOver) (Or.inl tw_241) dX2_takeOver_16 (fun r4 => ?_)
  refine pm_iconst (v := 0) dX2_takeOver_19 ki_0 ?_
  refine pm_aload_n dX2_takeOver_20 rfl rfl ?_
  refine fg_2_1 (y := zX2_takeOver) (Or.inl tw_241) dX2_takeOver_21 (fun r5 => ?_)
  refine pm_iconst (v := 0) dX2_takeOver_24 ki_0 ?_
  refine pm_bipush (v := 48) dX2_takeOver_25 kb_48 ?_
  refine pm_copy (y := zX2_takeOver) tw_870 tw_280 tw_279 tw_160 dX2_takeOver_27 (Nat.le_of_ble_eq_true rfl) (fun m6 => ?_)
  refine pm_aload_n dX2_takeOver_30 rfl rfl ?_
  refine fg_2_2 (y := zX2_takeOver) (Or.inl tw_242) dX2_takeOver_31 (fun r7 => ?_)
  refine pm_iconst (v := 0) dX2_takeOver_34 ki_0 ?_
  refine pm_aload_n dX2_takeOver_35 rfl rfl ?_
  refine fg_2_2 (y := zX2_takeOver) (Or.inl tw_242) dX2_takeOver_36 (fun r8 => ?_)
  refine pm_iconst (v := 0) dX2_takeOver_39 ki_0 ?_
  refine pm_iconst (v := 4) dX2_takeOver_40 ki_4 ?_
  refine pm_copy (y := zX2_takeOver) tw_870 tw_280 tw_279 tw_160 dX2_takeOver_41 (Nat.le_of_ble_eq_true rfl) (fun m9 => ?_)
  refine pm_aload_n dX2_takeOver_44 rfl rfl ?_
  refine pm_aload_n dX2_takeOver_45 rfl rfl ?_
  refine fg_2_3 (y := zX2_takeOver) (Or.inl tw_244) dX2_takeOver_46 (fun x10 => ?_)
  refine fp_2_3 (y := zX2_takeOver) (Or.inl tw_244) dX2_takeOver_49 (fun m11 => ?_)
  refine pm_aload_n dX2_takeOver_52 rfl rfl ?_
  refine pm_aload_n dX2_takeOver_53 rfl rfl ?_
  refine fg_2_4 (y := zX2_takeOver) (Or.inl tw_249) dX2_takeOver_54 (fun x12 => ?_)
  refine fp_2_4 (y := zX2_takeOver) (Or.inl tw_249) dX2_takeOver_57 (fun m13 => ?_)
  refine pm_aload_n dX2_takeOver_60 rfl rfl ?_
  refine pm_aload_n dX2_takeOver_61 rfl rfl ?_
  refine fg_2_5 (y := zX2_takeOver) (Or.inl tw_251) dX2_takeOver_62 (fun x14 => ?_)
  refine fp_2_5 (y := zX2_takeOver) (Or.inl tw_251) dX2_takeOver_65 (fun m15 => ?_)
  exact pm_vret rfl dX2_takeOver_68
-- StruckPage$Paper.readLine(LStruckPage$Text;)Z
def X2_readLine_j64 (l0 : Nat) (l2 : Int32) (m : pmM) : pmR := pm_gR 2 l0 0 m fun r8 => pm_gI 2 l0 3 m fun x9 => pm_st 100 r8 x9 l2 m fun m10 => pm_gI 2 l0 3 m10 fun x11 => pm_pI 2 l0 3 (x11 + 1) m10 fun m12 => pm_gI 2 l0 4 m12 fun x13 => pm_pI 2 l0 4 (x13 + l2) m12 fun m14 => pm_oI 1 m14
def X2_readLine_L2 (l0 : Nat) (l1 : Nat) (again2 : (Int32 × pmM) → pmR) (s2 : Int32 × pmM) : pmR := pm_rc 7 l1 s2.2 <| pm_cI (X7_takeNumber l1 0 15 s2.2) fun x2 m1 => if x2 = 0 then (pm_oI 0 m1) else (if s2.1 < 8 then (pm_gR 2 l0 1 m1 fun r3 => pm_gI 2 l0 3 m1 fun x4 => pm_gI 7 l1 5 m1 fun x5 => pm_st 100 r3 ((x4 * 8) + s2.1) x5 m1 fun m6 => pm_bI (s2.1 + 1) fun x7 => if (8 : Int32) < x7 then (X2_readLine_j64 l0 x7 m6) else (pm_rc 7 l1 m6 <| pm_cI (X7_isAtDigit l1 m6) fun x16 m15 => if x16 = 0 then (X2_readLine_j64 l0 x7 m15) else (again2 (x7, m15)))) else (pm_gI 7 l1 4 m1 fun x17 => pm_rc 7 l1 m1 <| pm_cI (X7_fail l1 3 x17 m1) fun x19 m18 => pm_oI (vp_nar .boolean x19) m18))
def X2_readLine (a0 : Nat) (a1 : Nat) (m : pmM) : pmR := pm_lp pm_N (X2_readLine_L2 a0 a1) (0, m)
set_option maxRecDepth 100000 in
set_option maxHeartbeats 4000000 in
theorem gX2_readLine_j64 (hfl : l.flags = flags0) (l0 : Nat) (l2 : Int32) (m : pmM) : pm_G l Γ zX2_readLine (d + 2) 64 [.ref l0, pmU, .int l2] [] m (X2_readLine_j64 l0 l2 m) := by
  unfold X2_readLine_j64
  refine pm_aload_n dX2_readLine_64 rfl rfl ?_
  refine fg_2_0 (y := zX2_readLine) (Or.inl tw_237) dX2_readLine_65 (fun r8 => ?_)
  refine pm_aload_n dX2_readLine_68 rfl rfl ?_
  refine fg_2_3 (y := zX2_readLine) (Or.inl tw_244) dX2_readLine_69 (fun x9 => ?_)
  refine pm_iload_n dX2_readLine_72 rfl rfl ?_
  refine pm_iast (y := zX2_readLine) dX2_readLine_73 (fun m10 => ?_)
  refine pm_aload_n dX2_readLine_74 rfl rfl ?_
  refine pm_dup dX2_readLine_75 rfl ?_
  refine fg_2_3 (y := zX2_readLine) (Or.inl tw_244) dX2_readLine_76 (fun x11 => ?_)
  refine pm_iconst (v := 1) dX2_readLine_79 ki_1 ?_
  refine pm_iadd dX2_readLine_80 ?_
  refine fp_2_3 (y := zX2_readLine) (Or.inl tw_244) dX2_readLine_81 (fun m12 => ?_)
  refine pm_aload_n dX2_readLine_84 rfl rfl ?_
  refine pm_dup dX2_readLine_85 rfl ?_
  refine fg_2_4 (y := zX2_readLine) (Or.inl tw_249) dX2_readLine_86 (fun x13 => ?_)
  refine pm_iload_n dX2_readLine_89 rfl rfl ?_
  refine pm_iadd dX2_readLine_90 ?_
  refine fp_2_4 (y := zX2_readLine) (Or.inl tw_249) dX2_readLine_91 (fun m14 => ?_)
  refine pm_iconst (v := 1) dX2_readLine_94 ki_1 ?_
  exact pm_nret (ty := .boolean) (w := 1) rfl (by decide) (by decide) dX2_readLine_95
set_option maxRecDepth 100000 in
set_option maxHeartbeats 4000000 in
theorem gX2_readLine_L2 (hfl : l.flags = flags0) (l0 : Nat) (l1 : Nat) : ∀ (n : Nat) (s : Int32 × pmM), pm_G l Γ zX2_readLine (d + 2) 2 [.ref l0, .ref l1, .int s.1] [] s.2 (pm_lp n (X2_readLine_L2 l0 l1) s) :=
  pm_loop (lsf := fun s : Int32 × pmM => [.ref l0, .ref l1, .int s.1]) (mf := fun s : Int32 × pmM => s.2) (fun again2 hag2 s2 => by
    unfold X2_readLine_L2
    refine pm_aload_n dX2_readLine_2 rfl rfl ?_
    refine pm_iconst (v := 0) dX2_readLine_3 ki_0 ?_
    refine pm_bipush (v := 15) dX2_readLine_4 kb_15 ?_
    refine pm_rcv (fun hb9 hc9 => ?_)
    refine pm_kI (d := d + 1) rfl (pm_VN (y := zX2_readLine) (z := zX7_takeNumber) (As := [.int 0, .int 15]) zkX7_takeNumber pm_q7 (by decide) tw_845 tw_847 tw_41 dX2_readLine_6 rfl rfl (Nat.le_of_ble_eq_true rfl) hb9 hc9) (kcX7_takeNumber (d := d + 0) hfl l1 0 15 s2.2) (fun x2 m1 => ?_)
    refine pm_if_ne (tgt := 14) dX2_readLine_9 rfl ?_ ?_
    · refine pm_iload_n dX2_readLine_14 rfl rfl ?_
      refine pm_bipush (v := 8) dX2_readLine_15 kb_8 ?_
      refine pm_icmp_lt (tgt := 30) dX2_readLine_17 rfl ?_ ?_
      · refine pm_aload_n dX2_readLine_30 rfl rfl ?_
        refine fg_2_1 (y := zX2_readLine) (Or.inl tw_241) dX2_readLine_31 (fun r3 => ?_)
        refine pm_aload_n dX2_readLine_34 rfl rfl ?_
        refine fg_2_3 (y := zX2_readLine) (Or.inl tw_244) dX2_readLine_35 (fun x4 => ?_)
        refine pm_bipush (v := 8) dX2_readLine_38 kb_8 ?_
        refine pm_imul dX2_readLine_40 ?_
        refine pm_iload_n dX2_readLine_41 rfl rfl ?_
        refine pm_iadd dX2_readLine_42 ?_
        refine pm_aload_n dX2_readLine_43 rfl rfl ?_
        refine fg_7_5 (y := zX2_readLine) (Or.inr tw_206) dX2_readLine_44 (fun x5 => ?_)
        refine pm_iast (y := zX2_readLine) dX2_readLine_47 (fun m6 => ?_)
        refine pm_iincn (y := zX2_readLine) dX2_readLine_48 rfl ki_1 rfl (Nat.le_of_ble_eq_true rfl) (fun x7 => ?_)
        refine pm_eqls (ls2 := [.ref l0, .ref l1, .int x7]) rfl ?_
        refine pm_iload_n dX2_readLine_51 rfl rfl ?_
        refine pm_bipush (v := 8) dX2_readLine_52 kb_8 ?_
        refine pm_icmp_gt (tgt := 64) dX2_readLine_54 rfl ?_ ?_
        · refine pm_drop (ls2 := [.ref l0, pmU, .int x7]) (Nat.le_refl _) (pm_le_spec (pm_le_v (pm_le_u (pm_le_v (pm_le_n))))) ?_
          exact gX2_readLine_j64 hfl l0 x7 m6
        · refine pm_aload_n dX2_readLine_57 rfl rfl ?_
          refine pm_rcv (fun hb9 hc9 => ?_)
          refine pm_kI (d := d + 1) rfl (pm_VN (y := zX2_readLine) (z := zX7_isAtDigit) (As := []) zkX7_isAtDigit pm_q7 (by decide) tw_850 tw_852 tw_42 dX2_readLine_58 rfl rfl (Nat.le_of_ble_eq_true rfl) hb9 hc9) (kcX7_isAtDigit (d := d + 0) hfl l1 m6) (fun x16 m15 => ?_)
          refine pm_if_ne (tgt := 2) dX2_readLine_61 rfl ?_ ?_
          · exact hag2 (x7, m15)
          · refine pm_drop (ls2 := [.ref l0, pmU, .int x7]) (Nat.le_refl _) (pm_le_spec (pm_le_v (pm_le_u (pm_le_v (pm_le_n))))) ?_
            exact gX2_readLine_j64 hfl l0 x7 m15
      · refine pm_aload_n dX2_readLine_20 rfl rfl ?_
        refine pm_iconst (v := 3) dX2_readLine_21 ki_3 ?_
        refine pm_aload_n dX2_readLine_22 rfl rfl ?_
        refine fg_7_4 (y := zX2_readLine) (Or.inr tw_201) dX2_readLine_23 (fun x17 => ?_)
        refine pm_rcv (fun hb9 hc9 => ?_)
        refine pm_kI (d := d + 1) rfl (pm_VN (y := zX2_readLine) (z := zX7_fail) (As := [.int 3, .int x17]) zkX7_fail pm_q7 (by decide) tw_840 tw_783 tw_38 dX2_readLine_26 rfl rfl (Nat.le_of_ble_eq_true rfl) hb9 hc9) (kcX7_fail (d := d + 1) hfl l1 3 x17 m1) (fun x19 m18 => ?_)
        exact pm_nret (ty := .boolean) (w := vp_nar .boolean x19) rfl (by decide) rfl dX2_readLine_29
    · refine pm_iconst (v := 0) dX2_readLine_12 ki_0 ?_
      exact pm_nret (ty := .boolean) (w := 0) rfl (by decide) (by decide) dX2_readLine_13)
set_option maxRecDepth 100000 in
set_option maxHeartbeats 4000000 in
theorem kcX2_readLine (hfl : l.flags = flags0) (a0 : Nat) (a1 : Nat) (m : pmM) : pm_C l Γ zX2_readLine (d + 2) [.ref a0, .ref a1] m (X2_readLine a0 a1 m) := by
  refine pm_enter (ls := [.ref a0, .ref a1, pmU]) hfl (by decide +kernel) rfl (Nat.le_of_ble_eq_true rfl) rfl (Nat.le_of_ble_eq_true rfl) ?_
  unfold X2_readLine
  refine pm_iconst (v := 0) dX2_readLine_0 ki_0 ?_
  refine pm_istore_n (ls2 := [.ref a0, .ref a1, .int 0]) dX2_readLine_1 rfl rfl (Nat.le_of_ble_eq_true rfl) rfl ?_
  exact gX2_readLine_L2 hfl a0 a1 pm_N (0, m)
-- StruckPage$Paper.readCell(LStruckPage$Text;)Z
def X2_readCell (a0 : Nat) (a1 : Nat) (m : pmM) : pmR := pm_rc 7 a1 m <| pm_cI (X7_takeNumber a1 0 3 m) fun x2 m1 => if x2 = 0 then (pm_oI 0 m1) else (pm_gI 7 a1 5 m1 fun x3 => pm_rc 7 a1 m1 <| pm_cI (X7_takeNumber a1 0 99 m1) fun x5 m4 => if x5 = 0 then (pm_oI 0 m4) else (pm_gR 2 a0 2 m4 fun r6 => pm_gI 7 a1 5 m4 fun x7 => pm_st 100 r6 x3 x7 m4 fun m8 => pm_oI 1 m8))
set_option maxRecDepth 100000 in
set_option maxHeartbeats 4000000 in
theorem kcX2_readCell (hfl : l.flags = flags0) (a0 : Nat) (a1 : Nat) (m : pmM) : pm_C l Γ zX2_readCell (d + 2) [.ref a0, .ref a1] m (X2_readCell a0 a1 m) := by
  refine pm_enter (ls := [.ref a0, .ref a1, pmU]) hfl (by decide +kernel) rfl (Nat.le_of_ble_eq_true rfl) rfl (Nat.le_of_ble_eq_true rfl) ?_
  unfold X2_readCell
  refine pm_aload_n dX2_readCell_0 rfl rfl ?_
  refine pm_iconst (v := 0) dX2_readCell_1 ki_0 ?_
  refine pm_iconst (v := 3) dX2_readCell_2 ki_3 ?_
  refine pm_rcv (fun hb9 hc9 => ?_)
  refine pm_kI (d := d + 1) rfl (pm_VN (y := zX2_readCell) (z := zX7_takeNumber) (As := [.int 0, .int 3]) zkX7_takeNumber pm_q7 (by decide) tw_845 tw_847 tw_41 dX2_readCell_3 rfl rfl (Nat.le_of_ble_eq_true rfl) hb9 hc9) (kcX7_takeNumber (d := d + 0) hfl a1 0 3 m) (fun x2 m1 => ?_)
  refine pm_if_ne (tgt := 11) dX2_readCell_6 rfl ?_ ?_
  · refine pm_aload_n dX2_readCell_11 rfl rfl ?_
    refine fg_7_5 (y := zX2_readCell) (Or.inr tw_206) dX2_readCell_12 (fun x3 => ?_)
    refine pm_istore_n (ls2 := [.ref a0, .ref a1, .int x3]) dX2_readCell_15 rfl rfl (Nat.le_of_ble_eq_true rfl) rfl ?_
    refine pm_aload_n dX2_readCell_16 rfl rfl ?_
    refine pm_iconst (v := 0) dX2_readCell_17 ki_0 ?_
    refine pm_bipush (v := 99) dX2_readCell_18 kb_99 ?_
    refine pm_rcv (fun hb9 hc9 => ?_)
    refine pm_kI (d := d + 1) rfl (pm_VN (y := zX2_readCell) (z := zX7_takeNumber) (As := [.int 0, .int 99]) zkX7_takeNumber pm_q7 (by decide) tw_845 tw_847 tw_41 dX2_readCell_20 rfl rfl (Nat.le_of_ble_eq_true rfl) hb9 hc9) (kcX7_takeNumber (d := d + 0) hfl a1 0 99 m1) (fun x5 m4 => ?_)
    refine pm_if_ne (tgt := 28) dX2_readCell_23 rfl ?_ ?_
    · refine pm_aload_n dX2_readCell_28 rfl rfl ?_
      refine fg_2_2 (y := zX2_readCell) (Or.inl tw_242) dX2_readCell_29 (fun r6 => ?_)
      refine pm_iload_n dX2_readCell_32 rfl rfl ?_
      refine pm_aload_n dX2_readCell_33 rfl rfl ?_
      refine fg_7_5 (y := zX2_readCell) (Or.inr tw_206) dX2_readCell_34 (fun x7 => ?_)
      refine pm_iast (y := zX2_readCell) dX2_readCell_37 (fun m8 => ?_)
      refine pm_iconst (v := 1) dX2_readCell_38 ki_1 ?_
      exact pm_nret (ty := .boolean) (w := 1) rfl (by decide) (by decide) dX2_readCell_39
    · refine pm_iconst (v := 0) dX2_readCell_26 ki_0 ?_
      exact pm_nret (ty := .boolean) (w := 0) rfl (by decide) (by decide) dX2_readCell_27
  · refine pm_iconst (v := 0) dX2_readCell_9 ki_0 ?_
    exact pm_nret (ty := .boolean) (w := 0) rfl (by decide) (by decide) dX2_readCell_10
-- StruckPage$Paper.readInk(LStruckPage$Text;)Z
def X2_readInk (a0 : Nat) (a1 : Nat) (m : pmM) : pmR := pm_rc 7 a1 m <| pm_cI (X7_takeNumber a1 0 200 m) fun x2 m1 => if x2 = 0 then (pm_oI 0 m1) else (pm_gI 7 a1 5 m1 fun x3 => pm_pI 2 a0 5 x3 m1 fun m4 => pm_oI 1 m4)
set_option maxRecDepth 100000 in
set_option maxHeartbeats 4000000 in
theorem kcX2_readInk (hfl : l.flags = flags0) (a0 : Nat) (a1 : Nat) (m : pmM) : pm_C l Γ zX2_readInk (d + 2) [.ref a0, .ref a1] m (X2_readInk a0 a1 m) := by
  refine pm_enter (ls := [.ref a0, .ref a1]) hfl (by decide +kernel) rfl (Nat.le_of_ble_eq_true rfl) rfl (Nat.le_of_ble_eq_true rfl) ?_
  unfold X2_readInk
  refine pm_aload_n dX2_readInk_0 rfl rfl ?_
  refine pm_iconst (v := 0) dX2_readInk_1 ki_0 ?_
  refine pm_sipush (v := 200) dX2_readInk_2 ks_200 ?_
  refine pm_rcv (fun hb9 hc9 => ?_)
  refine pm_kI (d := d + 1) rfl (pm_VN (y := zX2_readInk) (z := zX7_takeNumber) (As := [.int 0, .int 200]) zkX7_takeNumber pm_q7 (by decide) tw_845 tw_847 tw_41 dX2_readInk_5 rfl rfl (Nat.le_of_ble_eq_true rfl) hb9 hc9) (kcX7_takeNumber (d := d + 0) hfl a1 0 200 m) (fun x2 m1 => ?_)
  refine pm_if_ne (tgt := 13) dX2_readInk_8 rfl ?_ ?_
  · refine pm_aload_n dX2_readInk_13 rfl rfl ?_
    refine pm_aload_n dX2_readInk_14 rfl rfl ?_
    refine fg_7_5 (y := zX2_readInk) (Or.inr tw_206) dX2_readInk_15 (fun x3 => ?_)
    refine fp_2_5 (y := zX2_readInk) (Or.inl tw_251) dX2_readInk_18 (fun m4 => ?_)
    refine pm_iconst (v := 1) dX2_readInk_21 ki_1 ?_
    exact pm_nret (ty := .boolean) (w := 1) rfl (by decide) (by decide) dX2_readInk_22
  · refine pm_iconst (v := 0) dX2_readInk_11 ki_0 ?_
    exact pm_nret (ty := .boolean) (w := 0) rfl (by decide) (by decide) dX2_readInk_12
end GEN4
