section GEN17
variable {l : Launch} {Γ : pmG} {d : Nat}
-- StruckPageModel.knownHere()I
def X9_knownHere_j134 (t0 : Int32) (m : pmM) : pmR := pm_oI t0 m
def X9_knownHere (a0 : Nat) (m : pmM) : pmR := pm_rc 9 a0 m <| pm_cI (X9_takes a0 23 15 18 4 19 0 m) fun x2 m1 => if x2 = 0 then (pm_rc 9 a0 m1 <| pm_cI (X9_takes a0 19 20 18 21 3 11 m1) fun x4 m3 => if x4 = 0 then (pm_rc 9 a0 m3 <| pm_cI (X9_takes a0 6 9 18 19 20 0 m3) fun x6 m5 => if x6 = 0 then (pm_rc 9 a0 m5 <| pm_cI (X9_takes a0 12 9 14 5 0 0 m5) fun x8 m7 => if x8 = 0 then (pm_rc 9 a0 m7 <| pm_cI (X9_takes a0 12 5 6 20 0 0 m7) fun x10 m9 => if x10 = 0 then (pm_rc 9 a0 m9 <| pm_cI (X9_takes a0 9 14 11 0 0 0 m9) fun x12 m11 => if x12 = 0 then (pm_rc 9 a0 m11 <| pm_cI (X9_takes a0 3 5 12 12 0 0 m11) fun x14 m13 => if x14 = 0 then (X9_knownHere_j134 (-1) m13) else (X9_knownHere_j134 6 m13)) else (pm_oI 5 m11)) else (pm_oI 4 m9)) else (pm_oI 3 m7)) else (pm_oI 2 m5)) else (pm_oI 1 m3)) else (pm_oI 0 m1)
set_option maxRecDepth 100000 in
set_option maxHeartbeats 4000000 in
theorem gX9_knownHere_j134 (hfl : l.flags = flags0) (t0 : Int32) (m : pmM) : pm_G l Γ zX9_knownHere (d + 5) 134 [pmU] [.int t0] m (X9_knownHere_j134 t0 m) := by
  unfold X9_knownHere_j134
  exact pm_iret rfl dX9_knownHere_134
set_option maxRecDepth 100000 in
set_option maxHeartbeats 4000000 in
theorem kcX9_knownHere (hfl : l.flags = flags0) (a0 : Nat) (m : pmM) : pm_C l Γ zX9_knownHere (d + 5) [.ref a0] m (X9_knownHere a0 m) := by
  refine pm_enter (ls := [.ref a0]) hfl (by decide +kernel) rfl (Nat.le_of_ble_eq_true rfl) rfl (Nat.le_of_ble_eq_true rfl) ?_
  unfold X9_knownHere
  refine pm_aload_n dX9_knownHere_0 rfl rfl ?_
  refine pm_bipush (v := 23) dX9_knownHere_1 kb_23 ?_
  refine pm_bipush (v := 15) dX9_knownHere_3 kb_15 ?_
  refine pm_bipush (v := 18) dX9_knownHere_5 kb_18 ?_
  refine pm_iconst (v := 4) dX9_knownHere_7 ki_4 ?_
  refine pm_bipush (v := 19) dX9_knownHere_8 kb_19 ?_
  refine pm_iconst (v := 0) dX9_knownHere_10 ki_0 ?_
  refine pm_rcv (fun hb9 hc9 => ?_)
  refine pm_kI (d := d + 4) rfl (pm_V (y := zX9_knownHere) (z := zX9_takes) (As := [.int 23, .int 15, .int 18, .int 4, .int 19, .int 0]) zkX9_takes pm_q9 (by decide) tw_1650 tw_1652 tw_121 dX9_knownHere_11 rfl rfl (Nat.le_of_ble_eq_true rfl) hb9 hc9) (kcX9_takes (d := d + 0) hfl a0 23 15 18 4 19 0 m) (fun x2 m1 => ?_)
  refine pm_if_eq (tgt := 19) dX9_knownHere_14 rfl ?_ ?_
  · refine pm_aload_n dX9_knownHere_19 rfl rfl ?_
    refine pm_bipush (v := 19) dX9_knownHere_20 kb_19 ?_
    refine pm_bipush (v := 20) dX9_knownHere_22 kb_20 ?_
    refine pm_bipush (v := 18) dX9_knownHere_24 kb_18 ?_
    refine pm_bipush (v := 21) dX9_knownHere_26 kb_21 ?_
    refine pm_iconst (v := 3) dX9_knownHere_28 ki_3 ?_
    refine pm_bipush (v := 11) dX9_knownHere_29 kb_11 ?_
    refine pm_rcv (fun hb9 hc9 => ?_)
    refine pm_kI (d := d + 4) rfl (pm_V (y := zX9_knownHere) (z := zX9_takes) (As := [.int 19, .int 20, .int 18, .int 21, .int 3, .int 11]) zkX9_takes pm_q9 (by decide) tw_1650 tw_1652 tw_121 dX9_knownHere_31 rfl rfl (Nat.le_of_ble_eq_true rfl) hb9 hc9) (kcX9_takes (d := d + 0) hfl a0 19 20 18 21 3 11 m1) (fun x4 m3 => ?_)
    refine pm_if_eq (tgt := 39) dX9_knownHere_34 rfl ?_ ?_
    · refine pm_aload_n dX9_knownHere_39 rfl rfl ?_
      refine pm_bipush (v := 6) dX9_knownHere_40 kb_6 ?_
      refine pm_bipush (v := 9) dX9_knownHere_42 kb_9 ?_
      refine pm_bipush (v := 18) dX9_knownHere_44 kb_18 ?_
      refine pm_bipush (v := 19) dX9_knownHere_46 kb_19 ?_
      refine pm_bipush (v := 20) dX9_knownHere_48 kb_20 ?_
      refine pm_iconst (v := 0) dX9_knownHere_50 ki_0 ?_
      refine pm_rcv (fun hb9 hc9 => ?_)
      refine pm_kI (d := d + 4) rfl (pm_V (y := zX9_knownHere) (z := zX9_takes) (As := [.int 6, .int 9, .int 18, .int 19, .int 20, .int 0]) zkX9_takes pm_q9 (by decide) tw_1650 tw_1652 tw_121 dX9_knownHere_51 rfl rfl (Nat.le_of_ble_eq_true rfl) hb9 hc9) (kcX9_takes (d := d + 0) hfl a0 6 9 18 19 20 0 m3) (fun x6 m5 => ?_)
      refine pm_if_eq (tgt := 59) dX9_knownHere_54 rfl ?_ ?_
      · refine pm_aload_n dX9_knownHere_59 rfl rfl ?_
        refine pm_bipush (v := 12) dX9_knownHere_60 kb_12 ?_
        refine pm_bipush (v := 9) dX9_knownHere_62 kb_9 ?_
        refine pm_bipush (v := 14) dX9_knownHere_64 kb_14 ?_
        refine pm_iconst (v := 5) dX9_knownHere_66 ki_5 ?_
        refine pm_iconst (v := 0) dX9_knownHere_67 ki_0 ?_
        refine pm_iconst (v := 0) dX9_knownHere_68 ki_0 ?_
        refine pm_rcv (fun hb9 hc9 => ?_)
        refine pm_kI (d := d + 4) rfl (pm_V (y := zX9_knownHere) (z := zX9_takes) (As := [.int 12, .int 9, .int 14, .int 5, .int 0, .int 0]) zkX9_takes pm_q9 (by decide) tw_1650 tw_1652 tw_121 dX9_knownHere_69 rfl rfl (Nat.le_of_ble_eq_true rfl) hb9 hc9) (kcX9_takes (d := d + 0) hfl a0 12 9 14 5 0 0 m5) (fun x8 m7 => ?_)
        refine pm_if_eq (tgt := 77) dX9_knownHere_72 rfl ?_ ?_
        · refine pm_aload_n dX9_knownHere_77 rfl rfl ?_
          refine pm_bipush (v := 12) dX9_knownHere_78 kb_12 ?_
          refine pm_iconst (v := 5) dX9_knownHere_80 ki_5 ?_
          refine pm_bipush (v := 6) dX9_knownHere_81 kb_6 ?_
          refine pm_bipush (v := 20) dX9_knownHere_83 kb_20 ?_
          refine pm_iconst (v := 0) dX9_knownHere_85 ki_0 ?_
          refine pm_iconst (v := 0) dX9_knownHere_86 ki_0 ?_
          refine pm_rcv (fun hb9 hc9 => ?_)
          refine pm_kI (d := d + 4) rfl (pm_V (y := zX9_knownHere) (z := zX9_takes) (As := [.int 12, .int 5, .int 6, .int 20, .int 0, .int 0]) zkX9_takes pm_q9 (by decide) tw_1650 tw_1652 tw_121 dX9_knownHere_87 rfl rfl (Nat.le_of_ble_eq_true rfl) hb9 hc9) (kcX9_takes (d := d + 0) hfl a0 12 5 6 20 0 0 m7) (fun x10 m9 => ?_)
          refine pm_if_eq (tgt := 95) dX9_knownHere_90 rfl ?_ ?_
          · refine pm_aload_n dX9_knownHere_95 rfl rfl ?_
            refine pm_bipush (v := 9) dX9_knownHere_96 kb_9 ?_
            refine pm_bipush (v := 14) dX9_knownHere_98 kb_14 ?_
            refine pm_bipush (v := 11) dX9_knownHere_100 kb_11 ?_
            refine pm_iconst (v := 0) dX9_knownHere_102 ki_0 ?_
            refine pm_iconst (v := 0) dX9_knownHere_103 ki_0 ?_
            refine pm_iconst (v := 0) dX9_knownHere_104 ki_0 ?_
            refine pm_rcv (fun hb9 hc9 => ?_)
            refine pm_kI (d := d + 4) rfl (pm_V (y := zX9_knownHere) (z := zX9_takes) (As := [.int 9, .int 14, .int 11, .int 0, .int 0, .int 0]) zkX9_takes pm_q9 (by decide) tw_1650 tw_1652 tw_121 dX9_knownHere_105 rfl rfl (Nat.le_of_ble_eq_true rfl) hb9 hc9) (kcX9_takes (d := d + 0) hfl a0 9 14 11 0 0 0 m9) (fun x12 m11 => ?_)
            refine pm_if_eq (tgt := 113) dX9_knownHere_108 rfl ?_ ?_
            · refine pm_aload_n dX9_knownHere_113 rfl rfl ?_
              refine pm_iconst (v := 3) dX9_knownHere_114 ki_3 ?_
              refine pm_iconst (v := 5) dX9_knownHere_115 ki_5 ?_
              refine pm_bipush (v := 12) dX9_knownHere_116 kb_12 ?_
              refine pm_bipush (v := 12) dX9_knownHere_118 kb_12 ?_
              refine pm_iconst (v := 0) dX9_knownHere_120 ki_0 ?_
              refine pm_iconst (v := 0) dX9_knownHere_121 ki_0 ?_
              refine pm_rcv (fun hb9 hc9 => ?_)
              refine pm_kI (d := d + 4) rfl (pm_V (y := zX9_knownHere) (z := zX9_takes) (As := [.int 3, .int 5, .int 12, .int 12, .int 0, .int 0]) zkX9_takes pm_q9 (by decide) tw_1650 tw_1652 tw_121 dX9_knownHere_122 rfl rfl (Nat.le_of_ble_eq_true rfl) hb9 hc9) (kcX9_takes (d := d + 0) hfl a0 3 5 12 12 0 0 m11) (fun x14 m13 => ?_)
              refine pm_if_eq (tgt := 133) dX9_knownHere_125 rfl ?_ ?_
              · refine pm_iconst (v := (-1)) dX9_knownHere_133 ki_n1 ?_
                refine pm_drop (ls2 := [pmU]) (Nat.le_refl _) (pm_le_spec (pm_le_u (pm_le_n))) ?_
                exact gX9_knownHere_j134 hfl (-1) m13
              · refine pm_bipush (v := 6) dX9_knownHere_128 kb_6 ?_
                refine pm_goto (tgt := 134) dX9_knownHere_130 rfl ?_
                refine pm_drop (ls2 := [pmU]) (Nat.le_refl _) (pm_le_spec (pm_le_u (pm_le_n))) ?_
                exact gX9_knownHere_j134 hfl 6 m13
            · refine pm_iconst (v := 5) dX9_knownHere_111 ki_5 ?_
              exact pm_iret rfl dX9_knownHere_112
          · refine pm_iconst (v := 4) dX9_knownHere_93 ki_4 ?_
            exact pm_iret rfl dX9_knownHere_94
        · refine pm_iconst (v := 3) dX9_knownHere_75 ki_3 ?_
          exact pm_iret rfl dX9_knownHere_76
      · refine pm_iconst (v := 2) dX9_knownHere_57 ki_2 ?_
        exact pm_iret rfl dX9_knownHere_58
    · refine pm_iconst (v := 1) dX9_knownHere_37 ki_1 ?_
      exact pm_iret rfl dX9_knownHere_38
  · refine pm_iconst (v := 0) dX9_knownHere_17 ki_0 ?_
    exact pm_iret rfl dX9_knownHere_18
-- StruckPageModel.one()V
def X9_one_j201 (rs : Nat → pmM → pmR) (m : pmM) : pmR := pm_oV m
def X9_one_j56 (rs : Nat → pmM → pmR) (l0 : Nat) (t0 : Int32) (m : pmM) : pmR := if t0 = (-1) then (pm_gI 9 l0 4 m fun x7 => pm_rc 9 l0 m <| pm_cI (X9_byteAt l0 x7 m) fun x9 m8 => if x9 = 40 then (pm_rc 9 l0 m8 <| pm_cI (X9_opensOne l0 m8) fun x17 m16 => if x17 = 0 then (pm_oV m16) else (pm_gI 9 l0 4 m16 fun x18 => pm_pI 9 l0 4 (x18 + 1) m16 fun m19 => pm_rc 9 l0 m19 <| pm_cV (rs l0 m19) fun m20 => pm_rc 9 l0 m20 <| pm_cV (X9_sign l0 41 m20) fun m21 => pm_gI 9 l0 8 m21 fun x22 => pm_pI 9 l0 8 (x22 - 1) m21 fun m23 => pm_oV m23)) else (pm_rc 9 l0 m8 <| pm_cI (X9_knownHere l0 m8) fun x11 m10 => if x11 = (-1) then (pm_rc 9 l0 m10 <| pm_cI (X9_number l0 0 999 m10) fun x13 m12 => pm_rc 9 l0 m12 <| pm_cV (X9_notes l0 0 x13 m12) fun m14 => X9_one_j201 rs m14) else (pm_rc 9 l0 m10 <| pm_cV (X9_notes l0 1 x11 m10) fun m15 => X9_one_j201 rs m15))) else (pm_rc 9 l0 m <| pm_cI (X9_opensOne l0 m) fun x25 m24 => if x25 = 0 then (pm_oV m24) else (pm_rc 9 l0 m24 <| pm_cV (X9_skipWord l0 m24) fun m26 => pm_rc 9 l0 m26 <| pm_cV (X9_sign l0 91 m26) fun m27 => pm_rc 9 l0 m27 <| pm_cV (rs l0 m27) fun m28 => pm_rc 9 l0 m28 <| pm_cV (X9_sign l0 44 m28) fun m29 => pm_rc 9 l0 m29 <| pm_cV (rs l0 m29) fun m30 => pm_rc 9 l0 m30 <| pm_cV (X9_sign l0 93 m30) fun m31 => pm_rc 9 l0 m31 <| pm_cV (X9_notes l0 t0 0 m31) fun m32 => pm_gI 9 l0 8 m32 fun x33 => pm_pI 9 l0 8 (x33 - 1) m32 fun m34 => pm_oV m34))
def X9_one (rs : Nat → pmM → pmR) (a0 : Nat) (m : pmM) : pmR := pm_gI 9 a0 5 m fun x1 => if x1 = 0 then (pm_rc 9 a0 m <| pm_cV (X9_blanks a0 m) fun m2 => pm_rc 9 a0 m2 <| pm_cI (X9_isWord a0 12 5 1 19 20 0 m2) fun x4 m3 => if x4 = 0 then (pm_rc 9 a0 m3 <| pm_cI (X9_isWord a0 13 15 19 20 0 0 m3) fun x6 m5 => if x6 = 0 then (X9_one_j56 rs a0 (-1) m5) else (X9_one_j56 rs a0 8 m5)) else (X9_one_j56 rs a0 7 m3)) else (pm_oV m)
set_option maxRecDepth 100000 in
set_option maxHeartbeats 4000000 in
theorem gX9_one_j201 (hfl : l.flags = flags0) (rs : Nat → pmM → pmR) (m : pmM) (hrs : ∀ (j : Nat) (b0 : Nat) (m : pmM), pm_C l Γ zX9_sum (d + j + 5) [.ref b0] m (rs b0 m)) : pm_G l Γ zX9_one (d + 6) 201 [pmU, pmU, pmU] [] m (X9_one_j201 rs m) := by
  unfold X9_one_j201
  exact pm_vret rfl dX9_one_201
set_option maxRecDepth 100000 in
set_option maxHeartbeats 4000000 in
theorem gX9_one_j56 (hfl : l.flags = flags0) (rs : Nat → pmM → pmR) (l0 : Nat) (t0 : Int32) (m : pmM) (hrs : ∀ (j : Nat) (b0 : Nat) (m : pmM), pm_C l Γ zX9_sum (d + j + 5) [.ref b0] m (rs b0 m)) : pm_G l Γ zX9_one (d + 6) 56 [.ref l0, pmU, pmU] [.int t0] m (X9_one_j56 rs l0 t0 m) := by
  unfold X9_one_j56
  refine pm_istore_n (ls2 := [.ref l0, .int t0, pmU]) dX9_one_56 rfl rfl (Nat.le_of_ble_eq_true rfl) rfl ?_
  refine pm_iload_n dX9_one_57 rfl rfl ?_
  refine pm_iconst (v := (-1)) dX9_one_58 ki_n1 ?_
  refine pm_icmp_eq (tgt := 117) dX9_one_59 rfl ?_ ?_
  · refine pm_aload_n dX9_one_117 rfl rfl ?_
    refine pm_aload_n dX9_one_118 rfl rfl ?_
    refine fg_9_4 (y := zX9_one) (Or.inl tw_1370) dX9_one_119 (fun x7 => ?_)
    refine pm_rcv (fun hb9 hc9 => ?_)
    refine pm_kI (d := d + 5) rfl (pm_V (y := zX9_one) (z := zX9_byteAt) (As := [.int x7]) zkX9_byteAt pm_q9 (by decide) tw_1560 tw_1562 tw_102 dX9_one_122 rfl rfl (Nat.le_of_ble_eq_true rfl) hb9 hc9) (kcX9_byteAt (d := d + 5) hfl l0 x7 m) (fun x9 m8 => ?_)
    refine pm_bipush (v := 40) dX9_one_125 kb_40 ?_
    refine pm_icmp_ne (tgt := 169) dX9_one_127 rfl ?_ ?_
    · refine pm_aload_n dX9_one_169 rfl rfl ?_
      refine pm_rcv (fun hb9 hc9 => ?_)
      refine pm_kI (d := d + 5) rfl (pm_V (y := zX9_one) (z := zX9_knownHere) (As := []) zkX9_knownHere pm_q9 (by decide) tw_1646 tw_1648 tw_120 dX9_one_170 rfl rfl (Nat.le_of_ble_eq_true rfl) hb9 hc9) (kcX9_knownHere (d := d + 0) hfl l0 m8) (fun x11 m10 => ?_)
      refine pm_istore_n (ls2 := [.ref l0, .int t0, .int x11]) dX9_one_173 rfl rfl (Nat.le_of_ble_eq_true rfl) rfl ?_
      refine pm_iload_n dX9_one_174 rfl rfl ?_
      refine pm_iconst (v := (-1)) dX9_one_175 ki_n1 ?_
      refine pm_icmp_eq (tgt := 188) dX9_one_176 rfl ?_ ?_
      · refine pm_aload_n dX9_one_188 rfl rfl ?_
        refine pm_iconst (v := 0) dX9_one_189 ki_0 ?_
        refine pm_aload_n dX9_one_190 rfl rfl ?_
        refine pm_iconst (v := 0) dX9_one_191 ki_0 ?_
        refine pm_sipush (v := 999) dX9_one_192 ks_999 ?_
        refine pm_rcv (fun hb9 hc9 => ?_)
        refine pm_kI (d := d + 5) rfl (pm_V (y := zX9_one) (z := zX9_number) (As := [.int 0, .int 999]) zkX9_number pm_q9 (by decide) tw_1602 tw_1604 tw_111 dX9_one_195 rfl rfl (Nat.le_of_ble_eq_true rfl) hb9 hc9) (kcX9_number (d := d + 3) hfl l0 0 999 m10) (fun x13 m12 => ?_)
        refine pm_rcv (fun hb9 hc9 => ?_)
        refine pm_kV (d := d + 5) rfl (pm_V (y := zX9_one) (z := zX9_notes) (As := [.int 0, .int x13]) zkX9_notes pm_q9 (by decide) tw_1642 tw_1644 tw_119 dX9_one_198 rfl rfl (Nat.le_of_ble_eq_true rfl) hb9 hc9) (kcX9_notes (d := d + 5) hfl l0 0 x13 m12) (fun m14 => ?_)
        refine pm_drop (ls2 := [pmU, pmU, pmU]) (Nat.le_refl _) (pm_le_spec (pm_le_u (pm_le_u (pm_le_u (pm_le_n))))) ?_
        exact gX9_one_j201 hfl rs m14 hrs
      · refine pm_aload_n dX9_one_179 rfl rfl ?_
        refine pm_iconst (v := 1) dX9_one_180 ki_1 ?_
        refine pm_iload_n dX9_one_181 rfl rfl ?_
        refine pm_rcv (fun hb9 hc9 => ?_)
        refine pm_kV (d := d + 5) rfl (pm_V (y := zX9_one) (z := zX9_notes) (As := [.int 1, .int x11]) zkX9_notes pm_q9 (by decide) tw_1642 tw_1644 tw_119 dX9_one_182 rfl rfl (Nat.le_of_ble_eq_true rfl) hb9 hc9) (kcX9_notes (d := d + 5) hfl l0 1 x11 m10) (fun m15 => ?_)
        refine pm_goto (tgt := 201) dX9_one_185 rfl ?_
        refine pm_drop (ls2 := [pmU, pmU, pmU]) (Nat.le_refl _) (pm_le_spec (pm_le_u (pm_le_u (pm_le_u (pm_le_n))))) ?_
        exact gX9_one_j201 hfl rs m15 hrs
    · refine pm_aload_n dX9_one_130 rfl rfl ?_
      refine pm_rcv (fun hb9 hc9 => ?_)
      refine pm_kI (d := d + 5) rfl (pm_V (y := zX9_one) (z := zX9_opensOne) (As := []) zkX9_opensOne pm_q9 (by decide) tw_1638 tw_1640 tw_118 dX9_one_131 rfl rfl (Nat.le_of_ble_eq_true rfl) hb9 hc9) (kcX9_opensOne (d := d + 4) hfl l0 m8) (fun x17 m16 => ?_)
      refine pm_if_ne (tgt := 138) dX9_one_134 rfl ?_ ?_
      · refine pm_aload_n dX9_one_138 rfl rfl ?_
        refine pm_dup dX9_one_139 rfl ?_
        refine fg_9_4 (y := zX9_one) (Or.inl tw_1370) dX9_one_140 (fun x18 => ?_)
        refine pm_iconst (v := 1) dX9_one_143 ki_1 ?_
        refine pm_iadd dX9_one_144 ?_
        refine fp_9_4 (y := zX9_one) (Or.inl tw_1370) dX9_one_145 (fun m19 => ?_)
        refine pm_aload_n dX9_one_148 rfl rfl ?_
        refine pm_rcv (fun hb9 hc9 => ?_)
        refine pm_kV (d := d + 5) rfl (pm_V (y := zX9_one) (z := zX9_sum) (As := []) zkX9_sum pm_q9 (by decide) tw_1626 tw_1628 tw_115 dX9_one_149 rfl rfl (Nat.le_of_ble_eq_true rfl) hb9 hc9) (hrs 0 l0 m19) (fun m20 => ?_)
        refine pm_aload_n dX9_one_152 rfl rfl ?_
        refine pm_bipush (v := 41) dX9_one_153 kb_41 ?_
        refine pm_rcv (fun hb9 hc9 => ?_)
        refine pm_kV (d := d + 5) rfl (pm_V (y := zX9_one) (z := zX9_sign) (As := [.int 41]) zkX9_sign pm_q9 (by decide) tw_1610 tw_1612 tw_112 dX9_one_155 rfl rfl (Nat.le_of_ble_eq_true rfl) hb9 hc9) (kcX9_sign (d := d + 3) hfl l0 41 m20) (fun m21 => ?_)
        refine pm_aload_n dX9_one_158 rfl rfl ?_
        refine pm_dup dX9_one_159 rfl ?_
        refine fg_9_8 (y := zX9_one) (Or.inl tw_1374) dX9_one_160 (fun x22 => ?_)
        refine pm_iconst (v := 1) dX9_one_163 ki_1 ?_
        refine pm_isub dX9_one_164 ?_
        refine fp_9_8 (y := zX9_one) (Or.inl tw_1374) dX9_one_165 (fun m23 => ?_)
        exact pm_vret rfl dX9_one_168
      · exact pm_vret rfl dX9_one_137
  · refine pm_aload_n dX9_one_62 rfl rfl ?_
    refine pm_rcv (fun hb9 hc9 => ?_)
    refine pm_kI (d := d + 5) rfl (pm_V (y := zX9_one) (z := zX9_opensOne) (As := []) zkX9_opensOne pm_q9 (by decide) tw_1638 tw_1640 tw_118 dX9_one_63 rfl rfl (Nat.le_of_ble_eq_true rfl) hb9 hc9) (kcX9_opensOne (d := d + 4) hfl l0 m) (fun x25 m24 => ?_)
    refine pm_if_ne (tgt := 70) dX9_one_66 rfl ?_ ?_
    · refine pm_aload_n dX9_one_70 rfl rfl ?_
      refine pm_rcv (fun hb9 hc9 => ?_)
      refine pm_kV (d := d + 5) rfl (pm_V (y := zX9_one) (z := zX9_skipWord) (As := []) zkX9_skipWord pm_q9 (by decide) tw_1590 tw_1592 tw_108 dX9_one_71 rfl rfl (Nat.le_of_ble_eq_true rfl) hb9 hc9) (kcX9_skipWord (d := d + 4) hfl l0 m24) (fun m26 => ?_)
      refine pm_aload_n dX9_one_74 rfl rfl ?_
      refine pm_bipush (v := 91) dX9_one_75 kb_91 ?_
      refine pm_rcv (fun hb9 hc9 => ?_)
      refine pm_kV (d := d + 5) rfl (pm_V (y := zX9_one) (z := zX9_sign) (As := [.int 91]) zkX9_sign pm_q9 (by decide) tw_1610 tw_1612 tw_112 dX9_one_77 rfl rfl (Nat.le_of_ble_eq_true rfl) hb9 hc9) (kcX9_sign (d := d + 3) hfl l0 91 m26) (fun m27 => ?_)
      refine pm_aload_n dX9_one_80 rfl rfl ?_
      refine pm_rcv (fun hb9 hc9 => ?_)
      refine pm_kV (d := d + 5) rfl (pm_V (y := zX9_one) (z := zX9_sum) (As := []) zkX9_sum pm_q9 (by decide) tw_1626 tw_1628 tw_115 dX9_one_81 rfl rfl (Nat.le_of_ble_eq_true rfl) hb9 hc9) (hrs 0 l0 m27) (fun m28 => ?_)
      refine pm_aload_n dX9_one_84 rfl rfl ?_
      refine pm_bipush (v := 44) dX9_one_85 kb_44 ?_
      refine pm_rcv (fun hb9 hc9 => ?_)
      refine pm_kV (d := d + 5) rfl (pm_V (y := zX9_one) (z := zX9_sign) (As := [.int 44]) zkX9_sign pm_q9 (by decide) tw_1610 tw_1612 tw_112 dX9_one_87 rfl rfl (Nat.le_of_ble_eq_true rfl) hb9 hc9) (kcX9_sign (d := d + 3) hfl l0 44 m28) (fun m29 => ?_)
      refine pm_aload_n dX9_one_90 rfl rfl ?_
      refine pm_rcv (fun hb9 hc9 => ?_)
      refine pm_kV (d := d + 5) rfl (pm_V (y := zX9_one) (z := zX9_sum) (As := []) zkX9_sum pm_q9 (by decide) tw_1626 tw_1628 tw_115 dX9_one_91 rfl rfl (Nat.le_of_ble_eq_true rfl) hb9 hc9) (hrs 0 l0 m29) (fun m30 => ?_)
      refine pm_aload_n dX9_one_94 rfl rfl ?_
      refine pm_bipush (v := 93) dX9_one_95 kb_93 ?_
      refine pm_rcv (fun hb9 hc9 => ?_)
      refine pm_kV (d := d + 5) rfl (pm_V (y := zX9_one) (z := zX9_sign) (As := [.int 93]) zkX9_sign pm_q9 (by decide) tw_1610 tw_1612 tw_112 dX9_one_97 rfl rfl (Nat.le_of_ble_eq_true rfl) hb9 hc9) (kcX9_sign (d := d + 3) hfl l0 93 m30) (fun m31 => ?_)
      refine pm_aload_n dX9_one_100 rfl rfl ?_
      refine pm_iload_n dX9_one_101 rfl rfl ?_
      refine pm_iconst (v := 0) dX9_one_102 ki_0 ?_
      refine pm_rcv (fun hb9 hc9 => ?_)
      refine pm_kV (d := d + 5) rfl (pm_V (y := zX9_one) (z := zX9_notes) (As := [.int t0, .int 0]) zkX9_notes pm_q9 (by decide) tw_1642 tw_1644 tw_119 dX9_one_103 rfl rfl (Nat.le_of_ble_eq_true rfl) hb9 hc9) (kcX9_notes (d := d + 5) hfl l0 t0 0 m31) (fun m32 => ?_)
      refine pm_aload_n dX9_one_106 rfl rfl ?_
      refine pm_dup dX9_one_107 rfl ?_
      refine fg_9_8 (y := zX9_one) (Or.inl tw_1374) dX9_one_108 (fun x33 => ?_)
      refine pm_iconst (v := 1) dX9_one_111 ki_1 ?_
      refine pm_isub dX9_one_112 ?_
      refine fp_9_8 (y := zX9_one) (Or.inl tw_1374) dX9_one_113 (fun m34 => ?_)
      exact pm_vret rfl dX9_one_116
    · exact pm_vret rfl dX9_one_69
set_option maxRecDepth 100000 in
set_option maxHeartbeats 4000000 in
theorem kcX9_one (hfl : l.flags = flags0) (rs : Nat → pmM → pmR) (a0 : Nat) (m : pmM) (hrs : ∀ (j : Nat) (b0 : Nat) (m : pmM), pm_C l Γ zX9_sum (d + j + 5) [.ref b0] m (rs b0 m)) : pm_C l Γ zX9_one (d + 6) [.ref a0] m (X9_one rs a0 m) := by
  refine pm_enter (ls := [.ref a0, pmU, pmU]) hfl (by decide +kernel) rfl (Nat.le_of_ble_eq_true rfl) rfl (Nat.le_of_ble_eq_true rfl) ?_
  unfold X9_one
  refine pm_aload_n dX9_one_0 rfl rfl ?_
  refine fg_9_5 (y := zX9_one) (Or.inl tw_1371) dX9_one_1 (fun x1 => ?_)
  refine pm_if_eq (tgt := 8) dX9_one_4 rfl ?_ ?_
  · refine pm_aload_n dX9_one_8 rfl rfl ?_
    refine pm_rcv (fun hb9 hc9 => ?_)
    refine pm_kV (d := d + 5) rfl (pm_V (y := zX9_one) (z := zX9_blanks) (As := []) zkX9_blanks pm_q9 (by decide) tw_1556 tw_1558 tw_101 dX9_one_9 rfl rfl (Nat.le_of_ble_eq_true rfl) hb9 hc9) (kcX9_blanks (d := d + 4) hfl a0 m) (fun m2 => ?_)
    refine pm_aload_n dX9_one_12 rfl rfl ?_
    refine pm_bipush (v := 12) dX9_one_13 kb_12 ?_
    refine pm_iconst (v := 5) dX9_one_15 ki_5 ?_
    refine pm_iconst (v := 1) dX9_one_16 ki_1 ?_
    refine pm_bipush (v := 19) dX9_one_17 kb_19 ?_
    refine pm_bipush (v := 20) dX9_one_19 kb_20 ?_
    refine pm_iconst (v := 0) dX9_one_21 ki_0 ?_
    refine pm_rcv (fun hb9 hc9 => ?_)
    refine pm_kI (d := d + 5) rfl (pm_V (y := zX9_one) (z := zX9_isWord) (As := [.int 12, .int 5, .int 1, .int 19, .int 20, .int 0]) zkX9_isWord pm_q9 (by decide) tw_1572 tw_1574 tw_105 dX9_one_22 rfl rfl (Nat.le_of_ble_eq_true rfl) hb9 hc9) (kcX9_isWord (d := d + 2) hfl a0 12 5 1 19 20 0 m2) (fun x4 m3 => ?_)
    refine pm_if_eq (tgt := 33) dX9_one_25 rfl ?_ ?_
    · refine pm_aload_n dX9_one_33 rfl rfl ?_
      refine pm_bipush (v := 13) dX9_one_34 kb_13 ?_
      refine pm_bipush (v := 15) dX9_one_36 kb_15 ?_
      refine pm_bipush (v := 19) dX9_one_38 kb_19 ?_
      refine pm_bipush (v := 20) dX9_one_40 kb_20 ?_
      refine pm_iconst (v := 0) dX9_one_42 ki_0 ?_
      refine pm_iconst (v := 0) dX9_one_43 ki_0 ?_
      refine pm_rcv (fun hb9 hc9 => ?_)
      refine pm_kI (d := d + 5) rfl (pm_V (y := zX9_one) (z := zX9_isWord) (As := [.int 13, .int 15, .int 19, .int 20, .int 0, .int 0]) zkX9_isWord pm_q9 (by decide) tw_1572 tw_1574 tw_105 dX9_one_44 rfl rfl (Nat.le_of_ble_eq_true rfl) hb9 hc9) (kcX9_isWord (d := d + 2) hfl a0 13 15 19 20 0 0 m3) (fun x6 m5 => ?_)
      refine pm_if_eq (tgt := 55) dX9_one_47 rfl ?_ ?_
      · refine pm_iconst (v := (-1)) dX9_one_55 ki_n1 ?_
        exact gX9_one_j56 hfl rs a0 (-1) m5 hrs
      · refine pm_bipush (v := 8) dX9_one_50 kb_8 ?_
        refine pm_goto (tgt := 56) dX9_one_52 rfl ?_
        exact gX9_one_j56 hfl rs a0 8 m5 hrs
    · refine pm_bipush (v := 7) dX9_one_28 kb_7 ?_
      refine pm_goto (tgt := 56) dX9_one_30 rfl ?_
      exact gX9_one_j56 hfl rs a0 7 m3 hrs
  · exact pm_vret rfl dX9_one_7
-- StruckPageModel.product()V
def X9_product_j52 (rs : Nat → pmM → pmR) (again4 : (pmM) → pmR) (l0 : Nat) (t0 : Int32) (m : pmM) : pmR := if t0 = (-1) then (pm_oV m) else (pm_rc 9 l0 m <| pm_cV (X9_one rs l0 m) fun m9 => pm_rc 9 l0 m9 <| pm_cV (X9_notes l0 t0 0 m9) fun m10 => again4 m10)
def X9_product_L4 (rs : Nat → pmM → pmR) (l0 : Nat) (again4 : (pmM) → pmR) (s4 : pmM) : pmR := pm_gI 9 l0 5 s4 fun x2 => if x2 = 0 then (pm_rc 9 l0 s4 <| pm_cI (X9_takesSign l0 42 s4) fun x4 m3 => if x4 = 0 then (pm_rc 9 l0 m3 <| pm_cI (X9_takesSign l0 47 m3) fun x6 m5 => if x6 = 0 then (pm_rc 9 l0 m5 <| pm_cI (X9_takesSign l0 37 m5) fun x8 m7 => if x8 = 0 then (X9_product_j52 rs again4 l0 (-1) m7) else (X9_product_j52 rs again4 l0 6 m7)) else (X9_product_j52 rs again4 l0 5 m5)) else (X9_product_j52 rs again4 l0 4 m3)) else (pm_oV s4)
def X9_product (rs : Nat → pmM → pmR) (a0 : Nat) (m : pmM) : pmR := pm_rc 9 a0 m <| pm_cV (X9_one rs a0 m) fun m1 => pm_lp pm_N (X9_product_L4 rs a0) m1
set_option maxRecDepth 100000 in
set_option maxHeartbeats 4000000 in
theorem gX9_product_j52 (hfl : l.flags = flags0) (rs : Nat → pmM → pmR) (again4 : (pmM) → pmR) (l0 : Nat) (t0 : Int32) (m : pmM) (hrs : ∀ (j : Nat) (b0 : Nat) (m : pmM), pm_C l Γ zX9_sum (d + j + 5) [.ref b0] m (rs b0 m)) (hag4 : ∀ s : pmM, pm_G l Γ zX9_product (d + 7) 4 [.ref l0, pmU] [] s (again4 s)) : pm_G l Γ zX9_product (d + 7) 52 [.ref l0, pmU] [.int t0] m (X9_product_j52 rs again4 l0 t0 m) := by
  unfold X9_product_j52
  refine pm_istore_n (ls2 := [.ref l0, .int t0]) dX9_product_52 rfl rfl (Nat.le_of_ble_eq_true rfl) rfl ?_
  refine pm_iload_n dX9_product_53 rfl rfl ?_
  refine pm_iconst (v := (-1)) dX9_product_54 ki_n1 ?_
  refine pm_icmp_ne (tgt := 59) dX9_product_55 rfl ?_ ?_
  · refine pm_aload_n dX9_product_59 rfl rfl ?_
    refine pm_rcv (fun hb9 hc9 => ?_)
    refine pm_kV (d := d + 6) rfl (pm_V (y := zX9_product) (z := zX9_one) (As := []) zkX9_one pm_q9 (by decide) tw_1634 tw_1636 tw_117 dX9_product_60 rfl rfl (Nat.le_of_ble_eq_true rfl) hb9 hc9) (kcX9_one hfl rs l0 m hrs) (fun m9 => ?_)
    refine pm_aload_n dX9_product_63 rfl rfl ?_
    refine pm_iload_n dX9_product_64 rfl rfl ?_
    refine pm_iconst (v := 0) dX9_product_65 ki_0 ?_
    refine pm_rcv (fun hb9 hc9 => ?_)
    refine pm_kV (d := d + 6) rfl (pm_V (y := zX9_product) (z := zX9_notes) (As := [.int t0, .int 0]) zkX9_notes pm_q9 (by decide) tw_1642 tw_1644 tw_119 dX9_product_66 rfl rfl (Nat.le_of_ble_eq_true rfl) hb9 hc9) (kcX9_notes (d := d + 6) hfl l0 t0 0 m9) (fun m10 => ?_)
    refine pm_goto (tgt := 4) dX9_product_69 rfl ?_
    refine pm_drop (ls2 := [.ref l0, pmU]) (Nat.le_refl _) (pm_le_spec (pm_le_v (pm_le_u (pm_le_n)))) ?_
    exact hag4 m10
  · exact pm_vret rfl dX9_product_58
set_option maxRecDepth 100000 in
set_option maxHeartbeats 4000000 in
theorem gX9_product_L4 (hfl : l.flags = flags0) (rs : Nat → pmM → pmR) (l0 : Nat) (hrs : ∀ (j : Nat) (b0 : Nat) (m : pmM), pm_C l Γ zX9_sum (d + j + 5) [.ref b0] m (rs b0 m)) : ∀ (n : Nat) (s : pmM), pm_G l Γ zX9_product (d + 7) 4 [.ref l0, pmU] [] s (pm_lp n (X9_product_L4 rs l0) s) :=
  pm_loop (lsf := fun s : pmM => [.ref l0, pmU]) (mf := fun s : pmM => s) (fun again4 hag4 s4 => by
    unfold X9_product_L4
    refine pm_aload_n dX9_product_4 rfl rfl ?_
    refine fg_9_5 (y := zX9_product) (Or.inl tw_1371) dX9_product_5 (fun x2 => ?_)
    refine pm_if_ne (tgt := 72) dX9_product_8 rfl ?_ ?_
    · exact pm_vret rfl dX9_product_72
    · refine pm_aload_n dX9_product_11 rfl rfl ?_
      refine pm_bipush (v := 42) dX9_product_12 kb_42 ?_
      refine pm_rcv (fun hb9 hc9 => ?_)
      refine pm_kI (d := d + 6) rfl (pm_V (y := zX9_product) (z := zX9_takesSign) (As := [.int 42]) zkX9_takesSign pm_q9 (by decide) tw_1654 tw_1656 tw_122 dX9_product_14 rfl rfl (Nat.le_of_ble_eq_true rfl) hb9 hc9) (kcX9_takesSign (d := d + 4) hfl l0 42 s4) (fun x4 m3 => ?_)
      refine pm_if_eq (tgt := 24) dX9_product_17 rfl ?_ ?_
      · refine pm_aload_n dX9_product_24 rfl rfl ?_
        refine pm_bipush (v := 47) dX9_product_25 kb_47 ?_
        refine pm_rcv (fun hb9 hc9 => ?_)
        refine pm_kI (d := d + 6) rfl (pm_V (y := zX9_product) (z := zX9_takesSign) (As := [.int 47]) zkX9_takesSign pm_q9 (by decide) tw_1654 tw_1656 tw_122 dX9_product_27 rfl rfl (Nat.le_of_ble_eq_true rfl) hb9 hc9) (kcX9_takesSign (d := d + 4) hfl l0 47 m3) (fun x6 m5 => ?_)
        refine pm_if_eq (tgt := 37) dX9_product_30 rfl ?_ ?_
        · refine pm_aload_n dX9_product_37 rfl rfl ?_
          refine pm_bipush (v := 37) dX9_product_38 kb_37 ?_
          refine pm_rcv (fun hb9 hc9 => ?_)
          refine pm_kI (d := d + 6) rfl (pm_V (y := zX9_product) (z := zX9_takesSign) (As := [.int 37]) zkX9_takesSign pm_q9 (by decide) tw_1654 tw_1656 tw_122 dX9_product_40 rfl rfl (Nat.le_of_ble_eq_true rfl) hb9 hc9) (kcX9_takesSign (d := d + 4) hfl l0 37 m5) (fun x8 m7 => ?_)
          refine pm_if_eq (tgt := 51) dX9_product_43 rfl ?_ ?_
          · refine pm_iconst (v := (-1)) dX9_product_51 ki_n1 ?_
            exact gX9_product_j52 hfl rs again4 l0 (-1) m7 hrs hag4
          · refine pm_bipush (v := 6) dX9_product_46 kb_6 ?_
            refine pm_goto (tgt := 52) dX9_product_48 rfl ?_
            exact gX9_product_j52 hfl rs again4 l0 6 m7 hrs hag4
        · refine pm_iconst (v := 5) dX9_product_33 ki_5 ?_
          refine pm_goto (tgt := 52) dX9_product_34 rfl ?_
          exact gX9_product_j52 hfl rs again4 l0 5 m5 hrs hag4
      · refine pm_iconst (v := 4) dX9_product_20 ki_4 ?_
        refine pm_goto (tgt := 52) dX9_product_21 rfl ?_
        exact gX9_product_j52 hfl rs again4 l0 4 m3 hrs hag4)
set_option maxRecDepth 100000 in
set_option maxHeartbeats 4000000 in
theorem kcX9_product (hfl : l.flags = flags0) (rs : Nat → pmM → pmR) (a0 : Nat) (m : pmM) (hrs : ∀ (j : Nat) (b0 : Nat) (m : pmM), pm_C l Γ zX9_sum (d + j + 5) [.ref b0] m (rs b0 m)) : pm_C l Γ zX9_product (d + 7) [.ref a0] m (X9_product rs a0 m) := by
  refine pm_enter (ls := [.ref a0, pmU]) hfl (by decide +kernel) rfl (Nat.le_of_ble_eq_true rfl) rfl (Nat.le_of_ble_eq_true rfl) ?_
  unfold X9_product
  refine pm_aload_n dX9_product_0 rfl rfl ?_
  refine pm_rcv (fun hb9 hc9 => ?_)
  refine pm_kV (d := d + 6) rfl (pm_V (y := zX9_product) (z := zX9_one) (As := []) zkX9_one pm_q9 (by decide) tw_1634 tw_1636 tw_117 dX9_product_1 rfl rfl (Nat.le_of_ble_eq_true rfl) hb9 hc9) (kcX9_one hfl rs a0 m hrs) (fun m1 => ?_)
  exact gX9_product_L4 hfl rs a0 hrs pm_N m1
-- StruckPageModel.sum()V
def X9_sum_j38 (rs : Nat → pmM → pmR) (again4 : (pmM) → pmR) (l0 : Nat) (t0 : Int32) (m : pmM) : pmR := if t0 = (-1) then (pm_oV m) else (pm_rc 9 l0 m <| pm_cV (X9_product rs l0 m) fun m7 => pm_rc 9 l0 m7 <| pm_cV (X9_notes l0 t0 0 m7) fun m8 => again4 m8)
def X9_sum_L4 (rs : Nat → pmM → pmR) (l0 : Nat) (again4 : (pmM) → pmR) (s4 : pmM) : pmR := pm_gI 9 l0 5 s4 fun x2 => if x2 = 0 then (pm_rc 9 l0 s4 <| pm_cI (X9_takesSign l0 43 s4) fun x4 m3 => if x4 = 0 then (pm_rc 9 l0 m3 <| pm_cI (X9_takesSign l0 45 m3) fun x6 m5 => if x6 = 0 then (X9_sum_j38 rs again4 l0 (-1) m5) else (X9_sum_j38 rs again4 l0 3 m5)) else (X9_sum_j38 rs again4 l0 2 m3)) else (pm_oV s4)
def X9_sum (rs : Nat → pmM → pmR) (a0 : Nat) (m : pmM) : pmR := pm_rc 9 a0 m <| pm_cV (X9_product rs a0 m) fun m1 => pm_lp pm_N (X9_sum_L4 rs a0) m1
def X9_sum_N : Nat → Nat → pmM → pmR
  | 0 => fun _ _ => none
  | n + 1 => X9_sum (X9_sum_N n)
set_option maxRecDepth 100000 in
set_option maxHeartbeats 4000000 in
theorem gX9_sum_j38 (hfl : l.flags = flags0) (rs : Nat → pmM → pmR) (again4 : (pmM) → pmR) (l0 : Nat) (t0 : Int32) (m : pmM) (hrs : ∀ (j : Nat) (b0 : Nat) (m : pmM), pm_C l Γ zX9_sum (d + j + 5) [.ref b0] m (rs b0 m)) (hag4 : ∀ s : pmM, pm_G l Γ zX9_sum (d + 8) 4 [.ref l0, pmU] [] s (again4 s)) : pm_G l Γ zX9_sum (d + 8) 38 [.ref l0, pmU] [.int t0] m (X9_sum_j38 rs again4 l0 t0 m) := by
  unfold X9_sum_j38
  refine pm_istore_n (ls2 := [.ref l0, .int t0]) dX9_sum_38 rfl rfl (Nat.le_of_ble_eq_true rfl) rfl ?_
  refine pm_iload_n dX9_sum_39 rfl rfl ?_
  refine pm_iconst (v := (-1)) dX9_sum_40 ki_n1 ?_
  refine pm_icmp_ne (tgt := 45) dX9_sum_41 rfl ?_ ?_
  · refine pm_aload_n dX9_sum_45 rfl rfl ?_
    refine pm_rcv (fun hb9 hc9 => ?_)
    refine pm_kV (d := d + 7) rfl (pm_V (y := zX9_sum) (z := zX9_product) (As := []) zkX9_product pm_q9 (by decide) tw_1630 tw_1632 tw_116 dX9_sum_46 rfl rfl (Nat.le_of_ble_eq_true rfl) hb9 hc9) (kcX9_product hfl rs l0 m hrs) (fun m7 => ?_)
    refine pm_aload_n dX9_sum_49 rfl rfl ?_
    refine pm_iload_n dX9_sum_50 rfl rfl ?_
    refine pm_iconst (v := 0) dX9_sum_51 ki_0 ?_
    refine pm_rcv (fun hb9 hc9 => ?_)
    refine pm_kV (d := d + 7) rfl (pm_V (y := zX9_sum) (z := zX9_notes) (As := [.int t0, .int 0]) zkX9_notes pm_q9 (by decide) tw_1642 tw_1644 tw_119 dX9_sum_52 rfl rfl (Nat.le_of_ble_eq_true rfl) hb9 hc9) (kcX9_notes (d := d + 7) hfl l0 t0 0 m7) (fun m8 => ?_)
    refine pm_goto (tgt := 4) dX9_sum_55 rfl ?_
    refine pm_drop (ls2 := [.ref l0, pmU]) (Nat.le_refl _) (pm_le_spec (pm_le_v (pm_le_u (pm_le_n)))) ?_
    exact hag4 m8
  · exact pm_vret rfl dX9_sum_44
set_option maxRecDepth 100000 in
set_option maxHeartbeats 4000000 in
theorem gX9_sum_L4 (hfl : l.flags = flags0) (rs : Nat → pmM → pmR) (l0 : Nat) (hrs : ∀ (j : Nat) (b0 : Nat) (m : pmM), pm_C l Γ zX9_sum (d + j + 5) [.ref b0] m (rs b0 m)) : ∀ (n : Nat) (s : pmM), pm_G l Γ zX9_sum (d + 8) 4 [.ref l0, pmU] [] s (pm_lp n (X9_sum_L4 rs l0) s) :=
  pm_loop (lsf := fun s : pmM => [.ref l0, pmU]) (mf := fun s : pmM => s) (fun again4 hag4 s4 => by
    unfold X9_sum_L4
    refine pm_aload_n dX9_sum_4 rfl rfl ?_
    refine fg_9_5 (y := zX9_sum) (Or.inl tw_1371) dX9_sum_5 (fun x2 => ?_)
    refine pm_if_ne (tgt := 58) dX9_sum_8 rfl ?_ ?_
    · exact pm_vret rfl dX9_sum_58
    · refine pm_aload_n dX9_sum_11 rfl rfl ?_
      refine pm_bipush (v := 43) dX9_sum_12 kb_43 ?_
      refine pm_rcv (fun hb9 hc9 => ?_)
      refine pm_kI (d := d + 7) rfl (pm_V (y := zX9_sum) (z := zX9_takesSign) (As := [.int 43]) zkX9_takesSign pm_q9 (by decide) tw_1654 tw_1656 tw_122 dX9_sum_14 rfl rfl (Nat.le_of_ble_eq_true rfl) hb9 hc9) (kcX9_takesSign (d := d + 5) hfl l0 43 s4) (fun x4 m3 => ?_)
      refine pm_if_eq (tgt := 24) dX9_sum_17 rfl ?_ ?_
      · refine pm_aload_n dX9_sum_24 rfl rfl ?_
        refine pm_bipush (v := 45) dX9_sum_25 kb_45 ?_
        refine pm_rcv (fun hb9 hc9 => ?_)
        refine pm_kI (d := d + 7) rfl (pm_V (y := zX9_sum) (z := zX9_takesSign) (As := [.int 45]) zkX9_takesSign pm_q9 (by decide) tw_1654 tw_1656 tw_122 dX9_sum_27 rfl rfl (Nat.le_of_ble_eq_true rfl) hb9 hc9) (kcX9_takesSign (d := d + 5) hfl l0 45 m3) (fun x6 m5 => ?_)
        refine pm_if_eq (tgt := 37) dX9_sum_30 rfl ?_ ?_
        · refine pm_iconst (v := (-1)) dX9_sum_37 ki_n1 ?_
          exact gX9_sum_j38 hfl rs again4 l0 (-1) m5 hrs hag4
        · refine pm_iconst (v := 3) dX9_sum_33 ki_3 ?_
          refine pm_goto (tgt := 38) dX9_sum_34 rfl ?_
          exact gX9_sum_j38 hfl rs again4 l0 3 m5 hrs hag4
      · refine pm_iconst (v := 2) dX9_sum_20 ki_2 ?_
        refine pm_goto (tgt := 38) dX9_sum_21 rfl ?_
        exact gX9_sum_j38 hfl rs again4 l0 2 m3 hrs hag4)
set_option maxRecDepth 100000 in
set_option maxHeartbeats 4000000 in
theorem kcX9_sum (hfl : l.flags = flags0) (rs : Nat → pmM → pmR) (a0 : Nat) (m : pmM) (hrs : ∀ (j : Nat) (b0 : Nat) (m : pmM), pm_C l Γ zX9_sum (d + j + 5) [.ref b0] m (rs b0 m)) : pm_C l Γ zX9_sum (d + 8) [.ref a0] m (X9_sum rs a0 m) := by
  refine pm_enter (ls := [.ref a0, pmU]) hfl (by decide +kernel) rfl (Nat.le_of_ble_eq_true rfl) rfl (Nat.le_of_ble_eq_true rfl) ?_
  unfold X9_sum
  refine pm_aload_n dX9_sum_0 rfl rfl ?_
  refine pm_rcv (fun hb9 hc9 => ?_)
  refine pm_kV (d := d + 7) rfl (pm_V (y := zX9_sum) (z := zX9_product) (As := []) zkX9_product pm_q9 (by decide) tw_1630 tw_1632 tw_116 dX9_sum_1 rfl rfl (Nat.le_of_ble_eq_true rfl) hb9 hc9) (kcX9_product hfl rs a0 m hrs) (fun m1 => ?_)
  exact gX9_sum_L4 hfl rs a0 hrs pm_N m1
set_option maxRecDepth 100000 in
set_option maxHeartbeats 4000000 in
theorem kcX9_sum_N0 (hfl : l.flags = flags0) : ∀ (n d : Nat) (b0 : Nat) (m : pmM), pm_C l Γ zX9_sum (d + 5 + 3 * n) [.ref b0] m (X9_sum_N n b0 m)
  | 0, d, b0, m => fun o m9 h => by cases h
  | n + 1, d, b0, m => by
    have h := kcX9_sum (d := d + 3 * n) hfl (X9_sum_N n) b0 m (fun j b0 m => by
      have h2 := kcX9_sum_N0 hfl n (d + j) b0 m
      rw [show d + 3 * n + j + 5 = d + j + 5 + 3 * n by omega]
      exact h2)
    rw [show d + 5 + 3 * (n + 1) = d + 3 * n + 8 by omega]
    exact h
theorem kcX9_sum_N (hfl : l.flags = flags0) (n : Nat) (b0 : Nat) (m : pmM) : pm_C l Γ zX9_sum (d + 5 + 3 * n) [.ref b0] m (X9_sum_N n b0 m) := kcX9_sum_N0 hfl n d b0 m
-- StruckPageModel.law(I)I
def X9_law_j85 (l0 : Nat) (m : pmM) : pmR := pm_gI 9 l0 5 m fun x12 => if x12 = 0 then (pm_pI 9 l0 3 (-1) m fun m13 => pm_gI 9 l0 20 m13 fun x14 => pm_pI 9 l0 19 x14 m13 fun m15 => pm_gR 9 l0 22 m15 fun r16 => pm_gR 9 l0 21 m15 fun r17 => pm_gI 9 l0 19 m15 fun x18 => pm_cV (X9_lays r16 r17 x18 m15) fun m19 => pm_oI 1 m19) else (pm_rc 9 l0 m <| pm_cI (X9_faulty l0 m) fun x21 m20 => pm_oI x21 m20)
def X9_law_j30 (l0 : Nat) (l1 : Int32) (t0 : Int32) (t1 : Nat) (m : pmM) : pmR := pm_rc 9 t1 m <| pm_cI (X9_bad t1 t0 1 1 m) fun x6 m5 => if x6 = 0 then (pm_rc 9 l0 m5 <| pm_cV (X9_starts l0 l1 m5) fun m7 => pm_pI 9 l0 20 0 m7 fun m8 => pm_rc 9 l0 m8 <| pm_cV (X9_sum_N 10 l0 m8) fun m9 => pm_rc 9 l0 m9 <| pm_cV (X9_blanks l0 m9) fun m10 => pm_gI 9 l0 5 m10 fun x11 => if x11 = 0 then (pm_gI 9 l0 4 m10 fun x22 => pm_gI 9 l0 2 m10 fun x23 => if x23 ≤ x22 then (X9_law_j85 l0 m10) else (pm_gI 9 l0 4 m10 fun x24 => pm_rc 9 l0 m10 <| pm_cV (X9_wrong l0 1 x24 m10) fun m25 => X9_law_j85 l0 m25)) else (X9_law_j85 l0 m10)) else (pm_oI 0 m5)
def X9_law_j25 (l0 : Nat) (l1 : Int32) (t0 : Nat) (m : pmM) : pmR := X9_law_j30 l0 l1 1 t0 m
def X9_law (a0 : Nat) (a1 : Int32) (m : pmM) : pmR := pm_pI 9 a0 0 0 m fun m1 => pm_gI 9 a0 1 m1 fun x2 => pm_cI (X9_in a1 0 x2 m1) fun x4 m3 => if x4 = 0 then (X9_law_j25 a0 a1 a0 m3) else (if a1 ≤ 150 then (X9_law_j30 a0 a1 0 a0 m3) else (X9_law_j25 a0 a1 a0 m3))
set_option maxRecDepth 100000 in
set_option maxHeartbeats 4000000 in
theorem gX9_law_j85 (hfl : l.flags = flags0) (l0 : Nat) (m : pmM) : pm_G l Γ zX9_law (d + 36) 85 [.ref l0, pmU] [] m (X9_law_j85 l0 m) := by
  unfold X9_law_j85
  refine pm_aload_n dX9_law_85 rfl rfl ?_
  refine fg_9_5 (y := zX9_law) (Or.inl tw_1371) dX9_law_86 (fun x12 => ?_)
  refine pm_if_eq (tgt := 97) dX9_law_89 rfl ?_ ?_
  · refine pm_aload_n dX9_law_97 rfl rfl ?_
    refine pm_iconst (v := (-1)) dX9_law_98 ki_n1 ?_
    refine fp_9_3 (y := zX9_law) (Or.inl tw_1369) dX9_law_99 (fun m13 => ?_)
    refine pm_aload_n dX9_law_102 rfl rfl ?_
    refine pm_aload_n dX9_law_103 rfl rfl ?_
    refine fg_9_20 (y := zX9_law) (Or.inl tw_1386) dX9_law_104 (fun x14 => ?_)
    refine fp_9_19 (y := zX9_law) (Or.inl tw_1385) dX9_law_107 (fun m15 => ?_)
    refine pm_aload_n dX9_law_110 rfl rfl ?_
    refine fg_9_22 (y := zX9_law) (Or.inl tw_1388) dX9_law_111 (fun r16 => ?_)
    refine pm_aload_n dX9_law_114 rfl rfl ?_
    refine fg_9_21 (y := zX9_law) (Or.inl tw_1387) dX9_law_115 (fun r17 => ?_)
    refine pm_aload_n dX9_law_118 rfl rfl ?_
    refine fg_9_19 (y := zX9_law) (Or.inl tw_1385) dX9_law_119 (fun x18 => ?_)
    refine pm_kV (d := d + 35) rfl (pm_S (y := zX9_law) (z := zX9_lays) (As := [.ref r16, .ref r17, .int x18]) zkX9_lays tw_1363 tw_1364 dX9_law_122 rfl rfl (Nat.le_of_ble_eq_true rfl)) (kcX9_lays (d := d + 35) hfl r16 r17 x18 m15) (fun m19 => ?_)
    refine pm_iconst (v := 1) dX9_law_125 ki_1 ?_
    exact pm_iret rfl dX9_law_126
  · refine pm_aload_n dX9_law_92 rfl rfl ?_
    refine pm_rcv (fun hb9 hc9 => ?_)
    refine pm_kI (d := d + 35) rfl (pm_V (y := zX9_law) (z := zX9_faulty) (As := []) zkX9_faulty pm_q9 (by decide) tw_1614 tw_1616 tw_113 dX9_law_93 rfl rfl (Nat.le_of_ble_eq_true rfl) hb9 hc9) (kcX9_faulty (d := d + 35) hfl l0 m) (fun x21 m20 => ?_)
    exact pm_iret rfl dX9_law_96
set_option maxRecDepth 100000 in
set_option maxHeartbeats 4000000 in
theorem gX9_law_j30 (hfl : l.flags = flags0) (l0 : Nat) (l1 : Int32) (t0 : Int32) (t1 : Nat) (m : pmM) : pm_G l Γ zX9_law (d + 36) 30 [.ref l0, .int l1] [.int t0, .ref t1] m (X9_law_j30 l0 l1 t0 t1 m) := by
  unfold X9_law_j30
  refine pm_iconst (v := 1) dX9_law_30 ki_1 ?_
  refine pm_iconst (v := 1) dX9_law_31 ki_1 ?_
  refine pm_rcv (fun hb9 hc9 => ?_)
  refine pm_kI (d := d + 35) rfl (pm_V (y := zX9_law) (z := zX9_bad) (As := [.int t0, .int 1, .int 1]) zkX9_bad pm_q9 (by decide) tw_1548 tw_1550 tw_99 dX9_law_32 rfl rfl (Nat.le_of_ble_eq_true rfl) hb9 hc9) (kcX9_bad (d := d + 35) hfl t1 t0 1 1 m) (fun x6 m5 => ?_)
  refine pm_if_eq (tgt := 40) dX9_law_35 rfl ?_ ?_
  · refine pm_aload_n dX9_law_40 rfl rfl ?_
    refine pm_iload_n dX9_law_41 rfl rfl ?_
    refine pm_rcv (fun hb9 hc9 => ?_)
    refine pm_kV (d := d + 35) rfl (pm_V (y := zX9_law) (z := zX9_starts) (As := [.int l1]) zkX9_starts pm_q9 (by decide) tw_1552 tw_1554 tw_100 dX9_law_42 rfl rfl (Nat.le_of_ble_eq_true rfl) hb9 hc9) (kcX9_starts (d := d + 33) hfl l0 l1 m5) (fun m7 => ?_)
    refine pm_aload_n dX9_law_45 rfl rfl ?_
    refine pm_iconst (v := 0) dX9_law_46 ki_0 ?_
    refine fp_9_20 (y := zX9_law) (Or.inl tw_1386) dX9_law_47 (fun m8 => ?_)
    refine pm_aload_n dX9_law_50 rfl rfl ?_
    refine pm_rcv (fun hb9 hc9 => ?_)
    refine pm_kV (d := d + 35) rfl (pm_V (y := zX9_law) (z := zX9_sum) (As := []) zkX9_sum pm_q9 (by decide) tw_1626 tw_1628 tw_115 dX9_law_51 rfl rfl (Nat.le_of_ble_eq_true rfl) hb9 hc9) (pm_Cd (by omega) (kcX9_sum_N (d := d + 0) hfl 10 l0 m8)) (fun m9 => ?_)
    refine pm_aload_n dX9_law_54 rfl rfl ?_
    refine pm_rcv (fun hb9 hc9 => ?_)
    refine pm_kV (d := d + 35) rfl (pm_V (y := zX9_law) (z := zX9_blanks) (As := []) zkX9_blanks pm_q9 (by decide) tw_1556 tw_1558 tw_101 dX9_law_55 rfl rfl (Nat.le_of_ble_eq_true rfl) hb9 hc9) (kcX9_blanks (d := d + 34) hfl l0 m9) (fun m10 => ?_)
    refine pm_aload_n dX9_law_58 rfl rfl ?_
    refine fg_9_5 (y := zX9_law) (Or.inl tw_1371) dX9_law_59 (fun x11 => ?_)
    refine pm_if_ne (tgt := 85) dX9_law_62 rfl ?_ ?_
    · refine pm_drop (ls2 := [.ref l0, pmU]) (Nat.le_refl _) (pm_le_spec (pm_le_v (pm_le_u (pm_le_n)))) ?_
      exact gX9_law_j85 hfl l0 m10
    · refine pm_aload_n dX9_law_65 rfl rfl ?_
      refine fg_9_4 (y := zX9_law) (Or.inl tw_1370) dX9_law_66 (fun x22 => ?_)
      refine pm_aload_n dX9_law_69 rfl rfl ?_
      refine fg_9_2 (y := zX9_law) (Or.inl tw_1368) dX9_law_70 (fun x23 => ?_)
      refine pm_icmp_ge (tgt := 85) dX9_law_73 rfl ?_ ?_
      · refine pm_drop (ls2 := [.ref l0, pmU]) (Nat.le_refl _) (pm_le_spec (pm_le_v (pm_le_u (pm_le_n)))) ?_
        exact gX9_law_j85 hfl l0 m10
      · refine pm_aload_n dX9_law_76 rfl rfl ?_
        refine pm_iconst (v := 1) dX9_law_77 ki_1 ?_
        refine pm_aload_n dX9_law_78 rfl rfl ?_
        refine fg_9_4 (y := zX9_law) (Or.inl tw_1370) dX9_law_79 (fun x24 => ?_)
        refine pm_rcv (fun hb9 hc9 => ?_)
        refine pm_kV (d := d + 35) rfl (pm_V (y := zX9_law) (z := zX9_wrong) (As := [.int 1, .int x24]) zkX9_wrong pm_q9 (by decide) tw_1586 tw_1588 tw_107 dX9_law_82 rfl rfl (Nat.le_of_ble_eq_true rfl) hb9 hc9) (kcX9_wrong (d := d + 35) hfl l0 1 x24 m10) (fun m25 => ?_)
        refine pm_drop (ls2 := [.ref l0, pmU]) (Nat.le_refl _) (pm_le_spec (pm_le_v (pm_le_u (pm_le_n)))) ?_
        exact gX9_law_j85 hfl l0 m25
  · refine pm_iconst (v := 0) dX9_law_38 ki_0 ?_
    exact pm_iret rfl dX9_law_39
set_option maxRecDepth 100000 in
set_option maxHeartbeats 4000000 in
theorem gX9_law_j25 (hfl : l.flags = flags0) (l0 : Nat) (l1 : Int32) (t0 : Nat) (m : pmM) : pm_G l Γ zX9_law (d + 36) 25 [.ref l0, .int l1] [.ref t0] m (X9_law_j25 l0 l1 t0 m) := by
  unfold X9_law_j25
  refine pm_iconst (v := 1) dX9_law_25 ki_1 ?_
  refine pm_goto (tgt := 30) dX9_law_26 rfl ?_
  exact gX9_law_j30 hfl l0 l1 1 t0 m
set_option maxRecDepth 100000 in
set_option maxHeartbeats 4000000 in
theorem kcX9_law (hfl : l.flags = flags0) (a0 : Nat) (a1 : Int32) (m : pmM) : pm_C l Γ zX9_law (d + 36) [.ref a0, .int a1] m (X9_law a0 a1 m) := by
  refine pm_enter (ls := [.ref a0, .int a1]) hfl (by decide +kernel) rfl (Nat.le_of_ble_eq_true rfl) rfl (Nat.le_of_ble_eq_true rfl) ?_
  unfold X9_law
  refine pm_aload_n dX9_law_0 rfl rfl ?_
  refine pm_iconst (v := 0) dX9_law_1 ki_0 ?_
  refine fp_9_0 (y := zX9_law) (Or.inl tw_1366) dX9_law_2 (fun m1 => ?_)
  refine pm_aload_n dX9_law_5 rfl rfl ?_
  refine pm_iload_n dX9_law_6 rfl rfl ?_
  refine pm_iconst (v := 0) dX9_law_7 ki_0 ?_
  refine pm_aload_n dX9_law_8 rfl rfl ?_
  refine fg_9_1 (y := zX9_law) (Or.inl tw_1367) dX9_law_9 (fun x2 => ?_)
  refine pm_kI (d := d + 35) rfl (pm_S (y := zX9_law) (z := zX9_in) (As := [.int a1, .int 0, .int x2]) zkX9_in tw_1545 tw_1546 dX9_law_12 rfl rfl (Nat.le_of_ble_eq_true rfl)) (kcX9_in (d := d + 35) hfl a1 0 x2 m1) (fun x4 m3 => ?_)
  refine pm_if_eq (tgt := 25) dX9_law_15 rfl ?_ ?_
  · exact gX9_law_j25 hfl a0 a1 a0 m3
  · refine pm_iload_n dX9_law_18 rfl rfl ?_
    refine pm_sipush (v := 150) dX9_law_19 ks_150 ?_
    refine pm_icmp_le (tgt := 29) dX9_law_22 rfl ?_ ?_
    · refine pm_iconst (v := 0) dX9_law_29 ki_0 ?_
      exact gX9_law_j30 hfl a0 a1 0 a0 m3
    · exact gX9_law_j25 hfl a0 a1 a0 m3
-- StruckPageModel.by(III)I
def X9_by_j73 (t0 : Int32) (m : pmM) : pmR := pm_oI t0 m
def X9_by_j90 (t0 : Int32) (m : pmM) : pmR := pm_oI t0 m
def X9_by_j83 (m : pmM) : pmR := X9_by_j90 0 m
def X9_by (a0 : Int32) (a1 : Int32) (a2 : Int32) (m : pmM) : pmR := if a0 = (2 : Int32) then (pm_oI (a1 + a2) m) else if a0 = (3 : Int32) then (pm_oI (a1 - a2) m) else if a0 = (4 : Int32) then (pm_oI (a1 * a2) m) else if a0 = (5 : Int32) then (if a2 = 0 then (X9_by_j73 0 m) else (if a2 = (-1) then (X9_by_j73 (-a1) m) else (if a2 = 0 then none else X9_by_j73 (a1 / a2) m))) else if a0 = (6 : Int32) then (if a2 = 0 then (X9_by_j83 m) else (if a2 = (-1) then (X9_by_j83 m) else (if a2 = 0 then none else X9_by_j90 (a1 - a1 / a2 * a2) m))) else if a0 = (7 : Int32) then (pm_cI (X9_less a1 a2 m) fun x2 m1 => pm_oI x2 m1) else (pm_cI (X9_more a1 a2 m) fun x4 m3 => pm_oI x4 m3)
set_option maxRecDepth 100000 in
set_option maxHeartbeats 4000000 in
theorem gX9_by_j73 (hfl : l.flags = flags0) (t0 : Int32) (m : pmM) : pm_G l Γ zX9_by (d + 1) 73 [pmU, pmU, pmU] [.int t0] m (X9_by_j73 t0 m) := by
  unfold X9_by_j73
  exact pm_iret rfl dX9_by_73
set_option maxRecDepth 100000 in
set_option maxHeartbeats 4000000 in
theorem gX9_by_j90 (hfl : l.flags = flags0) (t0 : Int32) (m : pmM) : pm_G l Γ zX9_by (d + 1) 90 [pmU, pmU, pmU] [.int t0] m (X9_by_j90 t0 m) := by
  unfold X9_by_j90
  exact pm_iret rfl dX9_by_90
set_option maxRecDepth 100000 in
set_option maxHeartbeats 4000000 in
theorem gX9_by_j83 (hfl : l.flags = flags0) (m : pmM) : pm_G l Γ zX9_by (d + 1) 83 [pmU, pmU, pmU] [] m (X9_by_j83 m) := by
  unfold X9_by_j83
  refine pm_iconst (v := 0) dX9_by_83 ki_0 ?_
  refine pm_goto (tgt := 90) dX9_by_84 rfl ?_
  exact gX9_by_j90 hfl 0 m
set_option maxRecDepth 100000 in
set_option maxHeartbeats 4000000 in
theorem kcX9_by (hfl : l.flags = flags0) (a0 : Int32) (a1 : Int32) (a2 : Int32) (m : pmM) : pm_C l Γ zX9_by (d + 1) [.int a0, .int a1, .int a2] m (X9_by a0 a1 a2 m) := by
  refine pm_enter (ls := [.int a0, .int a1, .int a2]) hfl (by decide +kernel) rfl (Nat.le_of_ble_eq_true rfl) rfl (Nat.le_of_ble_eq_true rfl) ?_
  unfold X9_by
  refine pm_iload_n dX9_by_0 rfl rfl ?_
  refine pm_case (c := (2 : Int32)) (fun h9 => ?_) (fun h9_0 => ?_)
  · refine pm_swIn (off := (39)) (tgt := 40) dX9_by_1 (by rw [h9]; decide) (by rw [h9]; decide) (by rw [h9]; decide) (by decide) ?_
    refine pm_iload_n dX9_by_40 rfl rfl ?_
    refine pm_iload_n dX9_by_41 rfl rfl ?_
    refine pm_iadd dX9_by_42 ?_
    exact pm_iret rfl dX9_by_43
  refine pm_case (c := (3 : Int32)) (fun h9 => ?_) (fun h9_1 => ?_)
  · refine pm_swIn (off := (43)) (tgt := 44) dX9_by_1 (by rw [h9]; decide) (by rw [h9]; decide) (by rw [h9]; decide) (by decide) ?_
    refine pm_iload_n dX9_by_44 rfl rfl ?_
    refine pm_iload_n dX9_by_45 rfl rfl ?_
    refine pm_isub dX9_by_46 ?_
    exact pm_iret rfl dX9_by_47
  refine pm_case (c := (4 : Int32)) (fun h9 => ?_) (fun h9_2 => ?_)
  · refine pm_swIn (off := (47)) (tgt := 48) dX9_by_1 (by rw [h9]; decide) (by rw [h9]; decide) (by rw [h9]; decide) (by decide) ?_
    refine pm_iload_n dX9_by_48 rfl rfl ?_
    refine pm_iload_n dX9_by_49 rfl rfl ?_
    refine pm_imul dX9_by_50 ?_
    exact pm_iret rfl dX9_by_51
  refine pm_case (c := (5 : Int32)) (fun h9 => ?_) (fun h9_3 => ?_)
  · refine pm_swIn (off := (51)) (tgt := 52) dX9_by_1 (by rw [h9]; decide) (by rw [h9]; decide) (by rw [h9]; decide) (by decide) ?_
    refine pm_iload_n dX9_by_52 rfl rfl ?_
    refine pm_if_ne (tgt := 60) dX9_by_53 rfl ?_ ?_
    · refine pm_iload_n dX9_by_60 rfl rfl ?_
      refine pm_iconst (v := (-1)) dX9_by_61 ki_n1 ?_
      refine pm_icmp_ne (tgt := 70) dX9_by_62 rfl ?_ ?_
      · refine pm_iload_n dX9_by_70 rfl rfl ?_
        refine pm_iload_n dX9_by_71 rfl rfl ?_
        refine pm_idiv dX9_by_72 ?_
        refine pm_drop (ls2 := [pmU, pmU, pmU]) (Nat.le_refl _) (pm_le_spec (pm_le_u (pm_le_u (pm_le_u (pm_le_n))))) ?_
        exact gX9_by_j73 hfl (a1 / a2) m
      · refine pm_iload_n dX9_by_65 rfl rfl ?_
        refine pm_ineg dX9_by_66 ?_
        refine pm_goto (tgt := 73) dX9_by_67 rfl ?_
        refine pm_drop (ls2 := [pmU, pmU, pmU]) (Nat.le_refl _) (pm_le_spec (pm_le_u (pm_le_u (pm_le_u (pm_le_n))))) ?_
        exact gX9_by_j73 hfl (-a1) m
    · refine pm_iconst (v := 0) dX9_by_56 ki_0 ?_
      refine pm_goto (tgt := 73) dX9_by_57 rfl ?_
      refine pm_drop (ls2 := [pmU, pmU, pmU]) (Nat.le_refl _) (pm_le_spec (pm_le_u (pm_le_u (pm_le_u (pm_le_n))))) ?_
      exact gX9_by_j73 hfl 0 m
  refine pm_case (c := (6 : Int32)) (fun h9 => ?_) (fun h9_4 => ?_)
  · refine pm_swIn (off := (73)) (tgt := 74) dX9_by_1 (by rw [h9]; decide) (by rw [h9]; decide) (by rw [h9]; decide) (by decide) ?_
    refine pm_iload_n dX9_by_74 rfl rfl ?_
    refine pm_if_eq (tgt := 83) dX9_by_75 rfl ?_ ?_
    · refine pm_drop (ls2 := [pmU, pmU, pmU]) (Nat.le_refl _) (pm_le_spec (pm_le_u (pm_le_u (pm_le_u (pm_le_n))))) ?_
      exact gX9_by_j83 hfl m
    · refine pm_iload_n dX9_by_78 rfl rfl ?_
      refine pm_iconst (v := (-1)) dX9_by_79 ki_n1 ?_
      refine pm_icmp_ne (tgt := 87) dX9_by_80 rfl ?_ ?_
      · refine pm_iload_n dX9_by_87 rfl rfl ?_
        refine pm_iload_n dX9_by_88 rfl rfl ?_
        refine pm_irem dX9_by_89 ?_
        refine pm_drop (ls2 := [pmU, pmU, pmU]) (Nat.le_refl _) (pm_le_spec (pm_le_u (pm_le_u (pm_le_u (pm_le_n))))) ?_
        exact gX9_by_j90 hfl (a1 - a1 / a2 * a2) m
      · refine pm_drop (ls2 := [pmU, pmU, pmU]) (Nat.le_refl _) (pm_le_spec (pm_le_u (pm_le_u (pm_le_u (pm_le_n))))) ?_
        exact gX9_by_j83 hfl m
  refine pm_case (c := (7 : Int32)) (fun h9 => ?_) (fun h9_5 => ?_)
  · refine pm_swIn (off := (90)) (tgt := 91) dX9_by_1 (by rw [h9]; decide) (by rw [h9]; decide) (by rw [h9]; decide) (by decide) ?_
    refine pm_iload_n dX9_by_91 rfl rfl ?_
    refine pm_iload_n dX9_by_92 rfl rfl ?_
    refine pm_kI (d := d + 0) rfl (pm_S (y := zX9_by) (z := zX9_less) (As := [.int a1, .int a2]) zkX9_less tw_1722 tw_1723 dX9_by_93 rfl rfl (Nat.le_of_ble_eq_true rfl)) (kcX9_less (d := d + 0) hfl a1 a2 m) (fun x2 m1 => ?_)
    exact pm_iret rfl dX9_by_96
  refine pm_swOut (tgt := 97) dX9_by_1 (pm_swx a0 (2) 6 (lt_s (lt_s (lt_s (lt_s (lt_s (lt_s (lt_0) (pm_ne h9_0 (by decide))) (pm_ne h9_1 (by decide))) (pm_ne h9_2 (by decide))) (pm_ne h9_3 (by decide))) (pm_ne h9_4 (by decide))) (pm_ne h9_5 (by decide)))) (by decide) ?_
  refine pm_iload_n dX9_by_97 rfl rfl ?_
  refine pm_iload_n dX9_by_98 rfl rfl ?_
  refine pm_kI (d := d + 0) rfl (pm_S (y := zX9_by) (z := zX9_more) (As := [.int a1, .int a2]) zkX9_more tw_1725 tw_1726 dX9_by_99 rfl rfl (Nat.le_of_ble_eq_true rfl)) (kcX9_more (d := d + 0) hfl a1 a2 m) (fun x4 m3 => ?_)
  exact pm_iret rfl dX9_by_102
end GEN17
