section GEN8
variable {l : Launch} {Γ : pmG} {d : Nat}
-- StruckPage$Steps.readStep(LStruckPage$Text;I)Z
def X6_readStep_j28 (rs : Nat → Nat → Int32 → pmM → pmR) (l1 : Nat) (m : pmM) : pmR := pm_gI 7 l1 4 m fun x5 => pm_rc 7 l1 m <| pm_cI (X7_fail l1 1 x5 m) fun x7 m6 => pm_oI (vp_nar .boolean x7) m6
def X6_readStep_j210 (rs : Nat → Nat → Int32 → pmM → pmR) (m : pmM) : pmR := pm_oI 1 m
def X6_readStep_j200 (rs : Nat → Nat → Int32 → pmM → pmR) (t0 : Int32) (m : pmM) : pmR := pm_oI (vp_nar .boolean t0) m
def X6_readStep_j199 (rs : Nat → Nat → Int32 → pmM → pmR) (m : pmM) : pmR := X6_readStep_j200 rs 0 m
def X6_readStep_j60 (rs : Nat → Nat → Int32 → pmM → pmR) (l0 : Nat) (l1 : Nat) (l2 : Int32) (l3 : Int32) (m : pmM) : pmR := pm_gI 6 l0 5 m fun x9 => pm_gR 6 l0 0 m fun r10 => pm_st 100 r10 x9 l3 m fun m11 => pm_gR 6 l0 4 m11 fun r12 => pm_st 100 r12 x9 (x9 + 1) m11 fun m13 => pm_gI 6 l0 5 m13 fun x14 => pm_pI 6 l0 5 (x14 + 1) m13 fun m15 => if l3 = (0 : Int32) then (pm_rc 6 l0 m15 <| pm_cI (X6_readStrike l0 l1 x9 m15) fun x17 m16 => pm_oI (vp_nar .boolean x17) m16) else if l3 = (1 : Int32) then (pm_rc 6 l0 m15 <| pm_cI (X6_readFirst l0 l1 x9 1 99 m15) fun x19 m18 => pm_oI (vp_nar .boolean x19) m18) else if l3 = (2 : Int32) then (X6_readStep_j210 rs m15) else if l3 = (3 : Int32) then (pm_rc 6 l0 m15 <| pm_cI (X6_readFirst l0 l1 x9 1 99 m15) fun x21 m20 => pm_oI (vp_nar .boolean x21) m20) else if l3 = (4 : Int32) then (X6_readStep_j210 rs m15) else if l3 = (5 : Int32) then (pm_rc 6 l0 m15 <| pm_cI (X6_readFirst l0 l1 x9 0 3 m15) fun x23 m22 => if x23 = 0 then (X6_readStep_j199 rs m22) else (pm_rc 6 l0 m22 <| pm_cI (X6_readSecond l0 l1 x9 999 m22) fun x25 m24 => if x25 = 0 then (X6_readStep_j199 rs m24) else (X6_readStep_j200 rs 1 m24))) else if l3 = (6 : Int32) then (pm_rc 6 l0 m15 <| pm_cI (X6_readAgain rs l0 l1 x9 l2 m15) fun x27 m26 => pm_oI (vp_nar .boolean x27) m26) else (X6_readStep_j210 rs m15)
def X6_readStep (rs : Nat → Nat → Int32 → pmM → pmR) (a0 : Nat) (a1 : Nat) (a2 : Int32) (m : pmM) : pmR := pm_rc 7 a1 m <| pm_cI (X7_takeLetters a1 m) fun x2 m1 => if x2 = 0 then (pm_oI 0 m1) else (pm_cI (X6_kindTaken a1 m1) fun x4 m3 => if x4 = (-1) then (X6_readStep_j28 rs a1 m3) else (pm_gI 6 a0 5 m3 fun x8 => if x8 < 30 then (if x4 = 6 then (if a2 < 6 then (X6_readStep_j60 rs a0 a1 a2 x4 m3) else (pm_gI 7 a1 4 m3 fun x28 => pm_rc 7 a1 m3 <| pm_cI (X7_fail a1 3 x28 m3) fun x30 m29 => pm_oI (vp_nar .boolean x30) m29)) else (X6_readStep_j60 rs a0 a1 a2 x4 m3)) else (X6_readStep_j28 rs a1 m3)))
set_option maxRecDepth 100000 in
set_option maxHeartbeats 4000000 in
theorem gX6_readStep_j28 (hfl : l.flags = flags0) (rs : Nat → Nat → Int32 → pmM → pmR) (l1 : Nat) (m : pmM) (hrs : ∀ (j : Nat) (b0 : Nat) (b1 : Nat) (b2 : Int32) (m : pmM), pm_C l Γ zX6_readSteps (d + j + 6) [.ref b0, .ref b1, .int b2] m (rs b0 b1 b2 m)) : pm_G l Γ zX6_readStep (d + 8) 28 [pmU, .ref l1, pmU, pmU, pmU] [] m (X6_readStep_j28 rs l1 m) := by
  unfold X6_readStep_j28
  refine pm_aload_n dX6_readStep_28 rfl rfl ?_
  refine pm_iconst (v := 1) dX6_readStep_29 ki_1 ?_
  refine pm_aload_n dX6_readStep_30 rfl rfl ?_
  refine fg_7_4 (y := zX6_readStep) (Or.inr tw_200) dX6_readStep_31 (fun x5 => ?_)
  refine pm_rcv (fun hb9 hc9 => ?_)
  refine pm_kI (d := d + 7) rfl (pm_VN (y := zX6_readStep) (z := zX7_fail) (As := [.int 1, .int x5]) zkX7_fail pm_q7 (by decide) tw_966 tw_783 tw_38 dX6_readStep_34 rfl rfl (Nat.le_of_ble_eq_true rfl) hb9 hc9) (kcX7_fail (d := d + 7) hfl l1 1 x5 m) (fun x7 m6 => ?_)
  exact pm_nret (ty := .boolean) (w := vp_nar .boolean x7) rfl (by decide) rfl dX6_readStep_37
set_option maxRecDepth 100000 in
set_option maxHeartbeats 4000000 in
theorem gX6_readStep_j210 (hfl : l.flags = flags0) (rs : Nat → Nat → Int32 → pmM → pmR) (m : pmM) (hrs : ∀ (j : Nat) (b0 : Nat) (b1 : Nat) (b2 : Int32) (m : pmM), pm_C l Γ zX6_readSteps (d + j + 6) [.ref b0, .ref b1, .int b2] m (rs b0 b1 b2 m)) : pm_G l Γ zX6_readStep (d + 8) 210 [pmU, pmU, pmU, pmU, pmU] [] m (X6_readStep_j210 rs m) := by
  unfold X6_readStep_j210
  refine pm_iconst (v := 1) dX6_readStep_210 ki_1 ?_
  exact pm_nret (ty := .boolean) (w := 1) rfl (by decide) (by decide) dX6_readStep_211
set_option maxRecDepth 100000 in
set_option maxHeartbeats 4000000 in
theorem gX6_readStep_j200 (hfl : l.flags = flags0) (rs : Nat → Nat → Int32 → pmM → pmR) (t0 : Int32) (m : pmM) (hrs : ∀ (j : Nat) (b0 : Nat) (b1 : Nat) (b2 : Int32) (m : pmM), pm_C l Γ zX6_readSteps (d + j + 6) [.ref b0, .ref b1, .int b2] m (rs b0 b1 b2 m)) : pm_G l Γ zX6_readStep (d + 8) 200 [pmU, pmU, pmU, pmU, pmU] [.int t0] m (X6_readStep_j200 rs t0 m) := by
  unfold X6_readStep_j200
  exact pm_nret (ty := .boolean) (w := vp_nar .boolean t0) rfl (by decide) rfl dX6_readStep_200
set_option maxRecDepth 100000 in
set_option maxHeartbeats 4000000 in
theorem gX6_readStep_j199 (hfl : l.flags = flags0) (rs : Nat → Nat → Int32 → pmM → pmR) (m : pmM) (hrs : ∀ (j : Nat) (b0 : Nat) (b1 : Nat) (b2 : Int32) (m : pmM), pm_C l Γ zX6_readSteps (d + j + 6) [.ref b0, .ref b1, .int b2] m (rs b0 b1 b2 m)) : pm_G l Γ zX6_readStep (d + 8) 199 [pmU, pmU, pmU, pmU, pmU] [] m (X6_readStep_j199 rs m) := by
  unfold X6_readStep_j199
  refine pm_iconst (v := 0) dX6_readStep_199 ki_0 ?_
  exact gX6_readStep_j200 hfl rs 0 m hrs
set_option maxRecDepth 100000 in
set_option maxHeartbeats 4000000 in
theorem gX6_readStep_j60 (hfl : l.flags = flags0) (rs : Nat → Nat → Int32 → pmM → pmR) (l0 : Nat) (l1 : Nat) (l2 : Int32) (l3 : Int32) (m : pmM) (hrs : ∀ (j : Nat) (b0 : Nat) (b1 : Nat) (b2 : Int32) (m : pmM), pm_C l Γ zX6_readSteps (d + j + 6) [.ref b0, .ref b1, .int b2] m (rs b0 b1 b2 m)) : pm_G l Γ zX6_readStep (d + 8) 60 [.ref l0, .ref l1, .int l2, .int l3, pmU] [] m (X6_readStep_j60 rs l0 l1 l2 l3 m) := by
  unfold X6_readStep_j60
  refine pm_aload_n dX6_readStep_60 rfl rfl ?_
  refine fg_6_5 (y := zX6_readStep) (Or.inl tw_323) dX6_readStep_61 (fun x9 => ?_)
  refine pm_istore (ls2 := [.ref l0, .ref l1, .int l2, .int l3, .int x9]) dX6_readStep_64 rfl (Nat.le_of_ble_eq_true rfl) rfl ?_
  refine pm_aload_n dX6_readStep_66 rfl rfl ?_
  refine fg_6_0 (y := zX6_readStep) (Or.inl tw_318) dX6_readStep_67 (fun r10 => ?_)
  refine pm_iload dX6_readStep_70 rfl ?_
  refine pm_iload_n dX6_readStep_72 rfl rfl ?_
  refine pm_iast (y := zX6_readStep) dX6_readStep_73 (fun m11 => ?_)
  refine pm_aload_n dX6_readStep_74 rfl rfl ?_
  refine fg_6_4 (y := zX6_readStep) (Or.inl tw_322) dX6_readStep_75 (fun r12 => ?_)
  refine pm_iload dX6_readStep_78 rfl ?_
  refine pm_iload dX6_readStep_80 rfl ?_
  refine pm_iconst (v := 1) dX6_readStep_82 ki_1 ?_
  refine pm_iadd dX6_readStep_83 ?_
  refine pm_iast (y := zX6_readStep) dX6_readStep_84 (fun m13 => ?_)
  refine pm_aload_n dX6_readStep_85 rfl rfl ?_
  refine pm_dup dX6_readStep_86 rfl ?_
  refine fg_6_5 (y := zX6_readStep) (Or.inl tw_323) dX6_readStep_87 (fun x14 => ?_)
  refine pm_iconst (v := 1) dX6_readStep_90 ki_1 ?_
  refine pm_iadd dX6_readStep_91 ?_
  refine fp_6_5 (y := zX6_readStep) (Or.inl tw_323) dX6_readStep_92 (fun m15 => ?_)
  refine pm_iload_n dX6_readStep_95 rfl rfl ?_
  refine pm_case (c := (0 : Int32)) (fun h9 => ?_) (fun h9_0 => ?_)
  · refine pm_swIn (off := (44)) (tgt := 140) dX6_readStep_96 (by rw [h9]; decide) (by rw [h9]; decide) (by rw [h9]; decide) (by decide) ?_
    refine pm_aload_n dX6_readStep_140 rfl rfl ?_
    refine pm_aload_n dX6_readStep_141 rfl rfl ?_
    refine pm_iload dX6_readStep_142 rfl ?_
    refine pm_rcv (fun hb9 hc9 => ?_)
    refine pm_kI (d := d + 7) rfl (pm_V (y := zX6_readStep) (z := zX6_readStrike) (As := [.ref l1, .int x9]) zkX6_readStrike pm_q6 (by decide) tw_967 tw_969 tw_59 dX6_readStep_144 rfl rfl (Nat.le_of_ble_eq_true rfl) hb9 hc9) (kcX6_readStrike (d := d + 4) hfl l0 l1 x9 m15) (fun x17 m16 => ?_)
    exact pm_nret (ty := .boolean) (w := vp_nar .boolean x17) rfl (by decide) rfl dX6_readStep_147
  refine pm_case (c := (1 : Int32)) (fun h9 => ?_) (fun h9_1 => ?_)
  · refine pm_swIn (off := (52)) (tgt := 148) dX6_readStep_96 (by rw [h9]; decide) (by rw [h9]; decide) (by rw [h9]; decide) (by decide) ?_
    refine pm_aload_n dX6_readStep_148 rfl rfl ?_
    refine pm_aload_n dX6_readStep_149 rfl rfl ?_
    refine pm_iload dX6_readStep_150 rfl ?_
    refine pm_iconst (v := 1) dX6_readStep_152 ki_1 ?_
    refine pm_bipush (v := 99) dX6_readStep_153 kb_99 ?_
    refine pm_rcv (fun hb9 hc9 => ?_)
    refine pm_kI (d := d + 7) rfl (pm_V (y := zX6_readStep) (z := zX6_readFirst) (As := [.ref l1, .int x9, .int 1, .int 99]) zkX6_readFirst pm_q6 (by decide) tw_971 tw_973 tw_60 dX6_readStep_155 rfl rfl (Nat.le_of_ble_eq_true rfl) hb9 hc9) (kcX6_readFirst (d := d + 5) hfl l0 l1 x9 1 99 m15) (fun x19 m18 => ?_)
    exact pm_nret (ty := .boolean) (w := vp_nar .boolean x19) rfl (by decide) rfl dX6_readStep_158
  refine pm_case (c := (2 : Int32)) (fun h9 => ?_) (fun h9_2 => ?_)
  · refine pm_swIn (off := (114)) (tgt := 210) dX6_readStep_96 (by rw [h9]; decide) (by rw [h9]; decide) (by rw [h9]; decide) (by decide) ?_
    refine pm_drop (ls2 := [pmU, pmU, pmU, pmU, pmU]) (Nat.le_refl _) (pm_le_spec (pm_le_u (pm_le_u (pm_le_u (pm_le_u (pm_le_u (pm_le_n))))))) ?_
    exact gX6_readStep_j210 hfl rs m15 hrs
  refine pm_case (c := (3 : Int32)) (fun h9 => ?_) (fun h9_3 => ?_)
  · refine pm_swIn (off := (63)) (tgt := 159) dX6_readStep_96 (by rw [h9]; decide) (by rw [h9]; decide) (by rw [h9]; decide) (by decide) ?_
    refine pm_aload_n dX6_readStep_159 rfl rfl ?_
    refine pm_aload_n dX6_readStep_160 rfl rfl ?_
    refine pm_iload dX6_readStep_161 rfl ?_
    refine pm_iconst (v := 1) dX6_readStep_163 ki_1 ?_
    refine pm_bipush (v := 99) dX6_readStep_164 kb_99 ?_
    refine pm_rcv (fun hb9 hc9 => ?_)
    refine pm_kI (d := d + 7) rfl (pm_V (y := zX6_readStep) (z := zX6_readFirst) (As := [.ref l1, .int x9, .int 1, .int 99]) zkX6_readFirst pm_q6 (by decide) tw_971 tw_973 tw_60 dX6_readStep_166 rfl rfl (Nat.le_of_ble_eq_true rfl) hb9 hc9) (kcX6_readFirst (d := d + 5) hfl l0 l1 x9 1 99 m15) (fun x21 m20 => ?_)
    exact pm_nret (ty := .boolean) (w := vp_nar .boolean x21) rfl (by decide) rfl dX6_readStep_169
  refine pm_case (c := (4 : Int32)) (fun h9 => ?_) (fun h9_4 => ?_)
  · refine pm_swIn (off := (114)) (tgt := 210) dX6_readStep_96 (by rw [h9]; decide) (by rw [h9]; decide) (by rw [h9]; decide) (by decide) ?_
    refine pm_drop (ls2 := [pmU, pmU, pmU, pmU, pmU]) (Nat.le_refl _) (pm_le_spec (pm_le_u (pm_le_u (pm_le_u (pm_le_u (pm_le_u (pm_le_n))))))) ?_
    exact gX6_readStep_j210 hfl rs m15 hrs
  refine pm_case (c := (5 : Int32)) (fun h9 => ?_) (fun h9_5 => ?_)
  · refine pm_swIn (off := (74)) (tgt := 170) dX6_readStep_96 (by rw [h9]; decide) (by rw [h9]; decide) (by rw [h9]; decide) (by decide) ?_
    refine pm_aload_n dX6_readStep_170 rfl rfl ?_
    refine pm_aload_n dX6_readStep_171 rfl rfl ?_
    refine pm_iload dX6_readStep_172 rfl ?_
    refine pm_iconst (v := 0) dX6_readStep_174 ki_0 ?_
    refine pm_iconst (v := 3) dX6_readStep_175 ki_3 ?_
    refine pm_rcv (fun hb9 hc9 => ?_)
    refine pm_kI (d := d + 7) rfl (pm_V (y := zX6_readStep) (z := zX6_readFirst) (As := [.ref l1, .int x9, .int 0, .int 3]) zkX6_readFirst pm_q6 (by decide) tw_971 tw_973 tw_60 dX6_readStep_176 rfl rfl (Nat.le_of_ble_eq_true rfl) hb9 hc9) (kcX6_readFirst (d := d + 5) hfl l0 l1 x9 0 3 m15) (fun x23 m22 => ?_)
    refine pm_if_eq (tgt := 199) dX6_readStep_179 rfl ?_ ?_
    · refine pm_drop (ls2 := [pmU, pmU, pmU, pmU, pmU]) (Nat.le_refl _) (pm_le_spec (pm_le_u (pm_le_u (pm_le_u (pm_le_u (pm_le_u (pm_le_n))))))) ?_
      exact gX6_readStep_j199 hfl rs m22 hrs
    · refine pm_aload_n dX6_readStep_182 rfl rfl ?_
      refine pm_aload_n dX6_readStep_183 rfl rfl ?_
      refine pm_iload dX6_readStep_184 rfl ?_
      refine pm_sipush (v := 999) dX6_readStep_186 ks_999 ?_
      refine pm_rcv (fun hb9 hc9 => ?_)
      refine pm_kI (d := d + 7) rfl (pm_V (y := zX6_readStep) (z := zX6_readSecond) (As := [.ref l1, .int x9, .int 999]) zkX6_readSecond pm_q6 (by decide) tw_976 tw_978 tw_61 dX6_readStep_189 rfl rfl (Nat.le_of_ble_eq_true rfl) hb9 hc9) (kcX6_readSecond (d := d + 5) hfl l0 l1 x9 999 m22) (fun x25 m24 => ?_)
      refine pm_if_eq (tgt := 199) dX6_readStep_192 rfl ?_ ?_
      · refine pm_drop (ls2 := [pmU, pmU, pmU, pmU, pmU]) (Nat.le_refl _) (pm_le_spec (pm_le_u (pm_le_u (pm_le_u (pm_le_u (pm_le_u (pm_le_n))))))) ?_
        exact gX6_readStep_j199 hfl rs m24 hrs
      · refine pm_iconst (v := 1) dX6_readStep_195 ki_1 ?_
        refine pm_goto (tgt := 200) dX6_readStep_196 rfl ?_
        refine pm_drop (ls2 := [pmU, pmU, pmU, pmU, pmU]) (Nat.le_refl _) (pm_le_spec (pm_le_u (pm_le_u (pm_le_u (pm_le_u (pm_le_u (pm_le_n))))))) ?_
        exact gX6_readStep_j200 hfl rs 1 m24 hrs
  refine pm_case (c := (6 : Int32)) (fun h9 => ?_) (fun h9_6 => ?_)
  · refine pm_swIn (off := (105)) (tgt := 201) dX6_readStep_96 (by rw [h9]; decide) (by rw [h9]; decide) (by rw [h9]; decide) (by decide) ?_
    refine pm_aload_n dX6_readStep_201 rfl rfl ?_
    refine pm_aload_n dX6_readStep_202 rfl rfl ?_
    refine pm_iload dX6_readStep_203 rfl ?_
    refine pm_iload_n dX6_readStep_205 rfl rfl ?_
    refine pm_rcv (fun hb9 hc9 => ?_)
    refine pm_kI (d := d + 7) rfl (pm_V (y := zX6_readStep) (z := zX6_readAgain) (As := [.ref l1, .int x9, .int l2]) zkX6_readAgain pm_q6 (by decide) tw_980 tw_982 tw_62 dX6_readStep_206 rfl rfl (Nat.le_of_ble_eq_true rfl) hb9 hc9) (kcX6_readAgain hfl rs l0 l1 x9 l2 m15 hrs) (fun x27 m26 => ?_)
    exact pm_nret (ty := .boolean) (w := vp_nar .boolean x27) rfl (by decide) rfl dX6_readStep_209
  refine pm_swOut (tgt := 210) dX6_readStep_96 (pm_swx l3 (0) 7 (lt_s (lt_s (lt_s (lt_s (lt_s (lt_s (lt_s (lt_0) (pm_ne h9_0 (by decide))) (pm_ne h9_1 (by decide))) (pm_ne h9_2 (by decide))) (pm_ne h9_3 (by decide))) (pm_ne h9_4 (by decide))) (pm_ne h9_5 (by decide))) (pm_ne h9_6 (by decide)))) (by decide) ?_
  refine pm_drop (ls2 := [pmU, pmU, pmU, pmU, pmU]) (Nat.le_refl _) (pm_le_spec (pm_le_u (pm_le_u (pm_le_u (pm_le_u (pm_le_u (pm_le_n))))))) ?_
  exact gX6_readStep_j210 hfl rs m15 hrs
set_option maxRecDepth 100000 in
set_option maxHeartbeats 4000000 in
theorem kcX6_readStep (hfl : l.flags = flags0) (rs : Nat → Nat → Int32 → pmM → pmR) (a0 : Nat) (a1 : Nat) (a2 : Int32) (m : pmM) (hrs : ∀ (j : Nat) (b0 : Nat) (b1 : Nat) (b2 : Int32) (m : pmM), pm_C l Γ zX6_readSteps (d + j + 6) [.ref b0, .ref b1, .int b2] m (rs b0 b1 b2 m)) : pm_C l Γ zX6_readStep (d + 8) [.ref a0, .ref a1, .int a2] m (X6_readStep rs a0 a1 a2 m) := by
  refine pm_enter (ls := [.ref a0, .ref a1, .int a2, pmU, pmU]) hfl (by decide +kernel) rfl (Nat.le_of_ble_eq_true rfl) rfl (Nat.le_of_ble_eq_true rfl) ?_
  unfold X6_readStep
  refine pm_aload_n dX6_readStep_0 rfl rfl ?_
  refine pm_rcv (fun hb9 hc9 => ?_)
  refine pm_kI (d := d + 7) rfl (pm_VN (y := zX6_readStep) (z := zX7_takeLetters) (As := []) zkX7_takeLetters pm_q7 (by decide) tw_954 tw_774 tw_36 dX6_readStep_1 rfl rfl (Nat.le_of_ble_eq_true rfl) hb9 hc9) (kcX7_takeLetters (d := d + 5) hfl a1 m) (fun x2 m1 => ?_)
  refine pm_if_ne (tgt := 9) dX6_readStep_4 rfl ?_ ?_
  · refine pm_aload_n dX6_readStep_9 rfl rfl ?_
    refine pm_kI (d := d + 7) rfl (pm_S (y := zX6_readStep) (z := zX6_kindTaken) (As := [.ref a1]) zkX6_kindTaken tw_955 tw_956 dX6_readStep_10 rfl rfl (Nat.le_of_ble_eq_true rfl)) (kcX6_kindTaken (d := d + 1) hfl a1 m1) (fun x4 m3 => ?_)
    refine pm_istore_n (ls2 := [.ref a0, .ref a1, .int a2, .int x4, pmU]) dX6_readStep_13 rfl rfl (Nat.le_of_ble_eq_true rfl) rfl ?_
    refine pm_iload_n dX6_readStep_14 rfl rfl ?_
    refine pm_iconst (v := (-1)) dX6_readStep_15 ki_n1 ?_
    refine pm_icmp_eq (tgt := 28) dX6_readStep_16 rfl ?_ ?_
    · refine pm_drop (ls2 := [pmU, .ref a1, pmU, pmU, pmU]) (Nat.le_refl _) (pm_le_spec (pm_le_u (pm_le_v (pm_le_u (pm_le_u (pm_le_u (pm_le_n))))))) ?_
      exact gX6_readStep_j28 hfl rs a1 m3 hrs
    · refine pm_aload_n dX6_readStep_19 rfl rfl ?_
      refine fg_6_5 (y := zX6_readStep) (Or.inl tw_323) dX6_readStep_20 (fun x8 => ?_)
      refine pm_bipush (v := 30) dX6_readStep_23 kb_30 ?_
      refine pm_icmp_lt (tgt := 38) dX6_readStep_25 rfl ?_ ?_
      · refine pm_iload_n dX6_readStep_38 rfl rfl ?_
        refine pm_bipush (v := 6) dX6_readStep_39 kb_6 ?_
        refine pm_icmp_ne (tgt := 60) dX6_readStep_41 rfl ?_ ?_
        · exact gX6_readStep_j60 hfl rs a0 a1 a2 x4 m3 hrs
        · refine pm_iload_n dX6_readStep_44 rfl rfl ?_
          refine pm_bipush (v := 6) dX6_readStep_45 kb_6 ?_
          refine pm_icmp_lt (tgt := 60) dX6_readStep_47 rfl ?_ ?_
          · exact gX6_readStep_j60 hfl rs a0 a1 a2 x4 m3 hrs
          · refine pm_aload_n dX6_readStep_50 rfl rfl ?_
            refine pm_iconst (v := 3) dX6_readStep_51 ki_3 ?_
            refine pm_aload_n dX6_readStep_52 rfl rfl ?_
            refine fg_7_4 (y := zX6_readStep) (Or.inr tw_200) dX6_readStep_53 (fun x28 => ?_)
            refine pm_rcv (fun hb9 hc9 => ?_)
            refine pm_kI (d := d + 7) rfl (pm_VN (y := zX6_readStep) (z := zX7_fail) (As := [.int 3, .int x28]) zkX7_fail pm_q7 (by decide) tw_966 tw_783 tw_38 dX6_readStep_56 rfl rfl (Nat.le_of_ble_eq_true rfl) hb9 hc9) (kcX7_fail (d := d + 7) hfl a1 3 x28 m3) (fun x30 m29 => ?_)
            exact pm_nret (ty := .boolean) (w := vp_nar .boolean x30) rfl (by decide) rfl dX6_readStep_59
      · refine pm_drop (ls2 := [pmU, .ref a1, pmU, pmU, pmU]) (Nat.le_refl _) (pm_le_spec (pm_le_u (pm_le_v (pm_le_u (pm_le_u (pm_le_u (pm_le_n))))))) ?_
        exact gX6_readStep_j28 hfl rs a1 m3 hrs
  · refine pm_iconst (v := 0) dX6_readStep_7 ki_0 ?_
    exact pm_nret (ty := .boolean) (w := 0) rfl (by decide) (by decide) dX6_readStep_8
-- StruckPage$Steps.readSteps(LStruckPage$Text;I)Z
def X6_readSteps_j31 (rs : Nat → Nat → Int32 → pmM → pmR) (m : pmM) : pmR := pm_oI 1 m
def X6_readSteps_j51 (rs : Nat → Nat → Int32 → pmM → pmR) (m : pmM) : pmR := pm_oI 0 m
def X6_readSteps_j33 (rs : Nat → Nat → Int32 → pmM → pmR) (again2 : (Int32 × pmM) → pmR) (l0 : Nat) (l1 : Nat) (l2 : Int32) (l3 : Int32) (m : pmM) : pmR := pm_rc 6 l0 m <| pm_cI (X6_readStep rs l0 l1 l2 m) fun x4 m3 => if x4 = 0 then (X6_readSteps_j51 rs m3) else (pm_rc 7 l1 m3 <| pm_cI (X7_takeSign l1 59 m3) fun x6 m5 => if x6 = 0 then (X6_readSteps_j51 rs m5) else (pm_bI (l3 + 1) fun x7 => again2 (x7, m5)))
def X6_readSteps_L2 (rs : Nat → Nat → Int32 → pmM → pmR) (l0 : Nat) (l1 : Nat) (l2 : Int32) (again2 : (Int32 × pmM) → pmR) (s2 : Int32 × pmM) : pmR := if (30 : Int32) < s2.1 then (pm_oI 1 s2.2) else (pm_rc 7 l1 s2.2 <| pm_cI (X7_peek l1 s2.2) fun x2 m1 => if x2 = (-1) then (X6_readSteps_j31 rs m1) else (if l2 ≤ 0 then (X6_readSteps_j33 rs again2 l0 l1 l2 s2.1 m1) else (if x2 = 93 then (X6_readSteps_j31 rs m1) else (X6_readSteps_j33 rs again2 l0 l1 l2 s2.1 m1))))
def X6_readSteps (rs : Nat → Nat → Int32 → pmM → pmR) (a0 : Nat) (a1 : Nat) (a2 : Int32) (m : pmM) : pmR := pm_lp pm_N (X6_readSteps_L2 rs a0 a1 a2) (0, m)
def X6_readSteps_N : Nat → Nat → Nat → Int32 → pmM → pmR
  | 0 => fun _ _ _ _ => none
  | n + 1 => X6_readSteps (X6_readSteps_N n)
set_option maxRecDepth 100000 in
set_option maxHeartbeats 4000000 in
theorem gX6_readSteps_j31 (hfl : l.flags = flags0) (rs : Nat → Nat → Int32 → pmM → pmR) (m : pmM) (hrs : ∀ (j : Nat) (b0 : Nat) (b1 : Nat) (b2 : Int32) (m : pmM), pm_C l Γ zX6_readSteps (d + j + 6) [.ref b0, .ref b1, .int b2] m (rs b0 b1 b2 m)) : pm_G l Γ zX6_readSteps (d + 9) 31 [pmU, pmU, pmU, pmU, pmU] [] m (X6_readSteps_j31 rs m) := by
  unfold X6_readSteps_j31
  refine pm_iconst (v := 1) dX6_readSteps_31 ki_1 ?_
  exact pm_nret (ty := .boolean) (w := 1) rfl (by decide) (by decide) dX6_readSteps_32
set_option maxRecDepth 100000 in
set_option maxHeartbeats 4000000 in
theorem gX6_readSteps_j51 (hfl : l.flags = flags0) (rs : Nat → Nat → Int32 → pmM → pmR) (m : pmM) (hrs : ∀ (j : Nat) (b0 : Nat) (b1 : Nat) (b2 : Int32) (m : pmM), pm_C l Γ zX6_readSteps (d + j + 6) [.ref b0, .ref b1, .int b2] m (rs b0 b1 b2 m)) : pm_G l Γ zX6_readSteps (d + 9) 51 [pmU, pmU, pmU, pmU, pmU] [] m (X6_readSteps_j51 rs m) := by
  unfold X6_readSteps_j51
  refine pm_iconst (v := 0) dX6_readSteps_51 ki_0 ?_
  exact pm_nret (ty := .boolean) (w := 0) rfl (by decide) (by decide) dX6_readSteps_52
set_option maxRecDepth 100000 in
set_option maxHeartbeats 4000000 in
theorem gX6_readSteps_j33 (hfl : l.flags = flags0) (rs : Nat → Nat → Int32 → pmM → pmR) (again2 : (Int32 × pmM) → pmR) (l0 : Nat) (l1 : Nat) (l2 : Int32) (l3 : Int32) (m : pmM) (hrs : ∀ (j : Nat) (b0 : Nat) (b1 : Nat) (b2 : Int32) (m : pmM), pm_C l Γ zX6_readSteps (d + j + 6) [.ref b0, .ref b1, .int b2] m (rs b0 b1 b2 m)) (hag2 : ∀ s : Int32 × pmM, pm_G l Γ zX6_readSteps (d + 9) 2 [.ref l0, .ref l1, .int l2, .int s.1, pmU] [] s.2 (again2 s)) : pm_G l Γ zX6_readSteps (d + 9) 33 [.ref l0, .ref l1, .int l2, .int l3, pmU] [] m (X6_readSteps_j33 rs again2 l0 l1 l2 l3 m) := by
  unfold X6_readSteps_j33
  refine pm_aload_n dX6_readSteps_33 rfl rfl ?_
  refine pm_aload_n dX6_readSteps_34 rfl rfl ?_
  refine pm_iload_n dX6_readSteps_35 rfl rfl ?_
  refine pm_rcv (fun hb9 hc9 => ?_)
  refine pm_kI (d := d + 8) rfl (pm_V (y := zX6_readSteps) (z := zX6_readStep) (As := [.ref l1, .int l2]) zkX6_readStep pm_q6 (by decide) tw_950 tw_952 tw_58 dX6_readSteps_36 rfl rfl (Nat.le_of_ble_eq_true rfl) hb9 hc9) (kcX6_readStep hfl rs l0 l1 l2 m hrs) (fun x4 m3 => ?_)
  refine pm_if_eq (tgt := 51) dX6_readSteps_39 rfl ?_ ?_
  · refine pm_drop (ls2 := [pmU, pmU, pmU, pmU, pmU]) (Nat.le_refl _) (pm_le_spec (pm_le_u (pm_le_u (pm_le_u (pm_le_u (pm_le_u (pm_le_n))))))) ?_
    exact gX6_readSteps_j51 hfl rs m3 hrs
  · refine pm_aload_n dX6_readSteps_42 rfl rfl ?_
    refine pm_bipush (v := 59) dX6_readSteps_43 kb_59 ?_
    refine pm_rcv (fun hb9 hc9 => ?_)
    refine pm_kI (d := d + 8) rfl (pm_VN (y := zX6_readSteps) (z := zX7_takeSign) (As := [.int 59]) zkX7_takeSign pm_q7 (by decide) tw_984 tw_864 tw_45 dX6_readSteps_45 rfl rfl (Nat.le_of_ble_eq_true rfl) hb9 hc9) (kcX7_takeSign (d := d + 7) hfl l1 59 m3) (fun x6 m5 => ?_)
    refine pm_if_ne (tgt := 53) dX6_readSteps_48 rfl ?_ ?_
    · refine pm_iincn (y := zX6_readSteps) dX6_readSteps_53 rfl ki_1 rfl (Nat.le_of_ble_eq_true rfl) (fun x7 => ?_)
      refine pm_eqls (ls2 := [.ref l0, .ref l1, .int l2, .int x7, pmU]) rfl ?_
      refine pm_goto (tgt := 2) dX6_readSteps_56 rfl ?_
      exact hag2 (x7, m5)
    · refine pm_drop (ls2 := [pmU, pmU, pmU, pmU, pmU]) (Nat.le_refl _) (pm_le_spec (pm_le_u (pm_le_u (pm_le_u (pm_le_u (pm_le_u (pm_le_n))))))) ?_
      exact gX6_readSteps_j51 hfl rs m5 hrs
set_option maxRecDepth 100000 in
set_option maxHeartbeats 4000000 in
theorem gX6_readSteps_L2 (hfl : l.flags = flags0) (rs : Nat → Nat → Int32 → pmM → pmR) (l0 : Nat) (l1 : Nat) (l2 : Int32) (hrs : ∀ (j : Nat) (b0 : Nat) (b1 : Nat) (b2 : Int32) (m : pmM), pm_C l Γ zX6_readSteps (d + j + 6) [.ref b0, .ref b1, .int b2] m (rs b0 b1 b2 m)) : ∀ (n : Nat) (s : Int32 × pmM), pm_G l Γ zX6_readSteps (d + 9) 2 [.ref l0, .ref l1, .int l2, .int s.1, pmU] [] s.2 (pm_lp n (X6_readSteps_L2 rs l0 l1 l2) s) :=
  pm_loop (lsf := fun s : Int32 × pmM => [.ref l0, .ref l1, .int l2, .int s.1, pmU]) (mf := fun s : Int32 × pmM => s.2) (fun again2 hag2 s2 => by
    unfold X6_readSteps_L2
    refine pm_iload_n dX6_readSteps_2 rfl rfl ?_
    refine pm_bipush (v := 30) dX6_readSteps_3 kb_30 ?_
    refine pm_icmp_gt (tgt := 59) dX6_readSteps_5 rfl ?_ ?_
    · refine pm_iconst (v := 1) dX6_readSteps_59 ki_1 ?_
      exact pm_nret (ty := .boolean) (w := 1) rfl (by decide) (by decide) dX6_readSteps_60
    · refine pm_aload_n dX6_readSteps_8 rfl rfl ?_
      refine pm_rcv (fun hb9 hc9 => ?_)
      refine pm_kI (d := d + 8) rfl (pm_VN (y := zX6_readSteps) (z := zX7_peek) (As := []) zkX7_peek pm_q7 (by decide) tw_949 tw_766 tw_34 dX6_readSteps_9 rfl rfl (Nat.le_of_ble_eq_true rfl) hb9 hc9) (kcX7_peek (d := d + 8) hfl l1 s2.2) (fun x2 m1 => ?_)
      refine pm_istore (ls2 := [.ref l0, .ref l1, .int l2, .int s2.1, .int x2]) dX6_readSteps_12 rfl (Nat.le_of_ble_eq_true rfl) rfl ?_
      refine pm_iload dX6_readSteps_14 rfl ?_
      refine pm_iconst (v := (-1)) dX6_readSteps_16 ki_n1 ?_
      refine pm_icmp_eq (tgt := 31) dX6_readSteps_17 rfl ?_ ?_
      · refine pm_drop (ls2 := [pmU, pmU, pmU, pmU, pmU]) (Nat.le_refl _) (pm_le_spec (pm_le_u (pm_le_u (pm_le_u (pm_le_u (pm_le_u (pm_le_n))))))) ?_
        exact gX6_readSteps_j31 hfl rs m1 hrs
      · refine pm_iload_n dX6_readSteps_20 rfl rfl ?_
        refine pm_if_le (tgt := 33) dX6_readSteps_21 rfl ?_ ?_
        · refine pm_drop (ls2 := [.ref l0, .ref l1, .int l2, .int s2.1, pmU]) (Nat.le_refl _) (pm_le_spec (pm_le_v (pm_le_v (pm_le_v (pm_le_v (pm_le_u (pm_le_n))))))) ?_
          exact gX6_readSteps_j33 hfl rs again2 l0 l1 l2 s2.1 m1 hrs hag2
        · refine pm_iload dX6_readSteps_24 rfl ?_
          refine pm_bipush (v := 93) dX6_readSteps_26 kb_93 ?_
          refine pm_icmp_ne (tgt := 33) dX6_readSteps_28 rfl ?_ ?_
          · refine pm_drop (ls2 := [.ref l0, .ref l1, .int l2, .int s2.1, pmU]) (Nat.le_refl _) (pm_le_spec (pm_le_v (pm_le_v (pm_le_v (pm_le_v (pm_le_u (pm_le_n))))))) ?_
            exact gX6_readSteps_j33 hfl rs again2 l0 l1 l2 s2.1 m1 hrs hag2
          · refine pm_drop (ls2 := [pmU, pmU, pmU, pmU, pmU]) (Nat.le_refl _) (pm_le_spec (pm_le_u (pm_le_u (pm_le_u (pm_le_u (pm_le_u (pm_le_n))))))) ?_
            exact gX6_readSteps_j31 hfl rs m1 hrs)
set_option maxRecDepth 100000 in
set_option maxHeartbeats 4000000 in
theorem kcX6_readSteps (hfl : l.flags = flags0) (rs : Nat → Nat → Int32 → pmM → pmR) (a0 : Nat) (a1 : Nat) (a2 : Int32) (m : pmM) (hrs : ∀ (j : Nat) (b0 : Nat) (b1 : Nat) (b2 : Int32) (m : pmM), pm_C l Γ zX6_readSteps (d + j + 6) [.ref b0, .ref b1, .int b2] m (rs b0 b1 b2 m)) : pm_C l Γ zX6_readSteps (d + 9) [.ref a0, .ref a1, .int a2] m (X6_readSteps rs a0 a1 a2 m) := by
  refine pm_enter (ls := [.ref a0, .ref a1, .int a2, pmU, pmU]) hfl (by decide +kernel) rfl (Nat.le_of_ble_eq_true rfl) rfl (Nat.le_of_ble_eq_true rfl) ?_
  unfold X6_readSteps
  refine pm_iconst (v := 0) dX6_readSteps_0 ki_0 ?_
  refine pm_istore_n (ls2 := [.ref a0, .ref a1, .int a2, .int 0, pmU]) dX6_readSteps_1 rfl rfl (Nat.le_of_ble_eq_true rfl) rfl ?_
  exact gX6_readSteps_L2 hfl rs a0 a1 a2 hrs pm_N (0, m)
set_option maxRecDepth 100000 in
set_option maxHeartbeats 4000000 in
theorem kcX6_readSteps_N0 (hfl : l.flags = flags0) : ∀ (n d : Nat) (b0 : Nat) (b1 : Nat) (b2 : Int32) (m : pmM), pm_C l Γ zX6_readSteps (d + 6 + 3 * n) [.ref b0, .ref b1, .int b2] m (X6_readSteps_N n b0 b1 b2 m)
  | 0, d, b0, b1, b2, m => fun o m9 h => by cases h
  | n + 1, d, b0, b1, b2, m => by
    have h := kcX6_readSteps (d := d + 3 * n) hfl (X6_readSteps_N n) b0 b1 b2 m (fun j b0 b1 b2 m => by
      have h2 := kcX6_readSteps_N0 hfl n (d + j) b0 b1 b2 m
      rw [show d + 3 * n + j + 6 = d + j + 6 + 3 * n by omega]
      exact h2)
    rw [show d + 6 + 3 * (n + 1) = d + 3 * n + 9 by omega]
    exact h
theorem kcX6_readSteps_N (hfl : l.flags = flags0) (n : Nat) (b0 : Nat) (b1 : Nat) (b2 : Int32) (m : pmM) : pm_C l Γ zX6_readSteps (d + 6 + 3 * n) [.ref b0, .ref b1, .int b2] m (X6_readSteps_N n b0 b1 b2 m) := kcX6_readSteps_N0 hfl n d b0 b1 b2 m
-- StruckPage$Steps.readFrom(LStruckPage$Text;I)Z
def X6_readFrom_j44 (t0 : Int32) (m : pmM) : pmR := pm_oI (vp_nar .boolean t0) m
def X6_readFrom_j43 (m : pmM) : pmR := X6_readFrom_j44 0 m
def X6_readFrom_j39 (m : pmM) : pmR := X6_readFrom_j44 1 m
def X6_readFrom (a0 : Nat) (a1 : Nat) (a2 : Int32) (m : pmM) : pmR := pm_pI 6 a0 5 0 m fun m1 => pm_pI 6 a0 6 a2 m1 fun m2 => pm_rc 6 a0 m2 <| pm_cI (X6_readSteps_N 10 a0 a1 0 m2) fun x4 m3 => if x4 = 0 then (X6_readFrom_j43 m3) else (pm_rc 7 a1 m3 <| pm_cI (X7_peek a1 m3) fun x6 m5 => if x6 = (-1) then (X6_readFrom_j39 m5) else (pm_gI 7 a1 3 m5 fun x7 => pm_rc 7 a1 m5 <| pm_cI (X7_fail a1 1 x7 m5) fun x9 m8 => if x9 = 0 then (X6_readFrom_j43 m8) else (X6_readFrom_j39 m8)))
set_option maxRecDepth 100000 in
set_option maxHeartbeats 4000000 in
theorem gX6_readFrom_j44 (hfl : l.flags = flags0) (t0 : Int32) (m : pmM) : pm_G l Γ zX6_readFrom (d + 37) 44 [pmU, pmU, pmU] [.int t0] m (X6_readFrom_j44 t0 m) := by
  unfold X6_readFrom_j44
  exact pm_nret (ty := .boolean) (w := vp_nar .boolean t0) rfl (by decide) rfl dX6_readFrom_44
set_option maxRecDepth 100000 in
set_option maxHeartbeats 4000000 in
theorem gX6_readFrom_j43 (hfl : l.flags = flags0) (m : pmM) : pm_G l Γ zX6_readFrom (d + 37) 43 [pmU, pmU, pmU] [] m (X6_readFrom_j43 m) := by
  unfold X6_readFrom_j43
  refine pm_iconst (v := 0) dX6_readFrom_43 ki_0 ?_
  exact gX6_readFrom_j44 hfl 0 m
set_option maxRecDepth 100000 in
set_option maxHeartbeats 4000000 in
theorem gX6_readFrom_j39 (hfl : l.flags = flags0) (m : pmM) : pm_G l Γ zX6_readFrom (d + 37) 39 [pmU, pmU, pmU] [] m (X6_readFrom_j39 m) := by
  unfold X6_readFrom_j39
  refine pm_iconst (v := 1) dX6_readFrom_39 ki_1 ?_
  refine pm_goto (tgt := 44) dX6_readFrom_40 rfl ?_
  exact gX6_readFrom_j44 hfl 1 m
set_option maxRecDepth 100000 in
set_option maxHeartbeats 4000000 in
theorem kcX6_readFrom (hfl : l.flags = flags0) (a0 : Nat) (a1 : Nat) (a2 : Int32) (m : pmM) : pm_C l Γ zX6_readFrom (d + 37) [.ref a0, .ref a1, .int a2] m (X6_readFrom a0 a1 a2 m) := by
  refine pm_enter (ls := [.ref a0, .ref a1, .int a2]) hfl (by decide +kernel) rfl (Nat.le_of_ble_eq_true rfl) rfl (Nat.le_of_ble_eq_true rfl) ?_
  unfold X6_readFrom
  refine pm_aload_n dX6_readFrom_0 rfl rfl ?_
  refine pm_iconst (v := 0) dX6_readFrom_1 ki_0 ?_
  refine fp_6_5 (y := zX6_readFrom) (Or.inl tw_323) dX6_readFrom_2 (fun m1 => ?_)
  refine pm_aload_n dX6_readFrom_5 rfl rfl ?_
  refine pm_iload_n dX6_readFrom_6 rfl rfl ?_
  refine fp_6_6 (y := zX6_readFrom) (Or.inl tw_325) dX6_readFrom_7 (fun m2 => ?_)
  refine pm_aload_n dX6_readFrom_10 rfl rfl ?_
  refine pm_aload_n dX6_readFrom_11 rfl rfl ?_
  refine pm_iconst (v := 0) dX6_readFrom_12 ki_0 ?_
  refine pm_rcv (fun hb9 hc9 => ?_)
  refine pm_kI (d := d + 36) rfl (pm_V (y := zX6_readFrom) (z := zX6_readSteps) (As := [.ref a1, .int 0]) zkX6_readSteps pm_q6 (by decide) tw_945 tw_947 tw_57 dX6_readFrom_13 rfl rfl (Nat.le_of_ble_eq_true rfl) hb9 hc9) (pm_Cd (by omega) (kcX6_readSteps_N (d := d + 0) hfl 10 a0 a1 0 m2)) (fun x4 m3 => ?_)
  refine pm_if_eq (tgt := 43) dX6_readFrom_16 rfl ?_ ?_
  · refine pm_drop (ls2 := [pmU, pmU, pmU]) (Nat.le_refl _) (pm_le_spec (pm_le_u (pm_le_u (pm_le_u (pm_le_n))))) ?_
    exact gX6_readFrom_j43 hfl m3
  · refine pm_aload_n dX6_readFrom_19 rfl rfl ?_
    refine pm_rcv (fun hb9 hc9 => ?_)
    refine pm_kI (d := d + 36) rfl (pm_VN (y := zX6_readFrom) (z := zX7_peek) (As := []) zkX7_peek pm_q7 (by decide) tw_949 tw_766 tw_34 dX6_readFrom_20 rfl rfl (Nat.le_of_ble_eq_true rfl) hb9 hc9) (kcX7_peek (d := d + 36) hfl a1 m3) (fun x6 m5 => ?_)
    refine pm_iconst (v := (-1)) dX6_readFrom_23 ki_n1 ?_
    refine pm_icmp_eq (tgt := 39) dX6_readFrom_24 rfl ?_ ?_
    · refine pm_drop (ls2 := [pmU, pmU, pmU]) (Nat.le_refl _) (pm_le_spec (pm_le_u (pm_le_u (pm_le_u (pm_le_n))))) ?_
      exact gX6_readFrom_j39 hfl m5
    · refine pm_aload_n dX6_readFrom_27 rfl rfl ?_
      refine pm_iconst (v := 1) dX6_readFrom_28 ki_1 ?_
      refine pm_aload_n dX6_readFrom_29 rfl rfl ?_
      refine fg_7_3 (y := zX6_readFrom) (Or.inr tw_196) dX6_readFrom_30 (fun x7 => ?_)
      refine pm_rcv (fun hb9 hc9 => ?_)
      refine pm_kI (d := d + 36) rfl (pm_VN (y := zX6_readFrom) (z := zX7_fail) (As := [.int 1, .int x7]) zkX7_fail pm_q7 (by decide) tw_966 tw_783 tw_38 dX6_readFrom_33 rfl rfl (Nat.le_of_ble_eq_true rfl) hb9 hc9) (kcX7_fail (d := d + 36) hfl a1 1 x7 m5) (fun x9 m8 => ?_)
      refine pm_if_eq (tgt := 43) dX6_readFrom_36 rfl ?_ ?_
      · refine pm_drop (ls2 := [pmU, pmU, pmU]) (Nat.le_refl _) (pm_le_spec (pm_le_u (pm_le_u (pm_le_u (pm_le_n))))) ?_
        exact gX6_readFrom_j43 hfl m8
      · refine pm_drop (ls2 := [pmU, pmU, pmU]) (Nat.le_refl _) (pm_le_spec (pm_le_u (pm_le_u (pm_le_u (pm_le_n))))) ?_
        exact gX6_readFrom_j39 hfl m8
-- StruckPage$Steps.countAnew()V
def X6_countAnew (a0 : Nat) (m : pmM) : pmR := pm_pI 6 a0 7 0 m fun m1 => pm_pI 6 a0 8 0 m1 fun m2 => pm_pI 6 a0 9 0 m2 fun m3 => pm_oV m3
set_option maxRecDepth 100000 in
set_option maxHeartbeats 4000000 in
theorem kcX6_countAnew (hfl : l.flags = flags0) (a0 : Nat) (m : pmM) : pm_C l Γ zX6_countAnew (d + 0) [.ref a0] m (X6_countAnew a0 m) := by
  refine pm_enter (ls := [.ref a0]) hfl (by decide +kernel) rfl (Nat.le_of_ble_eq_true rfl) rfl (Nat.le_of_ble_eq_true rfl) ?_
  unfold X6_countAnew
  refine pm_aload_n dX6_countAnew_0 rfl rfl ?_
  refine pm_iconst (v := 0) dX6_countAnew_1 ki_0 ?_
  refine fp_6_7 (y := zX6_countAnew) (Or.inl tw_326) dX6_countAnew_2 (fun m1 => ?_)
  refine pm_aload_n dX6_countAnew_5 rfl rfl ?_
  refine pm_iconst (v := 0) dX6_countAnew_6 ki_0 ?_
  refine fp_6_8 (y := zX6_countAnew) (Or.inl tw_328) dX6_countAnew_7 (fun m2 => ?_)
  refine pm_aload_n dX6_countAnew_10 rfl rfl ?_
  refine pm_iconst (v := 0) dX6_countAnew_11 ki_0 ?_
  refine fp_6_9 (y := zX6_countAnew) (Or.inl tw_330) dX6_countAnew_12 (fun m3 => ?_)
  exact pm_vret rfl dX6_countAnew_15
-- StruckPage$Steps.doStep(LStruckPage$Desk;I)Z
def X6_doStep (a0 : Nat) (a1 : Nat) (a2 : Int32) (m : pmM) : pmR := pm_gR 6 a0 1 m fun r1 => pm_ld 100 r1 a2 m fun x2 => pm_gR 6 a0 0 m fun r3 => pm_ld 100 r3 a2 m fun x4 => if x4 = (0 : Int32) then (pm_gR 6 a0 2 m fun r5 => pm_ld 100 r5 a2 m fun x6 => pm_gR 6 a0 3 m fun r7 => pm_ld 100 r7 a2 m fun x8 => pm_rc 0 a1 m <| pm_cI (X0_strike a1 x2 x6 x8 m) fun x10 m9 => pm_oI (vp_nar .boolean x10) m9) else if x4 = (1 : Int32) then (pm_rc 0 a1 m <| pm_cI (X0_runOn a1 x2 m) fun x12 m11 => pm_oI (vp_nar .boolean x12) m11) else if x4 = (2 : Int32) then (pm_rc 0 a1 m <| pm_cI (X0_beginAgain a1 m) fun x14 m13 => pm_oI (vp_nar .boolean x14) m13) else if x4 = (3 : Int32) then (pm_rc 0 a1 m <| pm_cI (X0_fillUp a1 x2 m) fun x16 m15 => pm_oI (vp_nar .boolean x16) m15) else if x4 = (4 : Int32) then (pm_rc 0 a1 m <| pm_cI (X0_wipeAll a1 m) fun x18 m17 => pm_oI (vp_nar .boolean x18) m17) else (pm_gR 6 a0 2 m fun r19 => pm_ld 100 r19 a2 m fun x20 => pm_rc 0 a1 m <| pm_cI (X0_setCell a1 x2 x20 m) fun x22 m21 => pm_oI (vp_nar .boolean x22) m21)
set_option maxRecDepth 100000 in
set_option maxHeartbeats 4000000 in
theorem kcX6_doStep (hfl : l.flags = flags0) (a0 : Nat) (a1 : Nat) (a2 : Int32) (m : pmM) : pm_C l Γ zX6_doStep (d + 4) [.ref a0, .ref a1, .int a2] m (X6_doStep a0 a1 a2 m) := by
  refine pm_enter (ls := [.ref a0, .ref a1, .int a2, pmU]) hfl (by decide +kernel) rfl (Nat.le_of_ble_eq_true rfl) rfl (Nat.le_of_ble_eq_true rfl) ?_
  unfold X6_doStep
  refine pm_aload_n dX6_doStep_0 rfl rfl ?_
  refine fg_6_1 (y := zX6_doStep) (Or.inl tw_319) dX6_doStep_1 (fun r1 => ?_)
  refine pm_iload_n dX6_doStep_4 rfl rfl ?_
  refine pm_iald (y := zX6_doStep) dX6_doStep_5 (fun x2 => ?_)
  refine pm_istore_n (ls2 := [.ref a0, .ref a1, .int a2, .int x2]) dX6_doStep_6 rfl rfl (Nat.le_of_ble_eq_true rfl) rfl ?_
  refine pm_aload_n dX6_doStep_7 rfl rfl ?_
  refine fg_6_0 (y := zX6_doStep) (Or.inl tw_318) dX6_doStep_8 (fun r3 => ?_)
  refine pm_iload_n dX6_doStep_11 rfl rfl ?_
  refine pm_iald (y := zX6_doStep) dX6_doStep_12 (fun x4 => ?_)
  refine pm_case (c := (0 : Int32)) (fun h9 => ?_) (fun h9_0 => ?_)
  · refine pm_swIn (off := (35)) (tgt := 48) dX6_doStep_13 (by rw [h9]; decide) (by rw [h9]; decide) (by rw [h9]; decide) (by decide) ?_
    refine pm_aload_n dX6_doStep_48 rfl rfl ?_
    refine pm_iload_n dX6_doStep_49 rfl rfl ?_
    refine pm_aload_n dX6_doStep_50 rfl rfl ?_
    refine fg_6_2 (y := zX6_doStep) (Or.inl tw_320) dX6_doStep_51 (fun r5 => ?_)
    refine pm_iload_n dX6_doStep_54 rfl rfl ?_
    refine pm_iald (y := zX6_doStep) dX6_doStep_55 (fun x6 => ?_)
    refine pm_aload_n dX6_doStep_56 rfl rfl ?_
    refine fg_6_3 (y := zX6_doStep) (Or.inl tw_321) dX6_doStep_57 (fun r7 => ?_)
    refine pm_iload_n dX6_doStep_60 rfl rfl ?_
    refine pm_iald (y := zX6_doStep) dX6_doStep_61 (fun x8 => ?_)
    refine pm_rcv (fun hb9 hc9 => ?_)
    refine pm_kI (d := d + 3) rfl (pm_VN (y := zX6_doStep) (z := zX0_strike) (As := [.int x2, .int x6, .int x8]) zkX0_strike pm_q0 (by decide) tw_1001 tw_1003 tw_67 dX6_doStep_62 rfl rfl (Nat.le_of_ble_eq_true rfl) hb9 hc9) (kcX0_strike (d := d + 0) hfl a1 x2 x6 x8 m) (fun x10 m9 => ?_)
    exact pm_nret (ty := .boolean) (w := vp_nar .boolean x10) rfl (by decide) rfl dX6_doStep_65
  refine pm_case (c := (1 : Int32)) (fun h9 => ?_) (fun h9_1 => ?_)
  · refine pm_swIn (off := (53)) (tgt := 66) dX6_doStep_13 (by rw [h9]; decide) (by rw [h9]; decide) (by rw [h9]; decide) (by decide) ?_
    refine pm_aload_n dX6_doStep_66 rfl rfl ?_
    refine pm_iload_n dX6_doStep_67 rfl rfl ?_
    refine pm_rcv (fun hb9 hc9 => ?_)
    refine pm_kI (d := d + 3) rfl (pm_VN (y := zX6_doStep) (z := zX0_runOn) (As := [.int x2]) zkX0_runOn pm_q0 (by decide) tw_1021 tw_1023 tw_70 dX6_doStep_68 rfl rfl (Nat.le_of_ble_eq_true rfl) hb9 hc9) (kcX0_runOn (d := d + 0) hfl a1 x2 m) (fun x12 m11 => ?_)
    exact pm_nret (ty := .boolean) (w := vp_nar .boolean x12) rfl (by decide) rfl dX6_doStep_71
  refine pm_case (c := (2 : Int32)) (fun h9 => ?_) (fun h9_2 => ?_)
  · refine pm_swIn (off := (59)) (tgt := 72) dX6_doStep_13 (by rw [h9]; decide) (by rw [h9]; decide) (by rw [h9]; decide) (by decide) ?_
    refine pm_aload_n dX6_doStep_72 rfl rfl ?_
    refine pm_rcv (fun hb9 hc9 => ?_)
    refine pm_kI (d := d + 3) rfl (pm_VN (y := zX6_doStep) (z := zX0_beginAgain) (As := []) zkX0_beginAgain pm_q0 (by decide) tw_1026 tw_1028 tw_71 dX6_doStep_73 rfl rfl (Nat.le_of_ble_eq_true rfl) hb9 hc9) (kcX0_beginAgain (d := d + 3) hfl a1 m) (fun x14 m13 => ?_)
    exact pm_nret (ty := .boolean) (w := vp_nar .boolean x14) rfl (by decide) rfl dX6_doStep_76
  refine pm_case (c := (3 : Int32)) (fun h9 => ?_) (fun h9_3 => ?_)
  · refine pm_swIn (off := (64)) (tgt := 77) dX6_doStep_13 (by rw [h9]; decide) (by rw [h9]; decide) (by rw [h9]; decide) (by decide) ?_
    refine pm_aload_n dX6_doStep_77 rfl rfl ?_
    refine pm_iload_n dX6_doStep_78 rfl rfl ?_
    refine pm_rcv (fun hb9 hc9 => ?_)
    refine pm_kI (d := d + 3) rfl (pm_VN (y := zX6_doStep) (z := zX0_fillUp) (As := [.int x2]) zkX0_fillUp pm_q0 (by decide) tw_1030 tw_1032 tw_72 dX6_doStep_79 rfl rfl (Nat.le_of_ble_eq_true rfl) hb9 hc9) (kcX0_fillUp (d := d + 3) hfl a1 x2 m) (fun x16 m15 => ?_)
    exact pm_nret (ty := .boolean) (w := vp_nar .boolean x16) rfl (by decide) rfl dX6_doStep_82
  refine pm_case (c := (4 : Int32)) (fun h9 => ?_) (fun h9_4 => ?_)
  · refine pm_swIn (off := (70)) (tgt := 83) dX6_doStep_13 (by rw [h9]; decide) (by rw [h9]; decide) (by rw [h9]; decide) (by decide) ?_
    refine pm_aload_n dX6_doStep_83 rfl rfl ?_
    refine pm_rcv (fun hb9 hc9 => ?_)
    refine pm_kI (d := d + 3) rfl (pm_VN (y := zX6_doStep) (z := zX0_wipeAll) (As := []) zkX0_wipeAll pm_q0 (by decide) tw_1034 tw_1036 tw_73 dX6_doStep_84 rfl rfl (Nat.le_of_ble_eq_true rfl) hb9 hc9) (kcX0_wipeAll (d := d + 3) hfl a1 m) (fun x18 m17 => ?_)
    exact pm_nret (ty := .boolean) (w := vp_nar .boolean x18) rfl (by decide) rfl dX6_doStep_87
  refine pm_swOut (tgt := 88) dX6_doStep_13 (pm_swx x4 (0) 5 (lt_s (lt_s (lt_s (lt_s (lt_s (lt_0) (pm_ne h9_0 (by decide))) (pm_ne h9_1 (by decide))) (pm_ne h9_2 (by decide))) (pm_ne h9_3 (by decide))) (pm_ne h9_4 (by decide)))) (by decide) ?_
  refine pm_aload_n dX6_doStep_88 rfl rfl ?_
  refine pm_iload_n dX6_doStep_89 rfl rfl ?_
  refine pm_aload_n dX6_doStep_90 rfl rfl ?_
  refine fg_6_2 (y := zX6_doStep) (Or.inl tw_320) dX6_doStep_91 (fun r19 => ?_)
  refine pm_iload_n dX6_doStep_94 rfl rfl ?_
  refine pm_iald (y := zX6_doStep) dX6_doStep_95 (fun x20 => ?_)
  refine pm_rcv (fun hb9 hc9 => ?_)
  refine pm_kI (d := d + 3) rfl (pm_VN (y := zX6_doStep) (z := zX0_setCell) (As := [.int x2, .int x20]) zkX0_setCell pm_q0 (by decide) tw_1038 tw_1040 tw_74 dX6_doStep_96 rfl rfl (Nat.le_of_ble_eq_true rfl) hb9 hc9) (kcX0_setCell (d := d + 3) hfl a1 x2 x20 m) (fun x22 m21 => ?_)
  exact pm_nret (ty := .boolean) (w := vp_nar .boolean x22) rfl (by decide) rfl dX6_doStep_99
-- StruckPage$Steps.countStep(Z)V
def X6_countStep_j27 (m : pmM) : pmR := pm_oV m
def X6_countStep (a0 : Nat) (a1 : Int32) (m : pmM) : pmR := if a1 = 0 then (pm_gI 6 a0 9 m fun x1 => pm_pI 6 a0 9 (x1 + 1) m fun m2 => X6_countStep_j27 m2) else (pm_gI 6 a0 8 m fun x3 => pm_pI 6 a0 8 (x3 + 1) m fun m4 => X6_countStep_j27 m4)
set_option maxRecDepth 100000 in
set_option maxHeartbeats 4000000 in
theorem gX6_countStep_j27 (hfl : l.flags = flags0) (m : pmM) : pm_G l Γ zX6_countStep (d + 0) 27 [pmU, pmU] [] m (X6_countStep_j27 m) := by
  unfold X6_countStep_j27
  exact pm_vret rfl dX6_countStep_27
set_option maxRecDepth 100000 in
set_option maxHeartbeats 4000000 in
theorem kcX6_countStep (hfl : l.flags = flags0) (a0 : Nat) (a1 : Int32) (m : pmM) : pm_C l Γ zX6_countStep (d + 0) [.ref a0, .int a1] m (X6_countStep a0 a1 m) := by
  refine pm_enter (ls := [.ref a0, .int a1]) hfl (by decide +kernel) rfl (Nat.le_of_ble_eq_true rfl) rfl (Nat.le_of_ble_eq_true rfl) ?_
  unfold X6_countStep
  refine pm_iload_n dX6_countStep_0 rfl rfl ?_
  refine pm_if_eq (tgt := 17) dX6_countStep_1 rfl ?_ ?_
  · refine pm_aload_n dX6_countStep_17 rfl rfl ?_
    refine pm_dup dX6_countStep_18 rfl ?_
    refine fg_6_9 (y := zX6_countStep) (Or.inl tw_330) dX6_countStep_19 (fun x1 => ?_)
    refine pm_iconst (v := 1) dX6_countStep_22 ki_1 ?_
    refine pm_iadd dX6_countStep_23 ?_
    refine fp_6_9 (y := zX6_countStep) (Or.inl tw_330) dX6_countStep_24 (fun m2 => ?_)
    refine pm_drop (ls2 := [pmU, pmU]) (Nat.le_refl _) (pm_le_spec (pm_le_u (pm_le_u (pm_le_n)))) ?_
    exact gX6_countStep_j27 hfl m2
  · refine pm_aload_n dX6_countStep_4 rfl rfl ?_
    refine pm_dup dX6_countStep_5 rfl ?_
    refine fg_6_8 (y := zX6_countStep) (Or.inl tw_328) dX6_countStep_6 (fun x3 => ?_)
    refine pm_iconst (v := 1) dX6_countStep_9 ki_1 ?_
    refine pm_iadd dX6_countStep_10 ?_
    refine fp_6_8 (y := zX6_countStep) (Or.inl tw_328) dX6_countStep_11 (fun m4 => ?_)
    refine pm_goto (tgt := 27) dX6_countStep_14 rfl ?_
    refine pm_drop (ls2 := [pmU, pmU]) (Nat.le_refl _) (pm_le_spec (pm_le_u (pm_le_u (pm_le_n)))) ?_
    exact gX6_countStep_j27 hfl m4
-- StruckPage$Steps.doSteps(LStruckPage$Desk;III)V
def X6_doSteps_j133 (rs : Nat → Nat → Int32 → Int32 → Int32 → pmM → pmR) (m : pmM) : pmR := pm_oV m
def X6_doSteps_j114 (rs : Nat → Nat → Int32 → Int32 → Int32 → pmM → pmR) (again11 : (Int32 × pmM) → pmR) (l0 : Nat) (l1 : Nat) (l3 : Int32) (l4 : Int32) (l5 : Int32) (m : pmM) : pmR := pm_gR 6 l0 4 m fun r8 => pm_ld 100 r8 l5 m fun x9 => pm_bI (if (l5 + 1) < x9 then x9 else (l5 + 1)) fun x10 => again11 (x10, m)
def X6_doSteps_L66 (rs : Nat → Nat → Int32 → Int32 → Int32 → pmM → pmR) (again11 : (Int32 × pmM) → pmR) (l0 : Nat) (l1 : Nat) (l3 : Int32) (l4 : Int32) (l5 : Int32) (again66 : (Int32 × pmM) → pmR) (s66 : Int32 × pmM) : pmR := pm_gR 6 l0 1 s66.2 fun r6 => pm_ld 100 r6 l5 s66.2 fun x7 => if x7 ≤ s66.1 then (X6_doSteps_j114 rs again11 l0 l1 l3 l4 l5 s66.2) else (pm_gI 6 l0 7 s66.2 fun x11 => if (200 : Int32) ≤ x11 then (X6_doSteps_j114 rs again11 l0 l1 l3 l4 l5 s66.2) else (pm_gR 6 l0 4 s66.2 fun r12 => pm_ld 100 r12 l5 s66.2 fun x13 => pm_rc 6 l0 s66.2 <| pm_cV (rs l0 l1 (l5 + 1) x13 (l4 + 1) s66.2) fun m14 => pm_bI (s66.1 + 1) fun x15 => again66 (x15, m14)))
def X6_doSteps_L11 (rs : Nat → Nat → Int32 → Int32 → Int32 → pmM → pmR) (l0 : Nat) (l1 : Nat) (l3 : Int32) (l4 : Int32) (again11 : (Int32 × pmM) → pmR) (s11 : Int32 × pmM) : pmR := if l3 ≤ s11.1 then (X6_doSteps_j133 rs s11.2) else (pm_gI 6 l0 7 s11.2 fun x1 => if (200 : Int32) ≤ x1 then (X6_doSteps_j133 rs s11.2) else (pm_gI 6 l0 7 s11.2 fun x2 => pm_pI 6 l0 7 (x2 + 1) s11.2 fun m3 => pm_gR 6 l0 0 m3 fun r4 => pm_ld 100 r4 s11.1 m3 fun x5 => if x5 = 6 then (pm_lp pm_N (X6_doSteps_L66 rs again11 l0 l1 l3 l4 s11.1) (0, m3)) else (pm_rc 6 l0 m3 <| pm_cI (X6_doStep l0 l1 s11.1 m3) fun x17 m16 => pm_rc 6 l0 m16 <| pm_cV (X6_countStep l0 x17 m16) fun m18 => X6_doSteps_j114 rs again11 l0 l1 l3 l4 s11.1 m18)))
def X6_doSteps (rs : Nat → Nat → Int32 → Int32 → Int32 → pmM → pmR) (a0 : Nat) (a1 : Nat) (a2 : Int32) (a3 : Int32) (a4 : Int32) (m : pmM) : pmR := if a4 ≤ 6 then (pm_lp pm_N (X6_doSteps_L11 rs a0 a1 a3 a4) (a2, m)) else (pm_oV m)
def X6_doSteps_N : Nat → Nat → Nat → Int32 → Int32 → Int32 → pmM → pmR
  | 0 => fun _ _ _ _ _ _ => none
  | n + 1 => X6_doSteps (X6_doSteps_N n)
set_option maxRecDepth 100000 in
set_option maxHeartbeats 4000000 in
theorem gX6_doSteps_j133 (hfl : l.flags = flags0) (rs : Nat → Nat → Int32 → Int32 → Int32 → pmM → pmR) (m : pmM) (hrs : ∀ (j : Nat) (b0 : Nat) (b1 : Nat) (b2 : Int32) (b3 : Int32) (b4 : Int32) (m : pmM), pm_C l Γ zX6_doSteps (d + j + 4) [.ref b0, .ref b1, .int b2, .int b3, .int b4] m (rs b0 b1 b2 b3 b4 m)) : pm_G l Γ zX6_doSteps (d + 5) 133 [pmU, pmU, pmU, pmU, pmU, pmU, pmU] [] m (X6_doSteps_j133 rs m) := by
  unfold X6_doSteps_j133
  exact pm_vret rfl dX6_doSteps_133
set_option maxRecDepth 100000 in
set_option maxHeartbeats 4000000 in
theorem gX6_doSteps_j114 (hfl : l.flags = flags0) (rs : Nat → Nat → Int32 → Int32 → Int32 → pmM → pmR) (again11 : (Int32 × pmM) → pmR) (l0 : Nat) (l1 : Nat) (l3 : Int32) (l4 : Int32) (l5 : Int32) (m : pmM) (hrs : ∀ (j : Nat) (b0 : Nat) (b1 : Nat) (b2 : Int32) (b3 : Int32) (b4 : Int32) (m : pmM), pm_C l Γ zX6_doSteps (d + j + 4) [.ref b0, .ref b1, .int b2, .int b3, .int b4] m (rs b0 b1 b2 b3 b4 m)) (hag11 : ∀ s : Int32 × pmM, pm_G l Γ zX6_doSteps (d + 5) 11 [.ref l0, .ref l1, pmU, .int l3, .int l4, .int s.1, pmU] [] s.2 (again11 s)) : pm_G l Γ zX6_doSteps (d + 5) 114 [.ref l0, .ref l1, pmU, .int l3, .int l4, .int l5, pmU] [] m (X6_doSteps_j114 rs again11 l0 l1 l3 l4 l5 m) := by
  unfold X6_doSteps_j114
  refine pm_iload dX6_doSteps_114 rfl ?_
  refine pm_iconst (v := 1) dX6_doSteps_116 ki_1 ?_
  refine pm_iadd dX6_doSteps_117 ?_
  refine pm_aload_n dX6_doSteps_118 rfl rfl ?_
  refine fg_6_4 (y := zX6_doSteps) (Or.inl tw_322) dX6_doSteps_119 (fun r8 => ?_)
  refine pm_iload dX6_doSteps_122 rfl ?_
  refine pm_iald (y := zX6_doSteps) dX6_doSteps_124 (fun x9 => ?_)
  refine pm_max (y := zX6_doSteps) tw_1047 tw_593 tw_171 tw_594 dX6_doSteps_125 (Nat.le_of_ble_eq_true rfl) ?_
  refine pm_bIn (fun x10 => ?_)
  refine pm_istore (ls2 := [.ref l0, .ref l1, pmU, .int l3, .int l4, .int x10, pmU]) dX6_doSteps_128 rfl (Nat.le_of_ble_eq_true rfl) rfl ?_
  refine pm_goto (tgt := 11) dX6_doSteps_130 rfl ?_
  exact hag11 (x10, m)
set_option maxRecDepth 100000 in
set_option maxHeartbeats 4000000 in
theorem gX6_doSteps_L66 (hfl : l.flags = flags0) (rs : Nat → Nat → Int32 → Int32 → Int32 → pmM → pmR) (again11 : (Int32 × pmM) → pmR) (l0 : Nat) (l1 : Nat) (l3 : Int32) (l4 : Int32) (l5 : Int32) (hrs : ∀ (j : Nat) (b0 : Nat) (b1 : Nat) (b2 : Int32) (b3 : Int32) (b4 : Int32) (m : pmM), pm_C l Γ zX6_doSteps (d + j + 4) [.ref b0, .ref b1, .int b2, .int b3, .int b4] m (rs b0 b1 b2 b3 b4 m)) (hag11 : ∀ s : Int32 × pmM, pm_G l Γ zX6_doSteps (d + 5) 11 [.ref l0, .ref l1, pmU, .int l3, .int l4, .int s.1, pmU] [] s.2 (again11 s)) : ∀ (n : Nat) (s : Int32 × pmM), pm_G l Γ zX6_doSteps (d + 5) 66 [.ref l0, .ref l1, pmU, .int l3, .int l4, .int l5, .int s.1] [] s.2 (pm_lp n (X6_doSteps_L66 rs again11 l0 l1 l3 l4 l5) s) :=
  pm_loop (lsf := fun s : Int32 × pmM => [.ref l0, .ref l1, pmU, .int l3, .int l4, .int l5, .int s.1]) (mf := fun s : Int32 × pmM => s.2) (fun again66 hag66 s66 => by
    unfold X6_doSteps_L66
    refine pm_iload dX6_doSteps_66 rfl ?_
    refine pm_aload_n dX6_doSteps_68 rfl rfl ?_
    refine fg_6_1 (y := zX6_doSteps) (Or.inl tw_319) dX6_doSteps_69 (fun r6 => ?_)
    refine pm_iload dX6_doSteps_72 rfl ?_
    refine pm_iald (y := zX6_doSteps) dX6_doSteps_74 (fun x7 => ?_)
    refine pm_icmp_ge (tgt := 114) dX6_doSteps_75 rfl ?_ ?_
    · refine pm_drop (ls2 := [.ref l0, .ref l1, pmU, .int l3, .int l4, .int l5, pmU]) (Nat.le_refl _) (pm_le_spec (pm_le_v (pm_le_v (pm_le_u (pm_le_v (pm_le_v (pm_le_v (pm_le_u (pm_le_n))))))))) ?_
      exact gX6_doSteps_j114 hfl rs again11 l0 l1 l3 l4 l5 s66.2 hrs hag11
    · refine pm_aload_n dX6_doSteps_78 rfl rfl ?_
      refine fg_6_7 (y := zX6_doSteps) (Or.inl tw_326) dX6_doSteps_79 (fun x11 => ?_)
      refine pm_sipush (v := 200) dX6_doSteps_82 ks_200 ?_
      refine pm_icmp_ge (tgt := 114) dX6_doSteps_85 rfl ?_ ?_
      · refine pm_drop (ls2 := [.ref l0, .ref l1, pmU, .int l3, .int l4, .int l5, pmU]) (Nat.le_refl _) (pm_le_spec (pm_le_v (pm_le_v (pm_le_u (pm_le_v (pm_le_v (pm_le_v (pm_le_u (pm_le_n))))))))) ?_
        exact gX6_doSteps_j114 hfl rs again11 l0 l1 l3 l4 l5 s66.2 hrs hag11
      · refine pm_aload_n dX6_doSteps_88 rfl rfl ?_
        refine pm_aload_n dX6_doSteps_89 rfl rfl ?_
        refine pm_iload dX6_doSteps_90 rfl ?_
        refine pm_iconst (v := 1) dX6_doSteps_92 ki_1 ?_
        refine pm_iadd dX6_doSteps_93 ?_
        refine pm_aload_n dX6_doSteps_94 rfl rfl ?_
        refine fg_6_4 (y := zX6_doSteps) (Or.inl tw_322) dX6_doSteps_95 (fun r12 => ?_)
        refine pm_iload dX6_doSteps_98 rfl ?_
        refine pm_iald (y := zX6_doSteps) dX6_doSteps_100 (fun x13 => ?_)
        refine pm_iload dX6_doSteps_101 rfl ?_
        refine pm_iconst (v := 1) dX6_doSteps_103 ki_1 ?_
        refine pm_iadd dX6_doSteps_104 ?_
        refine pm_rcv (fun hb9 hc9 => ?_)
        refine pm_kV (d := d + 4) rfl (pm_V (y := zX6_doSteps) (z := zX6_doSteps) (As := [.ref l1, .int (l5 + 1), .int x13, .int (l4 + 1)]) zkX6_doSteps pm_q6 (by decide) tw_1046 tw_995 tw_65 dX6_doSteps_105 rfl rfl (Nat.le_of_ble_eq_true rfl) hb9 hc9) (hrs 0 l0 l1 (l5 + 1) x13 (l4 + 1) s66.2) (fun m14 => ?_)
        refine pm_iincn (y := zX6_doSteps) dX6_doSteps_108 rfl ki_1 rfl (Nat.le_of_ble_eq_true rfl) (fun x15 => ?_)
        refine pm_eqls (ls2 := [.ref l0, .ref l1, pmU, .int l3, .int l4, .int l5, .int x15]) rfl ?_
        refine pm_goto (tgt := 66) dX6_doSteps_111 rfl ?_
        exact hag66 (x15, m14))
set_option maxRecDepth 100000 in
set_option maxHeartbeats 4000000 in
theorem gX6_doSteps_L11 (hfl : l.flags = flags0) (rs : Nat → Nat → Int32 → Int32 → Int32 → pmM → pmR) (l0 : Nat) (l1 : Nat) (l3 : Int32) (l4 : Int32) (hrs : ∀ (j : Nat) (b0 : Nat) (b1 : Nat) (b2 : Int32) (b3 : Int32) (b4 : Int32) (m : pmM), pm_C l Γ zX6_doSteps (d + j + 4) [.ref b0, .ref b1, .int b2, .int b3, .int b4] m (rs b0 b1 b2 b3 b4 m)) : ∀ (n : Nat) (s : Int32 × pmM), pm_G l Γ zX6_doSteps (d + 5) 11 [.ref l0, .ref l1, pmU, .int l3, .int l4, .int s.1, pmU] [] s.2 (pm_lp n (X6_doSteps_L11 rs l0 l1 l3 l4) s) :=
  pm_loop (lsf := fun s : Int32 × pmM => [.ref l0, .ref l1, pmU, .int l3, .int l4, .int s.1, pmU]) (mf := fun s : Int32 × pmM => s.2) (fun again11 hag11 s11 => by
    unfold X6_doSteps_L11
    refine pm_iload dX6_doSteps_11 rfl ?_
    refine pm_iload_n dX6_doSteps_13 rfl rfl ?_
    refine pm_icmp_ge (tgt := 133) dX6_doSteps_14 rfl ?_ ?_
    · refine pm_drop (ls2 := [pmU, pmU, pmU, pmU, pmU, pmU, pmU]) (Nat.le_refl _) (pm_le_spec (pm_le_u (pm_le_u (pm_le_u (pm_le_u (pm_le_u (pm_le_u (pm_le_u (pm_le_n))))))))) ?_
      exact gX6_doSteps_j133 hfl rs s11.2 hrs
    · refine pm_aload_n dX6_doSteps_17 rfl rfl ?_
      refine fg_6_7 (y := zX6_doSteps) (Or.inl tw_326) dX6_doSteps_18 (fun x1 => ?_)
      refine pm_sipush (v := 200) dX6_doSteps_21 ks_200 ?_
      refine pm_icmp_ge (tgt := 133) dX6_doSteps_24 rfl ?_ ?_
      · refine pm_drop (ls2 := [pmU, pmU, pmU, pmU, pmU, pmU, pmU]) (Nat.le_refl _) (pm_le_spec (pm_le_u (pm_le_u (pm_le_u (pm_le_u (pm_le_u (pm_le_u (pm_le_u (pm_le_n))))))))) ?_
        exact gX6_doSteps_j133 hfl rs s11.2 hrs
      · refine pm_aload_n dX6_doSteps_27 rfl rfl ?_
        refine pm_dup dX6_doSteps_28 rfl ?_
        refine fg_6_7 (y := zX6_doSteps) (Or.inl tw_326) dX6_doSteps_29 (fun x2 => ?_)
        refine pm_iconst (v := 1) dX6_doSteps_32 ki_1 ?_
        refine pm_iadd dX6_doSteps_33 ?_
        refine fp_6_7 (y := zX6_doSteps) (Or.inl tw_326) dX6_doSteps_34 (fun m3 => ?_)
        refine pm_aload_n dX6_doSteps_37 rfl rfl ?_
        refine fg_6_0 (y := zX6_doSteps) (Or.inl tw_318) dX6_doSteps_38 (fun r4 => ?_)
        refine pm_iload dX6_doSteps_41 rfl ?_
        refine pm_iald (y := zX6_doSteps) dX6_doSteps_43 (fun x5 => ?_)
        refine pm_bipush (v := 6) dX6_doSteps_44 kb_6 ?_
        refine pm_icmp_eq (tgt := 63) dX6_doSteps_46 rfl ?_ ?_
        · refine pm_iconst (v := 0) dX6_doSteps_63 ki_0 ?_
          refine pm_istore (ls2 := [.ref l0, .ref l1, pmU, .int l3, .int l4, .int s11.1, .int 0]) dX6_doSteps_64 rfl (Nat.le_of_ble_eq_true rfl) rfl ?_
          exact gX6_doSteps_L66 hfl rs again11 l0 l1 l3 l4 s11.1 hrs hag11 pm_N (0, m3)
        · refine pm_aload_n dX6_doSteps_49 rfl rfl ?_
          refine pm_aload_n dX6_doSteps_50 rfl rfl ?_
          refine pm_aload_n dX6_doSteps_51 rfl rfl ?_
          refine pm_iload dX6_doSteps_52 rfl ?_
          refine pm_rcv (fun hb9 hc9 => ?_)
          refine pm_kI (d := d + 4) rfl (pm_V (y := zX6_doSteps) (z := zX6_doStep) (As := [.ref l1, .int s11.1]) zkX6_doStep pm_q6 (by decide) tw_997 tw_999 tw_66 dX6_doSteps_54 rfl rfl (Nat.le_of_ble_eq_true rfl) hb9 hc9) (kcX6_doStep (d := d + 0) hfl l0 l1 s11.1 m3) (fun x17 m16 => ?_)
          refine pm_rcv (fun hb9 hc9 => ?_)
          refine pm_kV (d := d + 4) rfl (pm_V (y := zX6_doSteps) (z := zX6_countStep) (As := [.int x17]) zkX6_countStep pm_q6 (by decide) tw_1042 tw_1044 tw_75 dX6_doSteps_57 rfl rfl (Nat.le_of_ble_eq_true rfl) hb9 hc9) (kcX6_countStep (d := d + 4) hfl l0 x17 m16) (fun m18 => ?_)
          refine pm_goto (tgt := 114) dX6_doSteps_60 rfl ?_
          exact gX6_doSteps_j114 hfl rs again11 l0 l1 l3 l4 s11.1 m18 hrs hag11)
set_option maxRecDepth 100000 in
set_option maxHeartbeats 4000000 in
theorem kcX6_doSteps (hfl : l.flags = flags0) (rs : Nat → Nat → Int32 → Int32 → Int32 → pmM → pmR) (a0 : Nat) (a1 : Nat) (a2 : Int32) (a3 : Int32) (a4 : Int32) (m : pmM) (hrs : ∀ (j : Nat) (b0 : Nat) (b1 : Nat) (b2 : Int32) (b3 : Int32) (b4 : Int32) (m : pmM), pm_C l Γ zX6_doSteps (d + j + 4) [.ref b0, .ref b1, .int b2, .int b3, .int b4] m (rs b0 b1 b2 b3 b4 m)) : pm_C l Γ zX6_doSteps (d + 5) [.ref a0, .ref a1, .int a2, .int a3, .int a4] m (X6_doSteps rs a0 a1 a2 a3 a4 m) := by
  refine pm_enter (ls := [.ref a0, .ref a1, .int a2, .int a3, .int a4, pmU, pmU]) hfl (by decide +kernel) rfl (Nat.le_of_ble_eq_true rfl) rfl (Nat.le_of_ble_eq_true rfl) ?_
  unfold X6_doSteps
  refine pm_iload dX6_doSteps_0 rfl ?_
  refine pm_bipush (v := 6) dX6_doSteps_2 kb_6 ?_
  refine pm_icmp_le (tgt := 8) dX6_doSteps_4 rfl ?_ ?_
  · refine pm_iload_n dX6_doSteps_8 rfl rfl ?_
    refine pm_istore (ls2 := [.ref a0, .ref a1, .int a2, .int a3, .int a4, .int a2, pmU]) dX6_doSteps_9 rfl (Nat.le_of_ble_eq_true rfl) rfl ?_
    refine pm_drop (ls2 := [.ref a0, .ref a1, pmU, .int a3, .int a4, .int a2, pmU]) (Nat.le_refl _) (pm_le_spec (pm_le_v (pm_le_v (pm_le_u (pm_le_v (pm_le_v (pm_le_v (pm_le_u (pm_le_n))))))))) ?_
    exact gX6_doSteps_L11 hfl rs a0 a1 a3 a4 hrs pm_N (a2, m)
  · exact pm_vret rfl dX6_doSteps_7
set_option maxRecDepth 100000 in
set_option maxHeartbeats 4000000 in
theorem kcX6_doSteps_N0 (hfl : l.flags = flags0) : ∀ (n d : Nat) (b0 : Nat) (b1 : Nat) (b2 : Int32) (b3 : Int32) (b4 : Int32) (m : pmM), pm_C l Γ zX6_doSteps (d + 4 + 1 * n) [.ref b0, .ref b1, .int b2, .int b3, .int b4] m (X6_doSteps_N n b0 b1 b2 b3 b4 m)
  | 0, d, b0, b1, b2, b3, b4, m => fun o m9 h => by cases h
  | n + 1, d, b0, b1, b2, b3, b4, m => by
    have h := kcX6_doSteps (d := d + 1 * n) hfl (X6_doSteps_N n) b0 b1 b2 b3 b4 m (fun j b0 b1 b2 b3 b4 m => by
      have h2 := kcX6_doSteps_N0 hfl n (d + j) b0 b1 b2 b3 b4 m
      rw [show d + 1 * n + j + 4 = d + j + 4 + 1 * n by omega]
      exact h2)
    rw [show d + 4 + 1 * (n + 1) = d + 1 * n + 5 by omega]
    exact h
theorem kcX6_doSteps_N (hfl : l.flags = flags0) (n : Nat) (b0 : Nat) (b1 : Nat) (b2 : Int32) (b3 : Int32) (b4 : Int32) (m : pmM) : pm_C l Γ zX6_doSteps (d + 4 + 1 * n) [.ref b0, .ref b1, .int b2, .int b3, .int b4] m (X6_doSteps_N n b0 b1 b2 b3 b4 m) := kcX6_doSteps_N0 hfl n d b0 b1 b2 b3 b4 m
-- StruckPage$Text.<init>()V
def X7_init (a0 : Nat) (m : pmM) : pmR := pm_na 100 600 m fun r1 m2 => pm_pR 7 a0 0 r1 m2 fun m3 => pm_pI 7 a0 7 (-1) m3 fun m4 => pm_oV m4
set_option maxRecDepth 100000 in
set_option maxHeartbeats 4000000 in
theorem kcX7_init (hfl : l.flags = flags0) (a0 : Nat) (m : pmM) : pm_C l Γ zX7_init (d + 0) [.ref a0] m (X7_init a0 m) := by
  refine pm_enter (ls := [.ref a0]) hfl (by decide +kernel) rfl (Nat.le_of_ble_eq_true rfl) rfl (Nat.le_of_ble_eq_true rfl) ?_
  unfold X7_init
  refine pm_aload_n dX7_init_0 rfl rfl ?_
  refine pm_oinit (y := zX7_init) tw_191 tw_184 tw_185 dX7_init_1 (Nat.le_of_ble_eq_true rfl) ?_
  refine pm_aload_n dX7_init_4 rfl rfl ?_
  refine pm_sipush (v := 600) dX7_init_5 ks_600 ?_
  refine pm_newa (y := zX7_init) (atype := .int) (kd := 100) (by decide) tw_230 dX7_init_8 (fun r1 m2 => ?_)
  refine fp_7_0 (y := zX7_init) ⟨tw_192, rfl⟩ dX7_init_10 (fun m3 => ?_)
  refine pm_aload_n dX7_init_13 rfl rfl ?_
  refine pm_iconst (v := (-1)) dX7_init_14 ki_n1 ?_
  refine fp_7_7 (y := zX7_init) (Or.inl tw_211) dX7_init_15 (fun m4 => ?_)
  exact pm_vret rfl dX7_init_18
end GEN8
