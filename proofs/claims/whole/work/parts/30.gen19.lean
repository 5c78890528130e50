section GEN19
variable {l : Launch} {Γ : pmG} {d : Nat}
-- StruckPageModel.readsStep()V
abbrev zX9_readsStep : pmY := (⟨"StruckPageModel", "readsStep", "()V"⟩, cX9_readsStep, 3, none, [])
def X9_readsStep_j225 (rs : Nat → pmM → pmR) (l0 : Nat) (l2 : Nat) (m : pmM) : pmR := pm_gI 9 l0 28 m fun x14 => pm_st 100 l2 4 x14 m fun m15 => pm_rc 9 l0 m15 <| pm_cV (X9_sign l0 59 m15) fun m16 => pm_oV m16
def X9_readsStep_j209 (rs : Nat → pmM → pmR) (l0 : Nat) (l2 : Nat) (m : pmM) : pmR := pm_rc 9 l0 m <| pm_cV (X9_sign l0 93 m) fun m23 => pm_gI 9 l0 8 m23 fun x24 => pm_pI 9 l0 8 (x24 - 1) m23 fun m25 => X9_readsStep_j225 rs l0 l2 m25
def X9_readsStep_L178 (rs : Nat → pmM → pmR) (l0 : Nat) (l2 : Nat) (again178 : (pmM) → pmR) (s178 : pmM) : pmR := pm_gI 9 l0 5 s178 fun x22 => if x22 = 0 then (pm_gI 9 l0 4 s178 fun x26 => pm_rc 9 l0 s178 <| pm_cI (X9_byteAt l0 x26 s178) fun x28 m27 => if x28 = 93 then (X9_readsStep_j209 rs l0 l2 m27) else (pm_rc 9 l0 m27 <| pm_cV (rs l0 m27) fun m29 => pm_rc 9 l0 m29 <| pm_cV (X9_blanks l0 m29) fun m30 => again178 m30)) else (X9_readsStep_j209 rs l0 l2 s178)
def X9_readsStep_j152 (rs : Nat → pmM → pmR) (l0 : Nat) (l1 : Int32) (l2 : Nat) (m : pmM) : pmR := if l1 = 6 then (pm_rc 9 l0 m <| pm_cI (X9_number l0 0 60 m) fun x18 m17 => pm_st 100 l2 1 x18 m17 fun m19 => pm_rc 9 l0 m19 <| pm_cV (X9_sign l0 91 m19) fun m20 => pm_rc 9 l0 m20 <| pm_cV (X9_blanks l0 m20) fun m21 => pm_lp pm_N (X9_readsStep_L178 rs l0 l2) m21) else (X9_readsStep_j225 rs l0 l2 m)
def X9_readsStep_j127 (rs : Nat → pmM → pmR) (l0 : Nat) (l1 : Int32) (l2 : Nat) (m : pmM) : pmR := if l1 = 5 then (pm_rc 9 l0 m <| pm_cI (X9_number l0 0 3 m) fun x32 m31 => pm_st 100 l2 1 x32 m31 fun m33 => pm_rc 9 l0 m33 <| pm_cI (X9_number l0 0 999 m33) fun x35 m34 => pm_st 100 l2 2 x35 m34 fun m36 => X9_readsStep_j152 rs l0 l1 l2 m36) else (X9_readsStep_j152 rs l0 l1 l2 m)
def X9_readsStep_j117 (rs : Nat → pmM → pmR) (l0 : Nat) (l1 : Int32) (l2 : Nat) (m : pmM) : pmR := pm_rc 9 l0 m <| pm_cI (X9_number l0 1 99 m) fun x12 m11 => pm_st 100 l2 1 x12 m11 fun m13 => X9_readsStep_j127 rs l0 l1 l2 m13
def X9_readsStep_j107 (rs : Nat → pmM → pmR) (l0 : Nat) (l1 : Int32) (l2 : Nat) (m : pmM) : pmR := if l1 = 1 then (X9_readsStep_j117 rs l0 l1 l2 m) else (if l1 = 3 then (X9_readsStep_j117 rs l0 l1 l2 m) else (X9_readsStep_j127 rs l0 l1 l2 m))
def X9_readsStep_j33 (rs : Nat → pmM → pmR) (l0 : Nat) (l1 : Int32) (m : pmM) : pmR := pm_gI 9 l0 5 m fun x3 => if x3 = 0 then (pm_rc 9 l0 m <| pm_cV (X9_skipWord l0 m) fun m4 => pm_gR 9 l0 27 m4 fun r5 => pm_gI 9 l0 28 m4 fun x6 => pm_ldR 103 r5 x6 m4 fun r7 => pm_gI 9 l0 28 m4 fun x8 => pm_pI 9 l0 28 (x8 + 1) m4 fun m9 => pm_st 100 r7 0 l1 m9 fun m10 => if l1 = 0 then (pm_gI 9 l0 13 m10 fun x37 => pm_rc 9 l0 m10 <| pm_cI (X9_number l0 0 (x37 - 1) m10) fun x39 m38 => pm_st 100 r7 1 x39 m38 fun m40 => pm_rc 9 l0 m40 <| pm_cI (X9_number l0 0 7 m40) fun x42 m41 => pm_st 100 r7 2 x42 m41 fun m43 => pm_rc 9 l0 m43 <| pm_cI (X9_number l0 0 7 m43) fun x45 m44 => pm_st 100 r7 3 x45 m44 fun m46 => X9_readsStep_j107 rs l0 l1 r7 m46) else (X9_readsStep_j107 rs l0 l1 r7 m10)) else (pm_oV m)
def X9_readsStep_j19 (rs : Nat → pmM → pmR) (l0 : Nat) (l1 : Int32) (m : pmM) : pmR := if l1 = 6 then (pm_rc 9 l0 m <| pm_cI (X9_opensOne l0 m) fun x48 m47 => if x48 = 0 then (pm_oV m47) else (X9_readsStep_j33 rs l0 l1 m47)) else (X9_readsStep_j33 rs l0 l1 m)
def X9_readsStep (rs : Nat → pmM → pmR) (a0 : Nat) (m : pmM) : pmR := pm_rc 9 a0 m <| pm_cI (X9_stepHere a0 m) fun x2 m1 => if x2 = (-1) then (pm_gI 9 a0 4 m1 fun x49 => pm_rc 9 a0 m1 <| pm_cV (X9_wrong a0 1 x49 m1) fun m50 => X9_readsStep_j19 rs a0 x2 m50) else (X9_readsStep_j19 rs a0 x2 m1)
def X9_readsStep_N : Nat → Nat → pmM → pmR
  | 0 => fun _ _ => none
  | n + 1 => X9_readsStep (X9_readsStep_N n)
theorem zkX9_readsStep : pm_zOk zX9_readsStep 0 := ⟨rfl, tw_1684, tw_168, by decide +kernel, by decide⟩
set_option maxRecDepth 100000 in
set_option maxHeartbeats 4000000 in
theorem gX9_readsStep_j225 (hfl : l.flags = flags0) (rs : Nat → pmM → pmR) (l0 : Nat) (l2 : Nat) (m : pmM) (hrs : ∀ (b0 : Nat) (m : pmM), pm_C l Γ zX9_readsStep (d + 4) [.ref b0] m (rs b0 m)) : pm_G l Γ zX9_readsStep (d + 5) 225 [.ref l0, pmU, .ref l2] [] m (X9_readsStep_j225 rs l0 l2 m) := by
  unfold X9_readsStep_j225
  refine pm_aload_n dX9_readsStep_225 rfl rfl ?_
  refine pm_iconst (v := 4) dX9_readsStep_226 ki_4 ?_
  refine pm_aload_n dX9_readsStep_227 rfl rfl ?_
  refine fg_9_28 (y := zX9_readsStep) (Or.inl tw_1405) dX9_readsStep_228 (fun x14 => ?_)
  refine pm_iast (y := zX9_readsStep) dX9_readsStep_231 (fun m15 => ?_)
  refine pm_aload_n dX9_readsStep_232 rfl rfl ?_
  refine pm_bipush (v := 59) dX9_readsStep_233 kb_59 ?_
  refine pm_rcv (fun hb9 hc9 => ?_)
  refine pm_kV rfl (pm_V (y := zX9_readsStep) (z := zX9_sign) (As := [.int 59]) zkX9_sign pm_q9 (by decide) tw_1621 tw_1623 tw_114 dX9_readsStep_235 rfl rfl (Nat.le_of_ble_eq_true rfl) hb9 hc9) (kcX9_sign hfl l0 59 m15) (fun m16 => ?_)
  exact pm_vret rfl dX9_readsStep_238
set_option maxRecDepth 100000 in
set_option maxHeartbeats 4000000 in
theorem gX9_readsStep_j209 (hfl : l.flags = flags0) (rs : Nat → pmM → pmR) (l0 : Nat) (l2 : Nat) (m : pmM) (hrs : ∀ (b0 : Nat) (m : pmM), pm_C l Γ zX9_readsStep (d + 4) [.ref b0] m (rs b0 m)) : pm_G l Γ zX9_readsStep (d + 5) 209 [.ref l0, pmU, .ref l2] [] m (X9_readsStep_j209 rs l0 l2 m) := by
  unfold X9_readsStep_j209
  refine pm_aload_n dX9_readsStep_209 rfl rfl ?_
  refine pm_bipush (v := 93) dX9_readsStep_210 kb_93 ?_
  refine pm_rcv (fun hb9 hc9 => ?_)
  refine pm_kV rfl (pm_V (y := zX9_readsStep) (z := zX9_sign) (As := [.int 93]) zkX9_sign pm_q9 (by decide) tw_1621 tw_1623 tw_114 dX9_readsStep_212 rfl rfl (Nat.le_of_ble_eq_true rfl) hb9 hc9) (kcX9_sign hfl l0 93 m) (fun m23 => ?_)
  refine pm_aload_n dX9_readsStep_215 rfl rfl ?_
  refine pm_dup dX9_readsStep_216 rfl ?_
  refine fg_9_8 (y := zX9_readsStep) (Or.inl tw_1385) dX9_readsStep_217 (fun x24 => ?_)
  refine pm_iconst (v := 1) dX9_readsStep_220 ki_1 ?_
  refine pm_isub dX9_readsStep_221 ?_
  refine fp_9_8 (y := zX9_readsStep) (Or.inl tw_1385) dX9_readsStep_222 (fun m25 => ?_)
  exact gX9_readsStep_j225 hfl rs l0 l2 m25 hrs
set_option maxRecDepth 100000 in
set_option maxHeartbeats 4000000 in
theorem gX9_readsStep_L178 (hfl : l.flags = flags0) (rs : Nat → pmM → pmR) (l0 : Nat) (l2 : Nat) (hrs : ∀ (b0 : Nat) (m : pmM), pm_C l Γ zX9_readsStep (d + 4) [.ref b0] m (rs b0 m)) : ∀ (n : Nat) (s : pmM), pm_G l Γ zX9_readsStep (d + 5) 178 [.ref l0, pmU, .ref l2] [] s (pm_lp n (X9_readsStep_L178 rs l0 l2) s) :=
  pm_loop (lsf := fun s : pmM => [.ref l0, pmU, .ref l2]) (mf := fun s : pmM => s) (fun again178 hag178 s178 => by
    unfold X9_readsStep_L178
    refine pm_aload_n dX9_readsStep_178 rfl rfl ?_
    refine fg_9_5 (y := zX9_readsStep) (Or.inl tw_1382) dX9_readsStep_179 (fun x22 => ?_)
    refine pm_if_ne (tgt := 209) dX9_readsStep_182 rfl ?_ ?_
    · exact gX9_readsStep_j209 hfl rs l0 l2 s178 hrs
    · refine pm_aload_n dX9_readsStep_185 rfl rfl ?_
      refine pm_aload_n dX9_readsStep_186 rfl rfl ?_
      refine fg_9_4 (y := zX9_readsStep) (Or.inl tw_1381) dX9_readsStep_187 (fun x26 => ?_)
      refine pm_rcv (fun hb9 hc9 => ?_)
      refine pm_kI rfl (pm_V (y := zX9_readsStep) (z := zX9_byteAt) (As := [.int x26]) zkX9_byteAt pm_q9 (by decide) tw_1571 tw_1573 tw_104 dX9_readsStep_190 rfl rfl (Nat.le_of_ble_eq_true rfl) hb9 hc9) (kcX9_byteAt hfl l0 x26 s178) (fun x28 m27 => ?_)
      refine pm_bipush (v := 93) dX9_readsStep_193 kb_93 ?_
      refine pm_icmp_eq (tgt := 209) dX9_readsStep_195 rfl ?_ ?_
      · exact gX9_readsStep_j209 hfl rs l0 l2 m27 hrs
      · refine pm_aload_n dX9_readsStep_198 rfl rfl ?_
        refine pm_rcv (fun hb9 hc9 => ?_)
        refine pm_kV rfl (pm_V (y := zX9_readsStep) (z := zX9_readsStep) (As := []) zkX9_readsStep pm_q9 (by decide) tw_1681 tw_1683 tw_125 dX9_readsStep_199 rfl rfl (Nat.le_of_ble_eq_true rfl) hb9 hc9) (hrs l0 m27) (fun m29 => ?_)
        refine pm_aload_n dX9_readsStep_202 rfl rfl ?_
        refine pm_rcv (fun hb9 hc9 => ?_)
        refine pm_kV rfl (pm_V (y := zX9_readsStep) (z := zX9_blanks) (As := []) zkX9_blanks pm_q9 (by decide) tw_1567 tw_1569 tw_103 dX9_readsStep_203 rfl rfl (Nat.le_of_ble_eq_true rfl) hb9 hc9) (kcX9_blanks hfl l0 m29) (fun m30 => ?_)
        refine pm_goto (tgt := 178) dX9_readsStep_206 rfl ?_
        exact hag178 m30)
set_option maxRecDepth 100000 in
set_option maxHeartbeats 4000000 in
theorem gX9_readsStep_j152 (hfl : l.flags = flags0) (rs : Nat → pmM → pmR) (l0 : Nat) (l1 : Int32) (l2 : Nat) (m : pmM) (hrs : ∀ (b0 : Nat) (m : pmM), pm_C l Γ zX9_readsStep (d + 4) [.ref b0] m (rs b0 m)) : pm_G l Γ zX9_readsStep (d + 5) 152 [.ref l0, .int l1, .ref l2] [] m (X9_readsStep_j152 rs l0 l1 l2 m) := by
  unfold X9_readsStep_j152
  refine pm_iload_n dX9_readsStep_152 rfl rfl ?_
  refine pm_bipush (v := 6) dX9_readsStep_153 kb_6 ?_
  refine pm_icmp_ne (tgt := 225) dX9_readsStep_155 rfl ?_ ?_
  · refine pm_drop (ls2 := [.ref l0, pmU, .ref l2]) (Nat.le_refl _) (pm_le_spec (pm_le_v (pm_le_u (pm_le_v (pm_le_n))))) ?_
    exact gX9_readsStep_j225 hfl rs l0 l2 m hrs
  · refine pm_aload_n dX9_readsStep_158 rfl rfl ?_
    refine pm_iconst (v := 1) dX9_readsStep_159 ki_1 ?_
    refine pm_aload_n dX9_readsStep_160 rfl rfl ?_
    refine pm_iconst (v := 0) dX9_readsStep_161 ki_0 ?_
    refine pm_bipush (v := 60) dX9_readsStep_162 kb_60 ?_
    refine pm_rcv (fun hb9 hc9 => ?_)
    refine pm_kI rfl (pm_V (y := zX9_readsStep) (z := zX9_number) (As := [.int 0, .int 60]) zkX9_number pm_q9 (by decide) tw_1613 tw_1615 tw_113 dX9_readsStep_164 rfl rfl (Nat.le_of_ble_eq_true rfl) hb9 hc9) (kcX9_number hfl l0 0 60 m) (fun x18 m17 => ?_)
    refine pm_iast (y := zX9_readsStep) dX9_readsStep_167 (fun m19 => ?_)
    refine pm_aload_n dX9_readsStep_168 rfl rfl ?_
    refine pm_bipush (v := 91) dX9_readsStep_169 kb_91 ?_
    refine pm_rcv (fun hb9 hc9 => ?_)
    refine pm_kV rfl (pm_V (y := zX9_readsStep) (z := zX9_sign) (As := [.int 91]) zkX9_sign pm_q9 (by decide) tw_1621 tw_1623 tw_114 dX9_readsStep_171 rfl rfl (Nat.le_of_ble_eq_true rfl) hb9 hc9) (kcX9_sign hfl l0 91 m19) (fun m20 => ?_)
    refine pm_aload_n dX9_readsStep_174 rfl rfl ?_
    refine pm_rcv (fun hb9 hc9 => ?_)
    refine pm_kV rfl (pm_V (y := zX9_readsStep) (z := zX9_blanks) (As := []) zkX9_blanks pm_q9 (by decide) tw_1567 tw_1569 tw_103 dX9_readsStep_175 rfl rfl (Nat.le_of_ble_eq_true rfl) hb9 hc9) (kcX9_blanks hfl l0 m20) (fun m21 => ?_)
    refine pm_drop (ls2 := [.ref l0, pmU, .ref l2]) (Nat.le_refl _) (pm_le_spec (pm_le_v (pm_le_u (pm_le_v (pm_le_n))))) ?_
    exact gX9_readsStep_L178 hfl rs l0 l2 hrs pm_N m21
set_option maxRecDepth 100000 in
set_option maxHeartbeats 4000000 in
theorem gX9_readsStep_j127 (hfl : l.flags = flags0) (rs : Nat → pmM → pmR) (l0 : Nat) (l1 : Int32) (l2 : Nat) (m : pmM) (hrs : ∀ (b0 : Nat) (m : pmM), pm_C l Γ zX9_readsStep (d + 4) [.ref b0] m (rs b0 m)) : pm_G l Γ zX9_readsStep (d + 5) 127 [.ref l0, .int l1, .ref l2] [] m (X9_readsStep_j127 rs l0 l1 l2 m) := by
  unfold X9_readsStep_j127
  refine pm_iload_n dX9_readsStep_127 rfl rfl ?_
  refine pm_iconst (v := 5) dX9_readsStep_128 ki_5 ?_
  refine pm_icmp_ne (tgt := 152) dX9_readsStep_129 rfl ?_ ?_
  · exact gX9_readsStep_j152 hfl rs l0 l1 l2 m hrs
  · refine pm_aload_n dX9_readsStep_132 rfl rfl ?_
    refine pm_iconst (v := 1) dX9_readsStep_133 ki_1 ?_
    refine pm_aload_n dX9_readsStep_134 rfl rfl ?_
    refine pm_iconst (v := 0) dX9_readsStep_135 ki_0 ?_
    refine pm_iconst (v := 3) dX9_readsStep_136 ki_3 ?_
    refine pm_rcv (fun hb9 hc9 => ?_)
    refine pm_kI rfl (pm_V (y := zX9_readsStep) (z := zX9_number) (As := [.int 0, .int 3]) zkX9_number pm_q9 (by decide) tw_1613 tw_1615 tw_113 dX9_readsStep_137 rfl rfl (Nat.le_of_ble_eq_true rfl) hb9 hc9) (kcX9_number hfl l0 0 3 m) (fun x32 m31 => ?_)
    refine pm_iast (y := zX9_readsStep) dX9_readsStep_140 (fun m33 => ?_)
    refine pm_aload_n dX9_readsStep_141 rfl rfl ?_
    refine pm_iconst (v := 2) dX9_readsStep_142 ki_2 ?_
    refine pm_aload_n dX9_readsStep_143 rfl rfl ?_
    refine pm_iconst (v := 0) dX9_readsStep_144 ki_0 ?_
    refine pm_sipush (v := 999) dX9_readsStep_145 ks_999 ?_
    refine pm_rcv (fun hb9 hc9 => ?_)
    refine pm_kI rfl (pm_V (y := zX9_readsStep) (z := zX9_number) (As := [.int 0, .int 999]) zkX9_number pm_q9 (by decide) tw_1613 tw_1615 tw_113 dX9_readsStep_148 rfl rfl (Nat.le_of_ble_eq_true rfl) hb9 hc9) (kcX9_number hfl l0 0 999 m33) (fun x35 m34 => ?_)
    refine pm_iast (y := zX9_readsStep) dX9_readsStep_151 (fun m36 => ?_)
    exact gX9_readsStep_j152 hfl rs l0 l1 l2 m36 hrs
set_option maxRecDepth 100000 in
set_option maxHeartbeats 4000000 in
theorem gX9_readsStep_j117 (hfl : l.flags = flags0) (rs : Nat → pmM → pmR) (l0 : Nat) (l1 : Int32) (l2 : Nat) (m : pmM) (hrs : ∀ (b0 : Nat) (m : pmM), pm_C l Γ zX9_readsStep (d + 4) [.ref b0] m (rs b0 m)) : pm_G l Γ zX9_readsStep (d + 5) 117 [.ref l0, .int l1, .ref l2] [] m (X9_readsStep_j117 rs l0 l1 l2 m) := by
  unfold X9_readsStep_j117
  refine pm_aload_n dX9_readsStep_117 rfl rfl ?_
  refine pm_iconst (v := 1) dX9_readsStep_118 ki_1 ?_
  refine pm_aload_n dX9_readsStep_119 rfl rfl ?_
  refine pm_iconst (v := 1) dX9_readsStep_120 ki_1 ?_
  refine pm_bipush (v := 99) dX9_readsStep_121 kb_99 ?_
  refine pm_rcv (fun hb9 hc9 => ?_)
  refine pm_kI rfl (pm_V (y := zX9_readsStep) (z := zX9_number) (As := [.int 1, .int 99]) zkX9_number pm_q9 (by decide) tw_1613 tw_1615 tw_113 dX9_readsStep_123 rfl rfl (Nat.le_of_ble_eq_true rfl) hb9 hc9) (kcX9_number hfl l0 1 99 m) (fun x12 m11 => ?_)
  refine pm_iast (y := zX9_readsStep) dX9_readsStep_126 (fun m13 => ?_)
  exact gX9_readsStep_j127 hfl rs l0 l1 l2 m13 hrs
set_option maxRecDepth 100000 in
set_option maxHeartbeats 4000000 in
theorem gX9_readsStep_j107 (hfl : l.flags = flags0) (rs : Nat → pmM → pmR) (l0 : Nat) (l1 : Int32) (l2 : Nat) (m : pmM) (hrs : ∀ (b0 : Nat) (m : pmM), pm_C l Γ zX9_readsStep (d + 4) [.ref b0] m (rs b0 m)) : pm_G l Γ zX9_readsStep (d + 5) 107 [.ref l0, .int l1, .ref l2] [] m (X9_readsStep_j107 rs l0 l1 l2 m) := by
  unfold X9_readsStep_j107
  refine pm_iload_n dX9_readsStep_107 rfl rfl ?_
  refine pm_iconst (v := 1) dX9_readsStep_108 ki_1 ?_
  refine pm_icmp_eq (tgt := 117) dX9_readsStep_109 rfl ?_ ?_
  · exact gX9_readsStep_j117 hfl rs l0 l1 l2 m hrs
  · refine pm_iload_n dX9_readsStep_112 rfl rfl ?_
    refine pm_iconst (v := 3) dX9_readsStep_113 ki_3 ?_
    refine pm_icmp_ne (tgt := 127) dX9_readsStep_114 rfl ?_ ?_
    · exact gX9_readsStep_j127 hfl rs l0 l1 l2 m hrs
    · exact gX9_readsStep_j117 hfl rs l0 l1 l2 m hrs
set_option maxRecDepth 100000 in
set_option maxHeartbeats 4000000 in
theorem gX9_readsStep_j33 (hfl : l.flags = flags0) (rs : Nat → pmM → pmR) (l0 : Nat) (l1 : Int32) (m : pmM) (hrs : ∀ (b0 : Nat) (m : pmM), pm_C l Γ zX9_readsStep (d + 4) [.ref b0] m (rs b0 m)) : pm_G l Γ zX9_readsStep (d + 5) 33 [.ref l0, .int l1, pmU] [] m (X9_readsStep_j33 rs l0 l1 m) := by
  unfold X9_readsStep_j33
  refine pm_aload_n dX9_readsStep_33 rfl rfl ?_
  refine fg_9_5 (y := zX9_readsStep) (Or.inl tw_1382) dX9_readsStep_34 (fun x3 => ?_)
  refine pm_if_eq (tgt := 41) dX9_readsStep_37 rfl ?_ ?_
  · refine pm_aload_n dX9_readsStep_41 rfl rfl ?_
    refine pm_rcv (fun hb9 hc9 => ?_)
    refine pm_kV rfl (pm_V (y := zX9_readsStep) (z := zX9_skipWord) (As := []) zkX9_skipWord pm_q9 (by decide) tw_1601 tw_1603 tw_110 dX9_readsStep_42 rfl rfl (Nat.le_of_ble_eq_true rfl) hb9 hc9) (kcX9_skipWord hfl l0 m) (fun m4 => ?_)
    refine pm_aload_n dX9_readsStep_45 rfl rfl ?_
    refine fg_9_27 (y := zX9_readsStep) (Or.inl tw_1404) dX9_readsStep_46 (fun r5 => ?_)
    refine pm_aload_n dX9_readsStep_49 rfl rfl ?_
    refine fg_9_28 (y := zX9_readsStep) (Or.inl tw_1405) dX9_readsStep_50 (fun x6 => ?_)
    refine pm_aaldI (y := zX9_readsStep) dX9_readsStep_53 (fun r7 => ?_)
    refine pm_astore_n (ls2 := [.ref l0, .int l1, .ref r7]) dX9_readsStep_54 rfl rfl (Nat.le_of_ble_eq_true rfl) rfl ?_
    refine pm_aload_n dX9_readsStep_55 rfl rfl ?_
    refine pm_dup dX9_readsStep_56 rfl ?_
    refine fg_9_28 (y := zX9_readsStep) (Or.inl tw_1405) dX9_readsStep_57 (fun x8 => ?_)
    refine pm_iconst (v := 1) dX9_readsStep_60 ki_1 ?_
    refine pm_iadd dX9_readsStep_61 ?_
    refine fp_9_28 (y := zX9_readsStep) (Or.inl tw_1405) dX9_readsStep_62 (fun m9 => ?_)
    refine pm_aload_n dX9_readsStep_65 rfl rfl ?_
    refine pm_iconst (v := 0) dX9_readsStep_66 ki_0 ?_
    refine pm_iload_n dX9_readsStep_67 rfl rfl ?_
    refine pm_iast (y := zX9_readsStep) dX9_readsStep_68 (fun m10 => ?_)
    refine pm_iload_n dX9_readsStep_69 rfl rfl ?_
    refine pm_if_ne (tgt := 107) dX9_readsStep_70 rfl ?_ ?_
    · exact gX9_readsStep_j107 hfl rs l0 l1 r7 m10 hrs
    · refine pm_aload_n dX9_readsStep_73 rfl rfl ?_
      refine pm_iconst (v := 1) dX9_readsStep_74 ki_1 ?_
      refine pm_aload_n dX9_readsStep_75 rfl rfl ?_
      refine pm_iconst (v := 0) dX9_readsStep_76 ki_0 ?_
      refine pm_aload_n dX9_readsStep_77 rfl rfl ?_
      refine fg_9_13 (y := zX9_readsStep) (Or.inl tw_1390) dX9_readsStep_78 (fun x37 => ?_)
      refine pm_iconst (v := 1) dX9_readsStep_81 ki_1 ?_
      refine pm_isub dX9_readsStep_82 ?_
      refine pm_rcv (fun hb9 hc9 => ?_)
      refine pm_kI rfl (pm_V (y := zX9_readsStep) (z := zX9_number) (As := [.int 0, .int (x37 - 1)]) zkX9_number pm_q9 (by decide) tw_1613 tw_1615 tw_113 dX9_readsStep_83 rfl rfl (Nat.le_of_ble_eq_true rfl) hb9 hc9) (kcX9_number hfl l0 0 (x37 - 1) m10) (fun x39 m38 => ?_)
      refine pm_iast (y := zX9_readsStep) dX9_readsStep_86 (fun m40 => ?_)
      refine pm_aload_n dX9_readsStep_87 rfl rfl ?_
      refine pm_iconst (v := 2) dX9_readsStep_88 ki_2 ?_
      refine pm_aload_n dX9_readsStep_89 rfl rfl ?_
      refine pm_iconst (v := 0) dX9_readsStep_90 ki_0 ?_
      refine pm_bipush (v := 7) dX9_readsStep_91 kb_7 ?_
      refine pm_rcv (fun hb9 hc9 => ?_)
      refine pm_kI rfl (pm_V (y := zX9_readsStep) (z := zX9_number) (As := [.int 0, .int 7]) zkX9_number pm_q9 (by decide) tw_1613 tw_1615 tw_113 dX9_readsStep_93 rfl rfl (Nat.le_of_ble_eq_true rfl) hb9 hc9) (kcX9_number hfl l0 0 7 m40) (fun x42 m41 => ?_)
      refine pm_iast (y := zX9_readsStep) dX9_readsStep_96 (fun m43 => ?_)
      refine pm_aload_n dX9_readsStep_97 rfl rfl ?_
      refine pm_iconst (v := 3) dX9_readsStep_98 ki_3 ?_
      refine pm_aload_n dX9_readsStep_99 rfl rfl ?_
      refine pm_iconst (v := 0) dX9_readsStep_100 ki_0 ?_
      refine pm_bipush (v := 7) dX9_readsStep_101 kb_7 ?_
      refine pm_rcv (fun hb9 hc9 => ?_)
      refine pm_kI rfl (pm_V (y := zX9_readsStep) (z := zX9_number) (As := [.int 0, .int 7]) zkX9_number pm_q9 (by decide) tw_1613 tw_1615 tw_113 dX9_readsStep_103 rfl rfl (Nat.le_of_ble_eq_true rfl) hb9 hc9) (kcX9_number hfl l0 0 7 m43) (fun x45 m44 => ?_)
      refine pm_iast (y := zX9_readsStep) dX9_readsStep_106 (fun m46 => ?_)
      exact gX9_readsStep_j107 hfl rs l0 l1 r7 m46 hrs
  · exact pm_vret rfl dX9_readsStep_40
set_option maxRecDepth 100000 in
set_option maxHeartbeats 4000000 in
theorem gX9_readsStep_j19 (hfl : l.flags = flags0) (rs : Nat → pmM → pmR) (l0 : Nat) (l1 : Int32) (m : pmM) (hrs : ∀ (b0 : Nat) (m : pmM), pm_C l Γ zX9_readsStep (d + 4) [.ref b0] m (rs b0 m)) : pm_G l Γ zX9_readsStep (d + 5) 19 [.ref l0, .int l1, pmU] [] m (X9_readsStep_j19 rs l0 l1 m) := by
  unfold X9_readsStep_j19
  refine pm_iload_n dX9_readsStep_19 rfl rfl ?_
  refine pm_bipush (v := 6) dX9_readsStep_20 kb_6 ?_
  refine pm_icmp_ne (tgt := 33) dX9_readsStep_22 rfl ?_ ?_
  · exact gX9_readsStep_j33 hfl rs l0 l1 m hrs
  · refine pm_aload_n dX9_readsStep_25 rfl rfl ?_
    refine pm_rcv (fun hb9 hc9 => ?_)
    refine pm_kI rfl (pm_V (y := zX9_readsStep) (z := zX9_opensOne) (As := []) zkX9_opensOne pm_q9 (by decide) tw_1649 tw_1651 tw_120 dX9_readsStep_26 rfl rfl (Nat.le_of_ble_eq_true rfl) hb9 hc9) (kcX9_opensOne hfl l0 m) (fun x48 m47 => ?_)
    refine pm_if_ne (tgt := 33) dX9_readsStep_29 rfl ?_ ?_
    · exact gX9_readsStep_j33 hfl rs l0 l1 m47 hrs
    · exact pm_vret rfl dX9_readsStep_32
set_option maxRecDepth 100000 in
set_option maxHeartbeats 4000000 in
theorem kcX9_readsStep (hfl : l.flags = flags0) (rs : Nat → pmM → pmR) (a0 : Nat) (m : pmM) (hrs : ∀ (b0 : Nat) (m : pmM), pm_C l Γ zX9_readsStep (d + 4) [.ref b0] m (rs b0 m)) : pm_C l Γ zX9_readsStep (d + 5) [.ref a0] m (X9_readsStep rs a0 m) := by
  refine pm_enter (ls := [.ref a0, pmU, pmU]) hfl (by decide +kernel) rfl (Nat.le_of_ble_eq_true rfl) rfl (Nat.le_of_ble_eq_true rfl) ?_
  unfold X9_readsStep
  refine pm_aload_n dX9_readsStep_0 rfl rfl ?_
  refine pm_rcv (fun hb9 hc9 => ?_)
  refine pm_kI rfl (pm_V (y := zX9_readsStep) (z := zX9_stepHere) (As := []) zkX9_stepHere pm_q9 (by decide) tw_1685 tw_1687 tw_126 dX9_readsStep_1 rfl rfl (Nat.le_of_ble_eq_true rfl) hb9 hc9) (kcX9_stepHere hfl a0 m) (fun x2 m1 => ?_)
  refine pm_istore_n (ls2 := [.ref a0, .int x2, pmU]) dX9_readsStep_4 rfl rfl (Nat.le_of_ble_eq_true rfl) rfl ?_
  refine pm_iload_n dX9_readsStep_5 rfl rfl ?_
  refine pm_iconst (v := (-1)) dX9_readsStep_6 ki_n1 ?_
  refine pm_icmp_ne (tgt := 19) dX9_readsStep_7 rfl ?_ ?_
  · exact gX9_readsStep_j19 hfl rs a0 x2 m1 hrs
  · refine pm_aload_n dX9_readsStep_10 rfl rfl ?_
    refine pm_iconst (v := 1) dX9_readsStep_11 ki_1 ?_
    refine pm_aload_n dX9_readsStep_12 rfl rfl ?_
    refine fg_9_4 (y := zX9_readsStep) (Or.inl tw_1381) dX9_readsStep_13 (fun x49 => ?_)
    refine pm_rcv (fun hb9 hc9 => ?_)
    refine pm_kV rfl (pm_V (y := zX9_readsStep) (z := zX9_wrong) (As := [.int 1, .int x49]) zkX9_wrong pm_q9 (by decide) tw_1597 tw_1599 tw_109 dX9_readsStep_16 rfl rfl (Nat.le_of_ble_eq_true rfl) hb9 hc9) (kcX9_wrong hfl a0 1 x49 m1) (fun m50 => ?_)
    exact gX9_readsStep_j19 hfl rs a0 x2 m50 hrs
set_option maxRecDepth 100000 in
set_option maxHeartbeats 4000000 in
theorem kcX9_readsStep_N0 (hfl : l.flags = flags0) : ∀ (n d : Nat) (b0 : Nat) (m : pmM), pm_C l Γ zX9_readsStep (d + 4 + 1 * n) [.ref b0] m (X9_readsStep_N n b0 m)
  | 0, d, b0, m => fun o m9 h => by cases h
  | n + 1, d, b0, m => by
    have h := kcX9_readsStep (d := d + 1 * n) hfl (X9_readsStep_N n) b0 m (fun b0 m => by
      have h2 := kcX9_readsStep_N0 hfl n d b0 m
      rw [show d + 1 * n + 4 = d + 4 + 1 * n by omega]
      exact h2)
    rw [show d + 4 + 1 * (n + 1) = d + 1 * n + 5 by omega]
    exact h
theorem kcX9_readsStep_N (hfl : l.flags = flags0) (n : Nat) (b0 : Nat) (m : pmM) : pm_C l Γ zX9_readsStep (d + 4 + 1 * n) [.ref b0] m (X9_readsStep_N n b0 m) := kcX9_readsStep_N0 hfl n d b0 m
-- StruckPageModel.sentence(I)I
abbrev zX9_sentence : pmY := (⟨"StruckPageModel", "sentence", "(I)I"⟩, cX9_sentence, 4, some .int, [])
def X9_sentence_L126 (l0 : Nat) (l2 : Int32) (again126 : (Int32 × pmM) → pmR) (s126 : Int32 × pmM) : pmR := if l2 ≤ s126.1 then (pm_oI l2 s126.2) else (pm_gR 9 l0 25 s126.2 fun r12 => pm_gR 9 l0 26 s126.2 fun r13 => pm_ld 100 r13 s126.1 s126.2 fun x14 => pm_st 100 r12 s126.1 x14 s126.2 fun m15 => pm_bI (s126.1 + 1) fun x16 => again126 (x16, m15))
def X9_sentence_j102 (l0 : Nat) (l2 : Int32) (m : pmM) : pmR := pm_gI 9 l0 5 m fun x9 => if x9 = 0 then (pm_pI 9 l0 3 (-1) m fun m10 => pm_pI 9 l0 33 l2 m10 fun m11 => pm_lp pm_N (X9_sentence_L126 l0 l2) (0, m11)) else (pm_rc 9 l0 m <| pm_cI (X9_faulty l0 m) fun x18 m17 => pm_oI x18 m17)
def X9_sentence_j95 (again46 : (Int32 × pmM) → pmR) (l0 : Nat) (l2 : Int32) (m : pmM) : pmR := pm_rc 9 l0 m <| pm_cV (X9_blanks l0 m) fun m25 => again46 (l2, m25)
def X9_sentence_L46 (l0 : Nat) (again46 : (Int32 × pmM) → pmR) (s46 : Int32 × pmM) : pmR := pm_gI 9 l0 5 s46.2 fun x8 => if x8 = 0 then (pm_gI 9 l0 4 s46.2 fun x19 => pm_gI 9 l0 2 s46.2 fun x20 => if x20 ≤ x19 then (X9_sentence_j102 l0 s46.1 s46.2) else (pm_rc 9 l0 s46.2 <| pm_cI (X9_wordsOwn l0 s46.1 12 s46.2) fun x22 m21 => pm_rc 9 l0 m21 <| pm_cV (X9_sign l0 59 m21) fun m23 => pm_gI 9 l0 5 m23 fun x24 => if x24 = 0 then (pm_gR 9 l0 26 m23 fun r26 => pm_st 100 r26 s46.1 x22 m23 fun m27 => pm_bI (s46.1 + 1) fun x28 => X9_sentence_j95 again46 l0 x28 m27) else (X9_sentence_j95 again46 l0 s46.1 m23))) else (X9_sentence_j102 l0 s46.1 s46.2)
def X9_sentence_j29 (l0 : Nat) (l1 : Int32) (t0 : Int32) (t1 : Nat) (m : pmM) : pmR := pm_rc 9 t1 m <| pm_cI (X9_bad t1 t0 1 1 m) fun x6 m5 => if x6 = 0 then (pm_rc 9 l0 m5 <| pm_cV (X9_starts l0 l1 m5) fun m7 => pm_lp pm_N (X9_sentence_L46 l0) (0, m7)) else (pm_oI 0 m5)
def X9_sentence_j24 (l0 : Nat) (l1 : Int32) (t0 : Nat) (m : pmM) : pmR := X9_sentence_j29 l0 l1 1 t0 m
def X9_sentence (a0 : Nat) (a1 : Int32) (m : pmM) : pmR := pm_pI 9 a0 0 0 m fun m1 => pm_gI 9 a0 1 m1 fun x2 => pm_cI (X9_in a1 0 x2 m1) fun x4 m3 => if x4 = 0 then (X9_sentence_j24 a0 a1 a0 m3) else (if a1 ≤ 60 then (X9_sentence_j29 a0 a1 0 a0 m3) else (X9_sentence_j24 a0 a1 a0 m3))
theorem zkX9_sentence : pm_zOk zX9_sentence 1 := ⟨rfl, tw_1672, tw_168, by decide +kernel, by decide⟩
set_option maxRecDepth 100000 in
set_option maxHeartbeats 4000000 in
theorem gX9_sentence_L126 (hfl : l.flags = flags0) (l0 : Nat) (l2 : Int32) : ∀ (n : Nat) (s : Int32 × pmM), pm_G l Γ zX9_sentence (d + 4) 126 [.ref l0, pmU, .int l2, .int s.1] [] s.2 (pm_lp n (X9_sentence_L126 l0 l2) s) :=
  pm_loop (lsf := fun s : Int32 × pmM => [.ref l0, pmU, .int l2, .int s.1]) (mf := fun s : Int32 × pmM => s.2) (fun again126 hag126 s126 => by
    unfold X9_sentence_L126
    refine pm_iload_n dX9_sentence_126 rfl rfl ?_
    refine pm_iload_n dX9_sentence_127 rfl rfl ?_
    refine pm_icmp_ge (tgt := 149) dX9_sentence_128 rfl ?_ ?_
    · refine pm_iload_n dX9_sentence_149 rfl rfl ?_
      exact pm_iret rfl dX9_sentence_150
    · refine pm_aload_n dX9_sentence_131 rfl rfl ?_
      refine fg_9_25 (y := zX9_sentence) (Or.inl tw_1402) dX9_sentence_132 (fun r12 => ?_)
      refine pm_iload_n dX9_sentence_135 rfl rfl ?_
      refine pm_aload_n dX9_sentence_136 rfl rfl ?_
      refine fg_9_26 (y := zX9_sentence) (Or.inl tw_1403) dX9_sentence_137 (fun r13 => ?_)
      refine pm_iload_n dX9_sentence_140 rfl rfl ?_
      refine pm_iald (y := zX9_sentence) dX9_sentence_141 (fun x14 => ?_)
      refine pm_iast (y := zX9_sentence) dX9_sentence_142 (fun m15 => ?_)
      refine pm_iincn (y := zX9_sentence) dX9_sentence_143 rfl ki_1 rfl (Nat.le_of_ble_eq_true rfl) (fun x16 => ?_)
      refine pm_eqls (ls2 := [.ref l0, pmU, .int l2, .int x16]) rfl ?_
      refine pm_goto (tgt := 126) dX9_sentence_146 rfl ?_
      exact hag126 (x16, m15))
set_option maxRecDepth 100000 in
set_option maxHeartbeats 4000000 in
theorem gX9_sentence_j102 (hfl : l.flags = flags0) (l0 : Nat) (l2 : Int32) (m : pmM) : pm_G l Γ zX9_sentence (d + 4) 102 [.ref l0, pmU, .int l2, pmU] [] m (X9_sentence_j102 l0 l2 m) := by
  unfold X9_sentence_j102
  refine pm_aload_n dX9_sentence_102 rfl rfl ?_
  refine fg_9_5 (y := zX9_sentence) (Or.inl tw_1382) dX9_sentence_103 (fun x9 => ?_)
  refine pm_if_eq (tgt := 114) dX9_sentence_106 rfl ?_ ?_
  · refine pm_aload_n dX9_sentence_114 rfl rfl ?_
    refine pm_iconst (v := (-1)) dX9_sentence_115 ki_n1 ?_
    refine fp_9_3 (y := zX9_sentence) (Or.inl tw_1380) dX9_sentence_116 (fun m10 => ?_)
    refine pm_aload_n dX9_sentence_119 rfl rfl ?_
    refine pm_iload_n dX9_sentence_120 rfl rfl ?_
    refine fp_9_33 (y := zX9_sentence) (Or.inl tw_1410) dX9_sentence_121 (fun m11 => ?_)
    refine pm_iconst (v := 0) dX9_sentence_124 ki_0 ?_
    refine pm_istore_n (ls2 := [.ref l0, pmU, .int l2, .int 0]) dX9_sentence_125 rfl rfl (Nat.le_of_ble_eq_true rfl) rfl ?_
    exact gX9_sentence_L126 hfl l0 l2 pm_N (0, m11)
  · refine pm_aload_n dX9_sentence_109 rfl rfl ?_
    refine pm_rcv (fun hb9 hc9 => ?_)
    refine pm_kI rfl (pm_V (y := zX9_sentence) (z := zX9_faulty) (As := []) zkX9_faulty pm_q9 (by decide) tw_1625 tw_1627 tw_115 dX9_sentence_110 rfl rfl (Nat.le_of_ble_eq_true rfl) hb9 hc9) (kcX9_faulty hfl l0 m) (fun x18 m17 => ?_)
    exact pm_iret rfl dX9_sentence_113
set_option maxRecDepth 100000 in
set_option maxHeartbeats 4000000 in
theorem gX9_sentence_j95 (hfl : l.flags = flags0) (again46 : (Int32 × pmM) → pmR) (l0 : Nat) (l2 : Int32) (m : pmM) (hag46 : ∀ s : Int32 × pmM, pm_G l Γ zX9_sentence (d + 4) 46 [.ref l0, pmU, .int s.1, pmU] [] s.2 (again46 s)) : pm_G l Γ zX9_sentence (d + 4) 95 [.ref l0, pmU, .int l2, pmU] [] m (X9_sentence_j95 again46 l0 l2 m) := by
  unfold X9_sentence_j95
  refine pm_aload_n dX9_sentence_95 rfl rfl ?_
  refine pm_rcv (fun hb9 hc9 => ?_)
  refine pm_kV rfl (pm_V (y := zX9_sentence) (z := zX9_blanks) (As := []) zkX9_blanks pm_q9 (by decide) tw_1567 tw_1569 tw_103 dX9_sentence_96 rfl rfl (Nat.le_of_ble_eq_true rfl) hb9 hc9) (kcX9_blanks hfl l0 m) (fun m25 => ?_)
  refine pm_goto (tgt := 46) dX9_sentence_99 rfl ?_
  exact hag46 (l2, m25)
set_option maxRecDepth 100000 in
set_option maxHeartbeats 4000000 in
theorem gX9_sentence_L46 (hfl : l.flags = flags0) (l0 : Nat) : ∀ (n : Nat) (s : Int32 × pmM), pm_G l Γ zX9_sentence (d + 4) 46 [.ref l0, pmU, .int s.1, pmU] [] s.2 (pm_lp n (X9_sentence_L46 l0) s) :=
  pm_loop (lsf := fun s : Int32 × pmM => [.ref l0, pmU, .int s.1, pmU]) (mf := fun s : Int32 × pmM => s.2) (fun again46 hag46 s46 => by
    unfold X9_sentence_L46
    refine pm_aload_n dX9_sentence_46 rfl rfl ?_
    refine fg_9_5 (y := zX9_sentence) (Or.inl tw_1382) dX9_sentence_47 (fun x8 => ?_)
    refine pm_if_ne (tgt := 102) dX9_sentence_50 rfl ?_ ?_
    · exact gX9_sentence_j102 hfl l0 s46.1 s46.2
    · refine pm_aload_n dX9_sentence_53 rfl rfl ?_
      refine fg_9_4 (y := zX9_sentence) (Or.inl tw_1381) dX9_sentence_54 (fun x19 => ?_)
      refine pm_aload_n dX9_sentence_57 rfl rfl ?_
      refine fg_9_2 (y := zX9_sentence) (Or.inl tw_1379) dX9_sentence_58 (fun x20 => ?_)
      refine pm_icmp_ge (tgt := 102) dX9_sentence_61 rfl ?_ ?_
      · exact gX9_sentence_j102 hfl l0 s46.1 s46.2
      · refine pm_aload_n dX9_sentence_64 rfl rfl ?_
        refine pm_iload_n dX9_sentence_65 rfl rfl ?_
        refine pm_bipush (v := 12) dX9_sentence_66 kb_12 ?_
        refine pm_rcv (fun hb9 hc9 => ?_)
        refine pm_kI rfl (pm_V (y := zX9_sentence) (z := zX9_wordsOwn) (As := [.int s46.1, .int 12]) zkX9_wordsOwn pm_q9 (by decide) tw_1609 tw_1611 tw_112 dX9_sentence_68 rfl rfl (Nat.le_of_ble_eq_true rfl) hb9 hc9) (kcX9_wordsOwn hfl l0 s46.1 12 s46.2) (fun x22 m21 => ?_)
        refine pm_istore_n (ls2 := [.ref l0, pmU, .int s46.1, .int x22]) dX9_sentence_71 rfl rfl (Nat.le_of_ble_eq_true rfl) rfl ?_
        refine pm_aload_n dX9_sentence_72 rfl rfl ?_
        refine pm_bipush (v := 59) dX9_sentence_73 kb_59 ?_
        refine pm_rcv (fun hb9 hc9 => ?_)
        refine pm_kV rfl (pm_V (y := zX9_sentence) (z := zX9_sign) (As := [.int 59]) zkX9_sign pm_q9 (by decide) tw_1621 tw_1623 tw_114 dX9_sentence_75 rfl rfl (Nat.le_of_ble_eq_true rfl) hb9 hc9) (kcX9_sign hfl l0 59 m21) (fun m23 => ?_)
        refine pm_aload_n dX9_sentence_78 rfl rfl ?_
        refine fg_9_5 (y := zX9_sentence) (Or.inl tw_1382) dX9_sentence_79 (fun x24 => ?_)
        refine pm_if_ne (tgt := 95) dX9_sentence_82 rfl ?_ ?_
        · refine pm_drop (ls2 := [.ref l0, pmU, .int s46.1, pmU]) (Nat.le_refl _) (pm_le_spec (pm_le_v (pm_le_u (pm_le_v (pm_le_u (pm_le_n)))))) ?_
          exact gX9_sentence_j95 hfl again46 l0 s46.1 m23 hag46
        · refine pm_aload_n dX9_sentence_85 rfl rfl ?_
          refine fg_9_26 (y := zX9_sentence) (Or.inl tw_1403) dX9_sentence_86 (fun r26 => ?_)
          refine pm_iload_n dX9_sentence_89 rfl rfl ?_
          refine pm_iload_n dX9_sentence_90 rfl rfl ?_
          refine pm_iast (y := zX9_sentence) dX9_sentence_91 (fun m27 => ?_)
          refine pm_iincn (y := zX9_sentence) dX9_sentence_92 rfl ki_1 rfl (Nat.le_of_ble_eq_true rfl) (fun x28 => ?_)
          refine pm_eqls (ls2 := [.ref l0, pmU, .int x28, .int x22]) rfl ?_
          refine pm_drop (ls2 := [.ref l0, pmU, .int x28, pmU]) (Nat.le_refl _) (pm_le_spec (pm_le_v (pm_le_u (pm_le_v (pm_le_u (pm_le_n)))))) ?_
          exact gX9_sentence_j95 hfl again46 l0 x28 m27 hag46)
set_option maxRecDepth 100000 in
set_option maxHeartbeats 4000000 in
theorem gX9_sentence_j29 (hfl : l.flags = flags0) (l0 : Nat) (l1 : Int32) (t0 : Int32) (t1 : Nat) (m : pmM) : pm_G l Γ zX9_sentence (d + 4) 29 [.ref l0, .int l1, pmU, pmU] [.int t0, .ref t1] m (X9_sentence_j29 l0 l1 t0 t1 m) := by
  unfold X9_sentence_j29
  refine pm_iconst (v := 1) dX9_sentence_29 ki_1 ?_
  refine pm_iconst (v := 1) dX9_sentence_30 ki_1 ?_
  refine pm_rcv (fun hb9 hc9 => ?_)
  refine pm_kI rfl (pm_V (y := zX9_sentence) (z := zX9_bad) (As := [.int t0, .int 1, .int 1]) zkX9_bad pm_q9 (by decide) tw_1559 tw_1561 tw_101 dX9_sentence_31 rfl rfl (Nat.le_of_ble_eq_true rfl) hb9 hc9) (kcX9_bad hfl t1 t0 1 1 m) (fun x6 m5 => ?_)
  refine pm_if_eq (tgt := 39) dX9_sentence_34 rfl ?_ ?_
  · refine pm_aload_n dX9_sentence_39 rfl rfl ?_
    refine pm_iload_n dX9_sentence_40 rfl rfl ?_
    refine pm_rcv (fun hb9 hc9 => ?_)
    refine pm_kV rfl (pm_V (y := zX9_sentence) (z := zX9_starts) (As := [.int l1]) zkX9_starts pm_q9 (by decide) tw_1563 tw_1565 tw_102 dX9_sentence_41 rfl rfl (Nat.le_of_ble_eq_true rfl) hb9 hc9) (kcX9_starts hfl l0 l1 m5) (fun m7 => ?_)
    refine pm_iconst (v := 0) dX9_sentence_44 ki_0 ?_
    refine pm_istore_n (ls2 := [.ref l0, .int l1, .int 0, pmU]) dX9_sentence_45 rfl rfl (Nat.le_of_ble_eq_true rfl) rfl ?_
    refine pm_drop (ls2 := [.ref l0, pmU, .int 0, pmU]) (Nat.le_refl _) (pm_le_spec (pm_le_v (pm_le_u (pm_le_v (pm_le_u (pm_le_n)))))) ?_
    exact gX9_sentence_L46 hfl l0 pm_N (0, m7)
  · refine pm_iconst (v := 0) dX9_sentence_37 ki_0 ?_
    exact pm_iret rfl dX9_sentence_38
set_option maxRecDepth 100000 in
set_option maxHeartbeats 4000000 in
theorem gX9_sentence_j24 (hfl : l.flags = flags0) (l0 : Nat) (l1 : Int32) (t0 : Nat) (m : pmM) : pm_G l Γ zX9_sentence (d + 4) 24 [.ref l0, .int l1, pmU, pmU] [.ref t0] m (X9_sentence_j24 l0 l1 t0 m) := by
  unfold X9_sentence_j24
  refine pm_iconst (v := 1) dX9_sentence_24 ki_1 ?_
  refine pm_goto (tgt := 29) dX9_sentence_25 rfl ?_
  exact gX9_sentence_j29 hfl l0 l1 1 t0 m
set_option maxRecDepth 100000 in
set_option maxHeartbeats 4000000 in
theorem kcX9_sentence (hfl : l.flags = flags0) (a0 : Nat) (a1 : Int32) (m : pmM) : pm_C l Γ zX9_sentence (d + 4) [.ref a0, .int a1] m (X9_sentence a0 a1 m) := by
  refine pm_enter (ls := [.ref a0, .int a1, pmU, pmU]) hfl (by decide +kernel) rfl (Nat.le_of_ble_eq_true rfl) rfl (Nat.le_of_ble_eq_true rfl) ?_
  unfold X9_sentence
  refine pm_aload_n dX9_sentence_0 rfl rfl ?_
  refine pm_iconst (v := 0) dX9_sentence_1 ki_0 ?_
  refine fp_9_0 (y := zX9_sentence) (Or.inl tw_1377) dX9_sentence_2 (fun m1 => ?_)
  refine pm_aload_n dX9_sentence_5 rfl rfl ?_
  refine pm_iload_n dX9_sentence_6 rfl rfl ?_
  refine pm_iconst (v := 0) dX9_sentence_7 ki_0 ?_
  refine pm_aload_n dX9_sentence_8 rfl rfl ?_
  refine fg_9_1 (y := zX9_sentence) (Or.inl tw_1378) dX9_sentence_9 (fun x2 => ?_)
  refine pm_kI rfl (pm_S (y := zX9_sentence) (z := zX9_in) (As := [.int a1, .int 0, .int x2]) zkX9_in tw_1556 tw_1557 dX9_sentence_12 rfl rfl (Nat.le_of_ble_eq_true rfl)) (kcX9_in hfl a1 0 x2 m1) (fun x4 m3 => ?_)
  refine pm_if_eq (tgt := 24) dX9_sentence_15 rfl ?_ ?_
  · exact gX9_sentence_j24 hfl a0 a1 a0 m3
  · refine pm_iload_n dX9_sentence_18 rfl rfl ?_
    refine pm_bipush (v := 60) dX9_sentence_19 kb_60 ?_
    refine pm_icmp_le (tgt := 28) dX9_sentence_21 rfl ?_ ?_
    · refine pm_iconst (v := 0) dX9_sentence_28 ki_0 ?_
      exact gX9_sentence_j29 hfl a0 a1 0 a0 m3
    · exact gX9_sentence_j24 hfl a0 a1 a0 m3
-- StruckPageModel.fault()I
abbrev zX9_fault : pmY := (⟨"StruckPageModel", "fault", "()I"⟩, cX9_fault, 1, some .int, [])
def X9_fault (a0 : Nat) (m : pmM) : pmR := pm_pI 9 a0 0 0 m fun m1 => pm_gI 9 a0 3 m1 fun x2 => pm_oI x2 m1
theorem zkX9_fault : pm_zOk zX9_fault 0 := ⟨rfl, tw_1676, tw_168, by decide +kernel, by decide⟩
set_option maxRecDepth 100000 in
set_option maxHeartbeats 4000000 in
theorem kcX9_fault (hfl : l.flags = flags0) (a0 : Nat) (m : pmM) : pm_C l Γ zX9_fault (d + 0) [.ref a0] m (X9_fault a0 m) := by
  refine pm_enter (ls := [.ref a0]) hfl (by decide +kernel) rfl (Nat.le_of_ble_eq_true rfl) rfl (Nat.le_of_ble_eq_true rfl) ?_
  unfold X9_fault
  refine pm_aload_n dX9_fault_0 rfl rfl ?_
  refine pm_iconst (v := 0) dX9_fault_1 ki_0 ?_
  refine fp_9_0 (y := zX9_fault) (Or.inl tw_1377) dX9_fault_2 (fun m1 => ?_)
  refine pm_aload_n dX9_fault_5 rfl rfl ?_
  refine fg_9_3 (y := zX9_fault) (Or.inl tw_1380) dX9_fault_6 (fun x2 => ?_)
  exact pm_iret rfl dX9_fault_9
-- StruckPageModel.costBy(IIIIIII)I
abbrev zX9_costBy : pmY := (⟨"StruckPageModel", "costBy", "(IIIIIII)I"⟩, cX9_costBy, 8, some .int, [])
def X9_costBy (a0 : Nat) (a1 : Int32) (a2 : Int32) (a3 : Int32) (a4 : Int32) (a5 : Int32) (a6 : Int32) (a7 : Int32) (m : pmM) : pmR := pm_gR 9 a0 24 m fun r1 => pm_st 100 r1 0 a1 m fun m2 => pm_gR 9 a0 24 m2 fun r3 => pm_st 100 r3 1 a2 m2 fun m4 => pm_gR 9 a0 24 m4 fun r5 => pm_st 100 r5 2 a3 m4 fun m6 => pm_gR 9 a0 24 m6 fun r7 => pm_st 100 r7 3 a4 m6 fun m8 => pm_gR 9 a0 24 m8 fun r9 => pm_st 100 r9 4 a5 m8 fun m10 => pm_gR 9 a0 24 m10 fun r11 => pm_st 100 r11 5 a6 m10 fun m12 => pm_gR 9 a0 24 m12 fun r13 => pm_st 100 r13 6 a7 m12 fun m14 => pm_rc 9 a0 m14 <| pm_cI (X9_byLaw a0 m14) fun x16 m15 => pm_oI x16 m15
theorem zkX9_costBy : pm_zOk zX9_costBy 7 := ⟨rfl, tw_1725, tw_168, by decide +kernel, by decide⟩
set_option maxRecDepth 100000 in
set_option maxHeartbeats 4000000 in
theorem kcX9_costBy (hfl : l.flags = flags0) (a0 : Nat) (a1 : Int32) (a2 : Int32) (a3 : Int32) (a4 : Int32) (a5 : Int32) (a6 : Int32) (a7 : Int32) (m : pmM) : pm_C l Γ zX9_costBy (d + 3) [.ref a0, .int a1, .int a2, .int a3, .int a4, .int a5, .int a6, .int a7] m (X9_costBy a0 a1 a2 a3 a4 a5 a6 a7 m) := by
  refine pm_enter (ls := [.ref a0, .int a1, .int a2, .int a3, .int a4, .int a5, .int a6, .int a7]) hfl (by decide +kernel) rfl (Nat.le_of_ble_eq_true rfl) rfl (Nat.le_of_ble_eq_true rfl) ?_
  unfold X9_costBy
  refine pm_aload_n dX9_costBy_0 rfl rfl ?_
  refine fg_9_24 (y := zX9_costBy) (Or.inl tw_1401) dX9_costBy_1 (fun r1 => ?_)
  refine pm_iconst (v := 0) dX9_costBy_4 ki_0 ?_
  refine pm_iload_n dX9_costBy_5 rfl rfl ?_
  refine pm_iast (y := zX9_costBy) dX9_costBy_6 (fun m2 => ?_)
  refine pm_aload_n dX9_costBy_7 rfl rfl ?_
  refine fg_9_24 (y := zX9_costBy) (Or.inl tw_1401) dX9_costBy_8 (fun r3 => ?_)
  refine pm_iconst (v := 1) dX9_costBy_11 ki_1 ?_
  refine pm_iload_n dX9_costBy_12 rfl rfl ?_
  refine pm_iast (y := zX9_costBy) dX9_costBy_13 (fun m4 => ?_)
  refine pm_aload_n dX9_costBy_14 rfl rfl ?_
  refine fg_9_24 (y := zX9_costBy) (Or.inl tw_1401) dX9_costBy_15 (fun r5 => ?_)
  refine pm_iconst (v := 2) dX9_costBy_18 ki_2 ?_
  refine pm_iload_n dX9_costBy_19 rfl rfl ?_
  refine pm_iast (y := zX9_costBy) dX9_costBy_20 (fun m6 => ?_)
  refine pm_aload_n dX9_costBy_21 rfl rfl ?_
  refine fg_9_24 (y := zX9_costBy) (Or.inl tw_1401) dX9_costBy_22 (fun r7 => ?_)
  refine pm_iconst (v := 3) dX9_costBy_25 ki_3 ?_
  refine pm_iload dX9_costBy_26 rfl ?_
  refine pm_iast (y := zX9_costBy) dX9_costBy_28 (fun m8 => ?_)
  refine pm_aload_n dX9_costBy_29 rfl rfl ?_
  refine fg_9_24 (y := zX9_costBy) (Or.inl tw_1401) dX9_costBy_30 (fun r9 => ?_)
  refine pm_iconst (v := 4) dX9_costBy_33 ki_4 ?_
  refine pm_iload dX9_costBy_34 rfl ?_
  refine pm_iast (y := zX9_costBy) dX9_costBy_36 (fun m10 => ?_)
  refine pm_aload_n dX9_costBy_37 rfl rfl ?_
  refine fg_9_24 (y := zX9_costBy) (Or.inl tw_1401) dX9_costBy_38 (fun r11 => ?_)
  refine pm_iconst (v := 5) dX9_costBy_41 ki_5 ?_
  refine pm_iload dX9_costBy_42 rfl ?_
  refine pm_iast (y := zX9_costBy) dX9_costBy_44 (fun m12 => ?_)
  refine pm_aload_n dX9_costBy_45 rfl rfl ?_
  refine fg_9_24 (y := zX9_costBy) (Or.inl tw_1401) dX9_costBy_46 (fun r13 => ?_)
  refine pm_bipush (v := 6) dX9_costBy_49 kb_6 ?_
  refine pm_iload dX9_costBy_51 rfl ?_
  refine pm_iast (y := zX9_costBy) dX9_costBy_53 (fun m14 => ?_)
  refine pm_aload_n dX9_costBy_54 rfl rfl ?_
  refine pm_rcv (fun hb9 hc9 => ?_)
  refine pm_kI rfl (pm_V (y := zX9_costBy) (z := zX9_byLaw) (As := []) zkX9_byLaw pm_q9 (by decide) tw_1726 tw_1728 tw_134 dX9_costBy_55 rfl rfl (Nat.le_of_ble_eq_true rfl) hb9 hc9) (kcX9_byLaw hfl a0 m14) (fun x16 m15 => ?_)
  exact pm_iret rfl dX9_costBy_58
-- StruckPageModel.ones(I)I
abbrev zX9_ones : pmY := (⟨"StruckPageModel", "ones", "(I)I"⟩, cX9_ones, 3, some .int, [])
def X9_ones_L4 (l0 : Int32) (again4 : (Int32 × Int32 × pmM) → pmR) (s4 : Int32 × Int32 × pmM) : pmR := if (8 : Int32) ≤ s4.2.1 then (pm_oI s4.1 s4.2.2) else (pm_bI (s4.1 + ((l0 >>> (s4.2.1 &&& 31)) &&& 1)) fun x1 => pm_bI (s4.2.1 + 1) fun x2 => again4 (x1, x2, s4.2.2))
def X9_ones (a0 : Int32) (m : pmM) : pmR := pm_lp pm_N (X9_ones_L4 a0) (0, 0, m)
theorem zkX9_ones : pm_zOk zX9_ones 1 := ⟨rfl, tw_1713, tw_168, by decide +kernel, by decide⟩
set_option maxRecDepth 100000 in
set_option maxHeartbeats 4000000 in
theorem gX9_ones_L4 (hfl : l.flags = flags0) (l0 : Int32) : ∀ (n : Nat) (s : Int32 × Int32 × pmM), pm_G l Γ zX9_ones (d + 0) 4 [.int l0, .int s.1, .int s.2.1] [] s.2.2 (pm_lp n (X9_ones_L4 l0) s) :=
  pm_loop (lsf := fun s : Int32 × Int32 × pmM => [.int l0, .int s.1, .int s.2.1]) (mf := fun s : Int32 × Int32 × pmM => s.2.2) (fun again4 hag4 s4 => by
    unfold X9_ones_L4
    refine pm_iload_n dX9_ones_4 rfl rfl ?_
    refine pm_bipush (v := 8) dX9_ones_5 kb_8 ?_
    refine pm_icmp_ge (tgt := 24) dX9_ones_7 rfl ?_ ?_
    · refine pm_iload_n dX9_ones_24 rfl rfl ?_
      exact pm_iret rfl dX9_ones_25
    · refine pm_iload_n dX9_ones_10 rfl rfl ?_
      refine pm_iload_n dX9_ones_11 rfl rfl ?_
      refine pm_iload_n dX9_ones_12 rfl rfl ?_
      refine pm_ishr dX9_ones_13 ?_
      refine pm_iconst (v := 1) dX9_ones_14 ki_1 ?_
      refine pm_iand dX9_ones_15 ?_
      refine pm_iadd dX9_ones_16 ?_
      refine pm_bIn (fun x1 => ?_)
      refine pm_istore_n (ls2 := [.int l0, .int x1, .int s4.2.1]) dX9_ones_17 rfl rfl (Nat.le_of_ble_eq_true rfl) rfl ?_
      refine pm_iincn (y := zX9_ones) dX9_ones_18 rfl ki_1 rfl (Nat.le_of_ble_eq_true rfl) (fun x2 => ?_)
      refine pm_eqls (ls2 := [.int l0, .int x1, .int x2]) rfl ?_
      refine pm_goto (tgt := 4) dX9_ones_21 rfl ?_
      exact hag4 (x1, x2, s4.2.2))
set_option maxRecDepth 100000 in
set_option maxHeartbeats 4000000 in
theorem kcX9_ones (hfl : l.flags = flags0) (a0 : Int32) (m : pmM) : pm_C l Γ zX9_ones (d + 0) [.int a0] m (X9_ones a0 m) := by
  refine pm_enter (ls := [.int a0, pmU, pmU]) hfl (by decide +kernel) rfl (Nat.le_of_ble_eq_true rfl) rfl (Nat.le_of_ble_eq_true rfl) ?_
  unfold X9_ones
  refine pm_iconst (v := 0) dX9_ones_0 ki_0 ?_
  refine pm_istore_n (ls2 := [.int a0, .int 0, pmU]) dX9_ones_1 rfl rfl (Nat.le_of_ble_eq_true rfl) rfl ?_
  refine pm_iconst (v := 0) dX9_ones_2 ki_0 ?_
  refine pm_istore_n (ls2 := [.int a0, .int 0, .int 0]) dX9_ones_3 rfl rfl (Nat.le_of_ble_eq_true rfl) rfl ?_
  exact gX9_ones_L4 hfl a0 pm_N (0, 0, m)
-- StruckPageModel.span2(II)I
abbrev zX9_span2 : pmY := (⟨"StruckPageModel", "span2", "(II)I"⟩, cX9_span2, 2, some .int, [])
def X9_span2 (a0 : Int32) (a1 : Int32) (m : pmM) : pmR := pm_oI (((1 : Int32) <<< ((a1 + 1) &&& 31)) - ((1 : Int32) <<< (a0 &&& 31))) m
theorem zkX9_span2 : pm_zOk zX9_span2 2 := ⟨rfl, tw_1710, tw_168, by decide +kernel, by decide⟩
set_option maxRecDepth 100000 in
set_option maxHeartbeats 4000000 in
theorem kcX9_span2 (hfl : l.flags = flags0) (a0 : Int32) (a1 : Int32) (m : pmM) : pm_C l Γ zX9_span2 (d + 0) [.int a0, .int a1] m (X9_span2 a0 a1 m) := by
  refine pm_enter (ls := [.int a0, .int a1]) hfl (by decide +kernel) rfl (Nat.le_of_ble_eq_true rfl) rfl (Nat.le_of_ble_eq_true rfl) ?_
  unfold X9_span2
  refine pm_iconst (v := 1) dX9_span2_0 ki_1 ?_
  refine pm_iload_n dX9_span2_1 rfl rfl ?_
  refine pm_iconst (v := 1) dX9_span2_2 ki_1 ?_
  refine pm_iadd dX9_span2_3 ?_
  refine pm_ishl dX9_span2_4 ?_
  refine pm_iconst (v := 1) dX9_span2_5 ki_1 ?_
  refine pm_iload_n dX9_span2_6 rfl rfl ?_
  refine pm_ishl dX9_span2_7 ?_
  refine pm_isub dX9_span2_8 ?_
  exact pm_iret rfl dX9_span2_9
-- StruckPageModel.leftIn([II)I
abbrev zX9_leftIn : pmY := (⟨"StruckPageModel", "leftIn", "([II)I"⟩, cX9_leftIn, 3, some .int, [])
def X9_leftIn (a0 : Nat) (a1 : Nat) (a2 : Int32) (m : pmM) : pmR := pm_gR 9 a0 16 m fun r1 => pm_ld 100 r1 a2 m fun x2 => pm_ld 100 a1 ((0 : Int32) + a2) m fun x3 => pm_cI (X9_ones x3 m) fun x5 m4 => pm_oI (x2 - x5) m4
theorem zkX9_leftIn : pm_zOk zX9_leftIn 2 := ⟨rfl, tw_1721, tw_168, by decide +kernel, by decide⟩
set_option maxRecDepth 100000 in
set_option maxHeartbeats 4000000 in
theorem kcX9_leftIn (hfl : l.flags = flags0) (a0 : Nat) (a1 : Nat) (a2 : Int32) (m : pmM) : pm_C l Γ zX9_leftIn (d + 1) [.ref a0, .ref a1, .int a2] m (X9_leftIn a0 a1 a2 m) := by
  refine pm_enter (ls := [.ref a0, .ref a1, .int a2]) hfl (by decide +kernel) rfl (Nat.le_of_ble_eq_true rfl) rfl (Nat.le_of_ble_eq_true rfl) ?_
  unfold X9_leftIn
  refine pm_aload_n dX9_leftIn_0 rfl rfl ?_
  refine fg_9_16 (y := zX9_leftIn) (Or.inl tw_1393) dX9_leftIn_1 (fun r1 => ?_)
  refine pm_iload_n dX9_leftIn_4 rfl rfl ?_
  refine pm_iald (y := zX9_leftIn) dX9_leftIn_5 (fun x2 => ?_)
  refine pm_aload_n dX9_leftIn_6 rfl rfl ?_
  refine pm_iconst (v := 0) dX9_leftIn_7 ki_0 ?_
  refine pm_iload_n dX9_leftIn_8 rfl rfl ?_
  refine pm_iadd dX9_leftIn_9 ?_
  refine pm_iald (y := zX9_leftIn) dX9_leftIn_10 (fun x3 => ?_)
  refine pm_kI rfl (pm_S (y := zX9_leftIn) (z := zX9_ones) (As := [.int x3]) zkX9_ones tw_1711 tw_1712 dX9_leftIn_11 rfl rfl (Nat.le_of_ble_eq_true rfl)) (kcX9_ones hfl x3 m) (fun x5 m4 => ?_)
  refine pm_isub dX9_leftIn_14 ?_
  exact pm_iret rfl dX9_leftIn_15
-- StruckPageModel.leftAll([I)I
abbrev zX9_leftAll : pmY := (⟨"StruckPageModel", "leftAll", "([I)I"⟩, cX9_leftAll, 4, some .int, [])
def X9_leftAll_L4 (l0 : Nat) (l1 : Nat) (again4 : (Int32 × Int32 × pmM) → pmR) (s4 : Int32 × Int32 × pmM) : pmR := pm_gI 9 l0 13 s4.2.2 fun x1 => if x1 ≤ s4.2.1 then (pm_oI s4.1 s4.2.2) else (pm_rc 9 l0 s4.2.2 <| pm_cI (X9_leftIn l0 l1 s4.2.1 s4.2.2) fun x3 m2 => pm_bI (s4.1 + x3) fun x4 => pm_bI (s4.2.1 + 1) fun x5 => again4 (x4, x5, m2))
def X9_leftAll (a0 : Nat) (a1 : Nat) (m : pmM) : pmR := pm_lp pm_N (X9_leftAll_L4 a0 a1) (0, 0, m)
theorem zkX9_leftAll : pm_zOk zX9_leftAll 1 := ⟨rfl, tw_1717, tw_168, by decide +kernel, by decide⟩
set_option maxRecDepth 100000 in
set_option maxHeartbeats 4000000 in
theorem gX9_leftAll_L4 (hfl : l.flags = flags0) (l0 : Nat) (l1 : Nat) : ∀ (n : Nat) (s : Int32 × Int32 × pmM), pm_G l Γ zX9_leftAll (d + 2) 4 [.ref l0, .ref l1, .int s.1, .int s.2.1] [] s.2.2 (pm_lp n (X9_leftAll_L4 l0 l1) s) :=
  pm_loop (lsf := fun s : Int32 × Int32 × pmM => [.ref l0, .ref l1, .int s.1, .int s.2.1]) (mf := fun s : Int32 × Int32 × pmM => s.2.2) (fun again4 hag4 s4 => by
    unfold X9_leftAll_L4
    refine pm_iload_n dX9_leftAll_4 rfl rfl ?_
    refine pm_aload_n dX9_leftAll_5 rfl rfl ?_
    refine fg_9_13 (y := zX9_leftAll) (Or.inl tw_1390) dX9_leftAll_6 (fun x1 => ?_)
    refine pm_icmp_ge (tgt := 27) dX9_leftAll_9 rfl ?_ ?_
    · refine pm_iload_n dX9_leftAll_27 rfl rfl ?_
      exact pm_iret rfl dX9_leftAll_28
    · refine pm_iload_n dX9_leftAll_12 rfl rfl ?_
      refine pm_aload_n dX9_leftAll_13 rfl rfl ?_
      refine pm_aload_n dX9_leftAll_14 rfl rfl ?_
      refine pm_iload_n dX9_leftAll_15 rfl rfl ?_
      refine pm_rcv (fun hb9 hc9 => ?_)
      refine pm_kI rfl (pm_V (y := zX9_leftAll) (z := zX9_leftIn) (As := [.ref l1, .int s4.2.1]) zkX9_leftIn pm_q9 (by decide) tw_1718 tw_1720 tw_132 dX9_leftAll_16 rfl rfl (Nat.le_of_ble_eq_true rfl) hb9 hc9) (kcX9_leftIn hfl l0 l1 s4.2.1 s4.2.2) (fun x3 m2 => ?_)
      refine pm_iadd dX9_leftAll_19 ?_
      refine pm_bIn (fun x4 => ?_)
      refine pm_istore_n (ls2 := [.ref l0, .ref l1, .int x4, .int s4.2.1]) dX9_leftAll_20 rfl rfl (Nat.le_of_ble_eq_true rfl) rfl ?_
      refine pm_iincn (y := zX9_leftAll) dX9_leftAll_21 rfl ki_1 rfl (Nat.le_of_ble_eq_true rfl) (fun x5 => ?_)
      refine pm_eqls (ls2 := [.ref l0, .ref l1, .int x4, .int x5]) rfl ?_
      refine pm_goto (tgt := 4) dX9_leftAll_24 rfl ?_
      exact hag4 (x4, x5, m2))
set_option maxRecDepth 100000 in
set_option maxHeartbeats 4000000 in
theorem kcX9_leftAll (hfl : l.flags = flags0) (a0 : Nat) (a1 : Nat) (m : pmM) : pm_C l Γ zX9_leftAll (d + 2) [.ref a0, .ref a1] m (X9_leftAll a0 a1 m) := by
  refine pm_enter (ls := [.ref a0, .ref a1, pmU, pmU]) hfl (by decide +kernel) rfl (Nat.le_of_ble_eq_true rfl) rfl (Nat.le_of_ble_eq_true rfl) ?_
  unfold X9_leftAll
  refine pm_iconst (v := 0) dX9_leftAll_0 ki_0 ?_
  refine pm_istore_n (ls2 := [.ref a0, .ref a1, .int 0, pmU]) dX9_leftAll_1 rfl rfl (Nat.le_of_ble_eq_true rfl) rfl ?_
  refine pm_iconst (v := 0) dX9_leftAll_2 ki_0 ?_
  refine pm_istore_n (ls2 := [.ref a0, .ref a1, .int 0, .int 0]) dX9_leftAll_3 rfl rfl (Nat.le_of_ble_eq_true rfl) rfl ?_
  exact gX9_leftAll_L4 hfl a0 a1 pm_N (0, 0, m)
-- StruckPageModel.costOf([IIII)I
abbrev zX9_costOf : pmY := (⟨"StruckPageModel", "costOf", "([IIII)I"⟩, cX9_costOf, 5, some .int, [])
def X9_costOf (a0 : Nat) (a1 : Nat) (a2 : Int32) (a3 : Int32) (a4 : Int32) (m : pmM) : pmR := pm_ld 100 a1 ((0 : Int32) + a2) m fun x1 => pm_cI (X9_span2 a3 a4 m) fun x3 m2 => pm_cI (X9_ones (x1 &&& x3) m2) fun x5 m4 => pm_rc 9 a0 m4 <| pm_cI (X9_leftAll a0 a1 m4) fun x7 m6 => pm_ld 100 a1 10 m6 fun x8 => pm_ld 100 a1 6 m6 fun x9 => pm_rc 9 a0 m6 <| pm_cI (X9_costBy a0 ((a4 - a3) + 1) x5 a3 a2 x7 x8 x9 m6) fun x11 m10 => pm_oI x11 m10
theorem zkX9_costOf : pm_zOk zX9_costOf 4 := ⟨rfl, tw_1707, tw_168, by decide +kernel, by decide⟩
set_option maxRecDepth 100000 in
set_option maxHeartbeats 4000000 in
theorem kcX9_costOf (hfl : l.flags = flags0) (a0 : Nat) (a1 : Nat) (a2 : Int32) (a3 : Int32) (a4 : Int32) (m : pmM) : pm_C l Γ zX9_costOf (d + 4) [.ref a0, .ref a1, .int a2, .int a3, .int a4] m (X9_costOf a0 a1 a2 a3 a4 m) := by
  refine pm_enter (ls := [.ref a0, .ref a1, .int a2, .int a3, .int a4]) hfl (by decide +kernel) rfl (Nat.le_of_ble_eq_true rfl) rfl (Nat.le_of_ble_eq_true rfl) ?_
  unfold X9_costOf
  refine pm_aload_n dX9_costOf_0 rfl rfl ?_
  refine pm_iload dX9_costOf_1 rfl ?_
  refine pm_iload_n dX9_costOf_3 rfl rfl ?_
  refine pm_isub dX9_costOf_4 ?_
  refine pm_iconst (v := 1) dX9_costOf_5 ki_1 ?_
  refine pm_iadd dX9_costOf_6 ?_
  refine pm_aload_n dX9_costOf_7 rfl rfl ?_
  refine pm_iconst (v := 0) dX9_costOf_8 ki_0 ?_
  refine pm_iload_n dX9_costOf_9 rfl rfl ?_
  refine pm_iadd dX9_costOf_10 ?_
  refine pm_iald (y := zX9_costOf) dX9_costOf_11 (fun x1 => ?_)
  refine pm_iload_n dX9_costOf_12 rfl rfl ?_
  refine pm_iload dX9_costOf_13 rfl ?_
  refine pm_kI rfl (pm_S (y := zX9_costOf) (z := zX9_span2) (As := [.int a3, .int a4]) zkX9_span2 tw_1708 tw_1709 dX9_costOf_15 rfl rfl (Nat.le_of_ble_eq_true rfl)) (kcX9_span2 hfl a3 a4 m) (fun x3 m2 => ?_)
  refine pm_iand dX9_costOf_18 ?_
  refine pm_kI rfl (pm_S (y := zX9_costOf) (z := zX9_ones) (As := [.int (x1 &&& x3)]) zkX9_ones tw_1711 tw_1712 dX9_costOf_19 rfl rfl (Nat.le_of_ble_eq_true rfl)) (kcX9_ones hfl (x1 &&& x3) m2) (fun x5 m4 => ?_)
  refine pm_iload_n dX9_costOf_22 rfl rfl ?_
  refine pm_iload_n dX9_costOf_23 rfl rfl ?_
  refine pm_aload_n dX9_costOf_24 rfl rfl ?_
  refine pm_aload_n dX9_costOf_25 rfl rfl ?_
  refine pm_rcv (fun hb9 hc9 => ?_)
  refine pm_kI rfl (pm_V (y := zX9_costOf) (z := zX9_leftAll) (As := [.ref a1]) zkX9_leftAll pm_q9 (by decide) tw_1714 tw_1716 tw_131 dX9_costOf_26 rfl rfl (Nat.le_of_ble_eq_true rfl) hb9 hc9) (kcX9_leftAll hfl a0 a1 m4) (fun x7 m6 => ?_)
  refine pm_aload_n dX9_costOf_29 rfl rfl ?_
  refine pm_bipush (v := 10) dX9_costOf_30 kb_10 ?_
  refine pm_iald (y := zX9_costOf) dX9_costOf_32 (fun x8 => ?_)
  refine pm_aload_n dX9_costOf_33 rfl rfl ?_
  refine pm_bipush (v := 6) dX9_costOf_34 kb_6 ?_
  refine pm_iald (y := zX9_costOf) dX9_costOf_36 (fun x9 => ?_)
  refine pm_rcv (fun hb9 hc9 => ?_)
  refine pm_kI rfl (pm_V (y := zX9_costOf) (z := zX9_costBy) (As := [.int ((a4 - a3) + 1), .int x5, .int a3, .int a2, .int x7, .int x8, .int x9]) zkX9_costBy pm_q9 (by decide) tw_1722 tw_1724 tw_133 dX9_costOf_37 rfl rfl (Nat.le_of_ble_eq_true rfl) hb9 hc9) (kcX9_costBy hfl a0 ((a4 - a3) + 1) x5 a3 a2 x7 x8 x9 m6) (fun x11 m10 => ?_)
  exact pm_iret rfl dX9_costOf_40
-- StruckPageModel.strikes([IIII)Z
abbrev zX9_strikes : pmY := (⟨"StruckPageModel", "strikes", "([IIII)Z"⟩, cX9_strikes, 6, some .boolean, [])
def X9_strikes_j17 (m : pmM) : pmR := pm_oI 0 m
def X9_strikes (a0 : Nat) (a1 : Nat) (a2 : Int32) (a3 : Int32) (a4 : Int32) (m : pmM) : pmR := if a4 < a3 then (X9_strikes_j17 m) else (pm_gR 9 a0 16 m fun r1 => pm_ld 100 r1 a2 m fun x2 => if a4 < x2 then (pm_rc 9 a0 m <| pm_cI (X9_costOf a0 a1 a2 a3 a4 m) fun x4 m3 => pm_ld 100 a1 10 m3 fun x5 => if x4 ≤ x5 then (pm_bI ((0 : Int32) + a2) fun x6 => pm_ld 100 a1 x6 m3 fun x7 => pm_cI (X9_span2 a3 a4 m3) fun x9 m8 => pm_st 100 a1 x6 (x7 ^^^ x9) m8 fun m10 => pm_ld 100 a1 10 m10 fun x11 => pm_st 100 a1 10 (x11 - x4) m10 fun m12 => pm_ld 100 a1 12 m12 fun x13 => pm_st 100 a1 12 (x13 + 1) m12 fun m14 => pm_oI 1 m14) else (pm_oI 0 m3)) else (X9_strikes_j17 m))
theorem zkX9_strikes : pm_zOk zX9_strikes 4 := ⟨rfl, tw_1703, tw_168, by decide +kernel, by decide⟩
set_option maxRecDepth 100000 in
set_option maxHeartbeats 4000000 in
theorem gX9_strikes_j17 (hfl : l.flags = flags0) (m : pmM) : pm_G l Γ zX9_strikes (d + 5) 17 [pmU, pmU, pmU, pmU, pmU, pmU] [] m (X9_strikes_j17 m) := by
  unfold X9_strikes_j17
  refine pm_iconst (v := 0) dX9_strikes_17 ki_0 ?_
  exact pm_nret (ty := .boolean) (w := 0) rfl (by decide) (by decide) dX9_strikes_18
set_option maxRecDepth 100000 in
set_option maxHeartbeats 4000000 in
theorem kcX9_strikes (hfl : l.flags = flags0) (a0 : Nat) (a1 : Nat) (a2 : Int32) (a3 : Int32) (a4 : Int32) (m : pmM) : pm_C l Γ zX9_strikes (d + 5) [.ref a0, .ref a1, .int a2, .int a3, .int a4] m (X9_strikes a0 a1 a2 a3 a4 m) := by
  refine pm_enter (ls := [.ref a0, .ref a1, .int a2, .int a3, .int a4, pmU]) hfl (by decide +kernel) rfl (Nat.le_of_ble_eq_true rfl) rfl (Nat.le_of_ble_eq_true rfl) ?_
  unfold X9_strikes
  refine pm_iload_n dX9_strikes_0 rfl rfl ?_
  refine pm_iload dX9_strikes_1 rfl ?_
  refine pm_icmp_gt (tgt := 17) dX9_strikes_3 rfl ?_ ?_
  · refine pm_drop (ls2 := [pmU, pmU, pmU, pmU, pmU, pmU]) (Nat.le_refl _) (pm_le_spec (pm_le_u (pm_le_u (pm_le_u (pm_le_u (pm_le_u (pm_le_u (pm_le_n)))))))) ?_
    exact gX9_strikes_j17 hfl m
  · refine pm_iload dX9_strikes_6 rfl ?_
    refine pm_aload_n dX9_strikes_8 rfl rfl ?_
    refine fg_9_16 (y := zX9_strikes) (Or.inl tw_1393) dX9_strikes_9 (fun r1 => ?_)
    refine pm_iload_n dX9_strikes_12 rfl rfl ?_
    refine pm_iald (y := zX9_strikes) dX9_strikes_13 (fun x2 => ?_)
    refine pm_icmp_lt (tgt := 19) dX9_strikes_14 rfl ?_ ?_
    · refine pm_aload_n dX9_strikes_19 rfl rfl ?_
      refine pm_aload_n dX9_strikes_20 rfl rfl ?_
      refine pm_iload_n dX9_strikes_21 rfl rfl ?_
      refine pm_iload_n dX9_strikes_22 rfl rfl ?_
      refine pm_iload dX9_strikes_23 rfl ?_
      refine pm_rcv (fun hb9 hc9 => ?_)
      refine pm_kI rfl (pm_V (y := zX9_strikes) (z := zX9_costOf) (As := [.ref a1, .int a2, .int a3, .int a4]) zkX9_costOf pm_q9 (by decide) tw_1704 tw_1706 tw_130 dX9_strikes_25 rfl rfl (Nat.le_of_ble_eq_true rfl) hb9 hc9) (kcX9_costOf hfl a0 a1 a2 a3 a4 m) (fun x4 m3 => ?_)
      refine pm_istore (ls2 := [.ref a0, .ref a1, .int a2, .int a3, .int a4, .int x4]) dX9_strikes_28 rfl (Nat.le_of_ble_eq_true rfl) rfl ?_
      refine pm_iload dX9_strikes_30 rfl ?_
      refine pm_aload_n dX9_strikes_32 rfl rfl ?_
      refine pm_bipush (v := 10) dX9_strikes_33 kb_10 ?_
      refine pm_iald (y := zX9_strikes) dX9_strikes_35 (fun x5 => ?_)
      refine pm_icmp_le (tgt := 41) dX9_strikes_36 rfl ?_ ?_
      · refine pm_aload_n dX9_strikes_41 rfl rfl ?_
        refine pm_iconst (v := 0) dX9_strikes_42 ki_0 ?_
        refine pm_iload_n dX9_strikes_43 rfl rfl ?_
        refine pm_iadd dX9_strikes_44 ?_
        refine pm_bIn (fun x6 => ?_)
        refine pm_dup2 dX9_strikes_45 rfl rfl ?_
        refine pm_iald (y := zX9_strikes) dX9_strikes_46 (fun x7 => ?_)
        refine pm_iload_n dX9_strikes_47 rfl rfl ?_
        refine pm_iload dX9_strikes_48 rfl ?_
        refine pm_kI rfl (pm_S (y := zX9_strikes) (z := zX9_span2) (As := [.int a3, .int a4]) zkX9_span2 tw_1708 tw_1709 dX9_strikes_50 rfl rfl (Nat.le_of_ble_eq_true rfl)) (kcX9_span2 hfl a3 a4 m3) (fun x9 m8 => ?_)
        refine pm_ixor dX9_strikes_53 ?_
        refine pm_iast (y := zX9_strikes) dX9_strikes_54 (fun m10 => ?_)
        refine pm_aload_n dX9_strikes_55 rfl rfl ?_
        refine pm_bipush (v := 10) dX9_strikes_56 kb_10 ?_
        refine pm_dup2 dX9_strikes_58 rfl rfl ?_
        refine pm_iald (y := zX9_strikes) dX9_strikes_59 (fun x11 => ?_)
        refine pm_iload dX9_strikes_60 rfl ?_
        refine pm_isub dX9_strikes_62 ?_
        refine pm_iast (y := zX9_strikes) dX9_strikes_63 (fun m12 => ?_)
        refine pm_aload_n dX9_strikes_64 rfl rfl ?_
        refine pm_bipush (v := 12) dX9_strikes_65 kb_12 ?_
        refine pm_dup2 dX9_strikes_67 rfl rfl ?_
        refine pm_iald (y := zX9_strikes) dX9_strikes_68 (fun x13 => ?_)
        refine pm_iconst (v := 1) dX9_strikes_69 ki_1 ?_
        refine pm_iadd dX9_strikes_70 ?_
        refine pm_iast (y := zX9_strikes) dX9_strikes_71 (fun m14 => ?_)
        refine pm_iconst (v := 1) dX9_strikes_72 ki_1 ?_
        exact pm_nret (ty := .boolean) (w := 1) rfl (by decide) (by decide) dX9_strikes_73
      · refine pm_iconst (v := 0) dX9_strikes_39 ki_0 ?_
        exact pm_nret (ty := .boolean) (w := 0) rfl (by decide) (by decide) dX9_strikes_40
    · refine pm_drop (ls2 := [pmU, pmU, pmU, pmU, pmU, pmU]) (Nat.le_refl _) (pm_le_spec (pm_le_u (pm_le_u (pm_le_u (pm_le_u (pm_le_u (pm_le_u (pm_le_n)))))))) ?_
      exact gX9_strikes_j17 hfl m
end GEN19
