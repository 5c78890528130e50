section GEN5
variable {l : Launch} {Γ : pmG} {d : Nat}
-- StruckPage$Paper.readClause(LStruckPage$Text;I)Z
def X2_readClause_j71 (l1 : Nat) (m : pmM) : pmR := pm_gI 7 l1 4 m fun x7 => pm_rc 7 l1 m <| pm_cI (X7_fail l1 3 x7 m) fun x9 m8 => pm_oI (vp_nar .boolean x9) m8
def X2_readClause_j132 (t0 : Int32) (m : pmM) : pmR := pm_oI (vp_nar .boolean t0) m
def X2_readClause_j131 (m : pmM) : pmR := X2_readClause_j132 0 m
def X2_readClause_j111 (l1 : Nat) (t0 : Int32) (m : pmM) : pmR := if t0 = 0 then (X2_readClause_j131 m) else (pm_rc 7 l1 m <| pm_cI (X7_takeSign l1 59 m) fun x13 m12 => if x13 = 0 then (X2_readClause_j131 m12) else (X2_readClause_j132 1 m12))
def X2_readClause_j81 (l0 : Nat) (l1 : Nat) (l3 : Int32) (l4 : Int32) (m : pmM) : pmR := if l3 = 0 then (if l4 = 0 then (pm_rc 2 l0 m <| pm_cI (X2_readInk l0 l1 m) fun x11 m10 => X2_readClause_j111 l1 x11 m10) else (pm_rc 2 l0 m <| pm_cI (X2_readCell l0 l1 m) fun x15 m14 => X2_readClause_j111 l1 x15 m14)) else (pm_rc 2 l0 m <| pm_cI (X2_readLine l0 l1 m) fun x17 m16 => X2_readClause_j111 l1 x17 m16)
def X2_readClause_j52 (l0 : Nat) (l1 : Nat) (l2 : Int32) (l3 : Int32) (l4 : Int32) (m : pmM) : pmR := if (60 : Int32) ≤ l2 then (X2_readClause_j71 l1 m) else (if l3 = 0 then (X2_readClause_j81 l0 l1 l3 l4 m) else (pm_gI 2 l0 3 m fun x18 => if x18 < 6 then (X2_readClause_j81 l0 l1 l3 l4 m) else (X2_readClause_j71 l1 m)))
def X2_readClause (a0 : Nat) (a1 : Nat) (a2 : Int32) (m : pmM) : pmR := pm_rc 7 a1 m <| pm_cI (X7_takeLetters a1 m) fun x2 m1 => if x2 = 0 then (pm_oI 0 m1) else (pm_rc 7 a1 m1 <| pm_cI (X7_took a1 3 m1) fun x4 m3 => pm_rc 7 a1 m3 <| pm_cI (X7_took a1 4 m3) fun x6 m5 => if x4 = 0 then (if x6 = 0 then (pm_rc 7 a1 m5 <| pm_cI (X7_took a1 5 m5) fun x20 m19 => if x20 = 0 then (pm_gI 7 a1 4 m19 fun x21 => pm_rc 7 a1 m19 <| pm_cI (X7_fail a1 1 x21 m19) fun x23 m22 => pm_oI (vp_nar .boolean x23) m22) else (X2_readClause_j52 a0 a1 a2 x4 x6 m19)) else (X2_readClause_j52 a0 a1 a2 x4 x6 m5)) else (X2_readClause_j52 a0 a1 a2 x4 x6 m5))
set_option maxRecDepth 100000 in
set_option maxHeartbeats 4000000 in
theorem gX2_readClause_j71 (hfl : l.flags = flags0) (l1 : Nat) (m : pmM) : pm_G l Γ zX2_readClause (d + 6) 71 [pmU, .ref l1, pmU, pmU, pmU, pmU] [] m (X2_readClause_j71 l1 m) := by
  unfold X2_readClause_j71
  refine pm_aload_n dX2_readClause_71 rfl rfl ?_
  refine pm_iconst (v := 3) dX2_readClause_72 ki_3 ?_
  refine pm_aload_n dX2_readClause_73 rfl rfl ?_
  refine fg_7_4 (y := zX2_readClause) (Or.inr tw_201) dX2_readClause_74 (fun x7 => ?_)
  refine pm_rcv (fun hb9 hc9 => ?_)
  refine pm_kI (d := d + 5) rfl (pm_VN (y := zX2_readClause) (z := zX7_fail) (As := [.int 3, .int x7]) zkX7_fail pm_q7 (by decide) tw_840 tw_783 tw_38 dX2_readClause_77 rfl rfl (Nat.le_of_ble_eq_true rfl) hb9 hc9) (kcX7_fail (d := d + 5) hfl l1 3 x7 m) (fun x9 m8 => ?_)
  exact pm_nret (ty := .boolean) (w := vp_nar .boolean x9) rfl (by decide) rfl dX2_readClause_80
set_option maxRecDepth 100000 in
set_option maxHeartbeats 4000000 in
theorem gX2_readClause_j132 (hfl : l.flags = flags0) (t0 : Int32) (m : pmM) : pm_G l Γ zX2_readClause (d + 6) 132 [pmU, pmU, pmU, pmU, pmU, pmU] [.int t0] m (X2_readClause_j132 t0 m) := by
  unfold X2_readClause_j132
  exact pm_nret (ty := .boolean) (w := vp_nar .boolean t0) rfl (by decide) rfl dX2_readClause_132
set_option maxRecDepth 100000 in
set_option maxHeartbeats 4000000 in
theorem gX2_readClause_j131 (hfl : l.flags = flags0) (m : pmM) : pm_G l Γ zX2_readClause (d + 6) 131 [pmU, pmU, pmU, pmU, pmU, pmU] [] m (X2_readClause_j131 m) := by
  unfold X2_readClause_j131
  refine pm_iconst (v := 0) dX2_readClause_131 ki_0 ?_
  exact gX2_readClause_j132 hfl 0 m
set_option maxRecDepth 100000 in
set_option maxHeartbeats 4000000 in
theorem gX2_readClause_j111 (hfl : l.flags = flags0) (l1 : Nat) (t0 : Int32) (m : pmM) : pm_G l Γ zX2_readClause (d + 6) 111 [pmU, .ref l1, pmU, pmU, pmU, pmU] [.int t0] m (X2_readClause_j111 l1 t0 m) := by
  unfold X2_readClause_j111
  refine pm_istore (ls2 := [pmU, .ref l1, pmU, pmU, pmU, .int t0]) dX2_readClause_111 rfl (Nat.le_of_ble_eq_true rfl) rfl ?_
  refine pm_iload dX2_readClause_113 rfl ?_
  refine pm_if_eq (tgt := 131) dX2_readClause_115 rfl ?_ ?_
  · refine pm_drop (ls2 := [pmU, pmU, pmU, pmU, pmU, pmU]) (Nat.le_refl _) (pm_le_spec (pm_le_u (pm_le_u (pm_le_u (pm_le_u (pm_le_u (pm_le_u (pm_le_n)))))))) ?_
    exact gX2_readClause_j131 hfl m
  · refine pm_aload_n dX2_readClause_118 rfl rfl ?_
    refine pm_bipush (v := 59) dX2_readClause_119 kb_59 ?_
    refine pm_rcv (fun hb9 hc9 => ?_)
    refine pm_kI (d := d + 5) rfl (pm_VN (y := zX2_readClause) (z := zX7_takeSign) (As := [.int 59]) zkX7_takeSign pm_q7 (by decide) tw_862 tw_864 tw_45 dX2_readClause_121 rfl rfl (Nat.le_of_ble_eq_true rfl) hb9 hc9) (kcX7_takeSign (d := d + 4) hfl l1 59 m) (fun x13 m12 => ?_)
    refine pm_if_eq (tgt := 131) dX2_readClause_124 rfl ?_ ?_
    · refine pm_drop (ls2 := [pmU, pmU, pmU, pmU, pmU, pmU]) (Nat.le_refl _) (pm_le_spec (pm_le_u (pm_le_u (pm_le_u (pm_le_u (pm_le_u (pm_le_u (pm_le_n)))))))) ?_
      exact gX2_readClause_j131 hfl m12
    · refine pm_iconst (v := 1) dX2_readClause_127 ki_1 ?_
      refine pm_goto (tgt := 132) dX2_readClause_128 rfl ?_
      refine pm_drop (ls2 := [pmU, pmU, pmU, pmU, pmU, pmU]) (Nat.le_refl _) (pm_le_spec (pm_le_u (pm_le_u (pm_le_u (pm_le_u (pm_le_u (pm_le_u (pm_le_n)))))))) ?_
      exact gX2_readClause_j132 hfl 1 m12
set_option maxRecDepth 100000 in
set_option maxHeartbeats 4000000 in
theorem gX2_readClause_j81 (hfl : l.flags = flags0) (l0 : Nat) (l1 : Nat) (l3 : Int32) (l4 : Int32) (m : pmM) : pm_G l Γ zX2_readClause (d + 6) 81 [.ref l0, .ref l1, pmU, .int l3, .int l4, pmU] [] m (X2_readClause_j81 l0 l1 l3 l4 m) := by
  unfold X2_readClause_j81
  refine pm_iload_n dX2_readClause_81 rfl rfl ?_
  refine pm_if_eq (tgt := 93) dX2_readClause_82 rfl ?_ ?_
  · refine pm_iload dX2_readClause_93 rfl ?_
    refine pm_if_eq (tgt := 106) dX2_readClause_95 rfl ?_ ?_
    · refine pm_aload_n dX2_readClause_106 rfl rfl ?_
      refine pm_aload_n dX2_readClause_107 rfl rfl ?_
      refine pm_rcv (fun hb9 hc9 => ?_)
      refine pm_kI (d := d + 5) rfl (pm_V (y := zX2_readClause) (z := zX2_readInk) (As := [.ref l1]) zkX2_readInk pm_q2 (by decide) tw_858 tw_860 tw_44 dX2_readClause_108 rfl rfl (Nat.le_of_ble_eq_true rfl) hb9 hc9) (kcX2_readInk (d := d + 3) hfl l0 l1 m) (fun x11 m10 => ?_)
      refine pm_drop (ls2 := [pmU, .ref l1, pmU, pmU, pmU, pmU]) (Nat.le_refl _) (pm_le_spec (pm_le_u (pm_le_v (pm_le_u (pm_le_u (pm_le_u (pm_le_u (pm_le_n)))))))) ?_
      exact gX2_readClause_j111 hfl l1 x11 m10
    · refine pm_aload_n dX2_readClause_98 rfl rfl ?_
      refine pm_aload_n dX2_readClause_99 rfl rfl ?_
      refine pm_rcv (fun hb9 hc9 => ?_)
      refine pm_kI (d := d + 5) rfl (pm_V (y := zX2_readClause) (z := zX2_readCell) (As := [.ref l1]) zkX2_readCell pm_q2 (by decide) tw_854 tw_856 tw_43 dX2_readClause_100 rfl rfl (Nat.le_of_ble_eq_true rfl) hb9 hc9) (kcX2_readCell (d := d + 3) hfl l0 l1 m) (fun x15 m14 => ?_)
      refine pm_goto (tgt := 111) dX2_readClause_103 rfl ?_
      refine pm_drop (ls2 := [pmU, .ref l1, pmU, pmU, pmU, pmU]) (Nat.le_refl _) (pm_le_spec (pm_le_u (pm_le_v (pm_le_u (pm_le_u (pm_le_u (pm_le_u (pm_le_n)))))))) ?_
      exact gX2_readClause_j111 hfl l1 x15 m14
  · refine pm_aload_n dX2_readClause_85 rfl rfl ?_
    refine pm_aload_n dX2_readClause_86 rfl rfl ?_
    refine pm_rcv (fun hb9 hc9 => ?_)
    refine pm_kI (d := d + 5) rfl (pm_V (y := zX2_readClause) (z := zX2_readLine) (As := [.ref l1]) zkX2_readLine pm_q2 (by decide) tw_841 tw_843 tw_40 dX2_readClause_87 rfl rfl (Nat.le_of_ble_eq_true rfl) hb9 hc9) (kcX2_readLine (d := d + 3) hfl l0 l1 m) (fun x17 m16 => ?_)
    refine pm_goto (tgt := 111) dX2_readClause_90 rfl ?_
    refine pm_drop (ls2 := [pmU, .ref l1, pmU, pmU, pmU, pmU]) (Nat.le_refl _) (pm_le_spec (pm_le_u (pm_le_v (pm_le_u (pm_le_u (pm_le_u (pm_le_u (pm_le_n)))))))) ?_
    exact gX2_readClause_j111 hfl l1 x17 m16
set_option maxRecDepth 100000 in
set_option maxHeartbeats 4000000 in
theorem gX2_readClause_j52 (hfl : l.flags = flags0) (l0 : Nat) (l1 : Nat) (l2 : Int32) (l3 : Int32) (l4 : Int32) (m : pmM) : pm_G l Γ zX2_readClause (d + 6) 52 [.ref l0, .ref l1, .int l2, .int l3, .int l4, pmU] [] m (X2_readClause_j52 l0 l1 l2 l3 l4 m) := by
  unfold X2_readClause_j52
  refine pm_iload_n dX2_readClause_52 rfl rfl ?_
  refine pm_bipush (v := 60) dX2_readClause_53 kb_60 ?_
  refine pm_icmp_ge (tgt := 71) dX2_readClause_55 rfl ?_ ?_
  · refine pm_drop (ls2 := [pmU, .ref l1, pmU, pmU, pmU, pmU]) (Nat.le_refl _) (pm_le_spec (pm_le_u (pm_le_v (pm_le_u (pm_le_u (pm_le_u (pm_le_u (pm_le_n)))))))) ?_
    exact gX2_readClause_j71 hfl l1 m
  · refine pm_iload_n dX2_readClause_58 rfl rfl ?_
    refine pm_if_eq (tgt := 81) dX2_readClause_59 rfl ?_ ?_
    · refine pm_drop (ls2 := [.ref l0, .ref l1, pmU, .int l3, .int l4, pmU]) (Nat.le_refl _) (pm_le_spec (pm_le_v (pm_le_v (pm_le_u (pm_le_v (pm_le_v (pm_le_u (pm_le_n)))))))) ?_
      exact gX2_readClause_j81 hfl l0 l1 l3 l4 m
    · refine pm_aload_n dX2_readClause_62 rfl rfl ?_
      refine fg_2_3 (y := zX2_readClause) (Or.inl tw_244) dX2_readClause_63 (fun x18 => ?_)
      refine pm_bipush (v := 6) dX2_readClause_66 kb_6 ?_
      refine pm_icmp_lt (tgt := 81) dX2_readClause_68 rfl ?_ ?_
      · refine pm_drop (ls2 := [.ref l0, .ref l1, pmU, .int l3, .int l4, pmU]) (Nat.le_refl _) (pm_le_spec (pm_le_v (pm_le_v (pm_le_u (pm_le_v (pm_le_v (pm_le_u (pm_le_n)))))))) ?_
        exact gX2_readClause_j81 hfl l0 l1 l3 l4 m
      · refine pm_drop (ls2 := [pmU, .ref l1, pmU, pmU, pmU, pmU]) (Nat.le_refl _) (pm_le_spec (pm_le_u (pm_le_v (pm_le_u (pm_le_u (pm_le_u (pm_le_u (pm_le_n)))))))) ?_
        exact gX2_readClause_j71 hfl l1 m
set_option maxRecDepth 100000 in
set_option maxHeartbeats 4000000 in
theorem kcX2_readClause (hfl : l.flags = flags0) (a0 : Nat) (a1 : Nat) (a2 : Int32) (m : pmM) : pm_C l Γ zX2_readClause (d + 6) [.ref a0, .ref a1, .int a2] m (X2_readClause a0 a1 a2 m) := by
  refine pm_enter (ls := [.ref a0, .ref a1, .int a2, pmU, pmU, pmU]) hfl (by decide +kernel) rfl (Nat.le_of_ble_eq_true rfl) rfl (Nat.le_of_ble_eq_true rfl) ?_
  unfold X2_readClause
  refine pm_aload_n dX2_readClause_0 rfl rfl ?_
  refine pm_rcv (fun hb9 hc9 => ?_)
  refine pm_kI (d := d + 5) rfl (pm_VN (y := zX2_readClause) (z := zX7_takeLetters) (As := []) zkX7_takeLetters pm_q7 (by decide) tw_772 tw_774 tw_36 dX2_readClause_1 rfl rfl (Nat.le_of_ble_eq_true rfl) hb9 hc9) (kcX7_takeLetters (d := d + 3) hfl a1 m) (fun x2 m1 => ?_)
  refine pm_if_ne (tgt := 9) dX2_readClause_4 rfl ?_ ?_
  · refine pm_aload_n dX2_readClause_9 rfl rfl ?_
    refine pm_ldcs (y := zX2_readClause) (own := "StruckPage$Paper") (tx := "line") (k := 3) (by decide +kernel) rfl dX2_readClause_10 ?_
    refine pm_rcv (fun hb9 hc9 => ?_)
    refine pm_kI (d := d + 5) rfl (pm_VN (y := zX2_readClause) (z := zX7_took) (As := [.ref 3]) zkX7_took pm_q7 (by decide) tw_786 tw_788 tw_39 dX2_readClause_12 rfl rfl (Nat.le_of_ble_eq_true rfl) hb9 hc9) (kcX7_took (d := d + 0) hfl a1 3 m1) (fun x4 m3 => ?_)
    refine pm_istore_n (ls2 := [.ref a0, .ref a1, .int a2, .int x4, pmU, pmU]) dX2_readClause_15 rfl rfl (Nat.le_of_ble_eq_true rfl) rfl ?_
    refine pm_aload_n dX2_readClause_16 rfl rfl ?_
    refine pm_ldcs (y := zX2_readClause) (own := "StruckPage$Paper") (tx := "cell") (k := 4) (by decide +kernel) rfl dX2_readClause_17 ?_
    refine pm_rcv (fun hb9 hc9 => ?_)
    refine pm_kI (d := d + 5) rfl (pm_VN (y := zX2_readClause) (z := zX7_took) (As := [.ref 4]) zkX7_took pm_q7 (by decide) tw_786 tw_788 tw_39 dX2_readClause_19 rfl rfl (Nat.le_of_ble_eq_true rfl) hb9 hc9) (kcX7_took (d := d + 0) hfl a1 4 m3) (fun x6 m5 => ?_)
    refine pm_istore (ls2 := [.ref a0, .ref a1, .int a2, .int x4, .int x6, pmU]) dX2_readClause_22 rfl (Nat.le_of_ble_eq_true rfl) rfl ?_
    refine pm_iload_n dX2_readClause_24 rfl rfl ?_
    refine pm_if_ne (tgt := 52) dX2_readClause_25 rfl ?_ ?_
    · exact gX2_readClause_j52 hfl a0 a1 a2 x4 x6 m5
    · refine pm_iload dX2_readClause_28 rfl ?_
      refine pm_if_ne (tgt := 52) dX2_readClause_30 rfl ?_ ?_
      · exact gX2_readClause_j52 hfl a0 a1 a2 x4 x6 m5
      · refine pm_aload_n dX2_readClause_33 rfl rfl ?_
        refine pm_ldcs (y := zX2_readClause) (own := "StruckPage$Paper") (tx := "ink") (k := 5) (by decide +kernel) rfl dX2_readClause_34 ?_
        refine pm_rcv (fun hb9 hc9 => ?_)
        refine pm_kI (d := d + 5) rfl (pm_VN (y := zX2_readClause) (z := zX7_took) (As := [.ref 5]) zkX7_took pm_q7 (by decide) tw_786 tw_788 tw_39 dX2_readClause_36 rfl rfl (Nat.le_of_ble_eq_true rfl) hb9 hc9) (kcX7_took (d := d + 0) hfl a1 5 m5) (fun x20 m19 => ?_)
        refine pm_if_ne (tgt := 52) dX2_readClause_39 rfl ?_ ?_
        · exact gX2_readClause_j52 hfl a0 a1 a2 x4 x6 m19
        · refine pm_aload_n dX2_readClause_42 rfl rfl ?_
          refine pm_iconst (v := 1) dX2_readClause_43 ki_1 ?_
          refine pm_aload_n dX2_readClause_44 rfl rfl ?_
          refine fg_7_4 (y := zX2_readClause) (Or.inr tw_201) dX2_readClause_45 (fun x21 => ?_)
          refine pm_rcv (fun hb9 hc9 => ?_)
          refine pm_kI (d := d + 5) rfl (pm_VN (y := zX2_readClause) (z := zX7_fail) (As := [.int 1, .int x21]) zkX7_fail pm_q7 (by decide) tw_840 tw_783 tw_38 dX2_readClause_48 rfl rfl (Nat.le_of_ble_eq_true rfl) hb9 hc9) (kcX7_fail (d := d + 5) hfl a1 1 x21 m19) (fun x23 m22 => ?_)
          exact pm_nret (ty := .boolean) (w := vp_nar .boolean x23) rfl (by decide) rfl dX2_readClause_51
  · refine pm_iconst (v := 0) dX2_readClause_7 ki_0 ?_
    exact pm_nret (ty := .boolean) (w := 0) rfl (by decide) (by decide) dX2_readClause_8
-- StruckPage$Paper.readFrom(LStruckPage$Text;)Z
def X2_readFrom_L38 (l0 : Nat) (l1 : Nat) (again38 : (Int32 × pmM) → pmR) (s38 : Int32 × pmM) : pmR := if (60 : Int32) < s38.1 then (pm_oI 0 s38.2) else (pm_rc 7 l1 s38.2 <| pm_cI (X7_peek l1 s38.2) fun x5 m4 => if x5 = (-1) then (pm_oI 1 m4) else (pm_rc 2 l0 m4 <| pm_cI (X2_readClause l0 l1 s38.1 m4) fun x7 m6 => if x7 = 0 then (pm_oI 0 m6) else (pm_bI (s38.1 + 1) fun x8 => again38 (x8, m6))))
def X2_readFrom_L18 (l0 : Nat) (l1 : Nat) (again18 : (Int32 × pmM) → pmR) (s18 : Int32 × pmM) : pmR := if (4 : Int32) ≤ s18.1 then (pm_lp pm_N (X2_readFrom_L38 l0 l1) (0, s18.2)) else (pm_gR 2 l0 2 s18.2 fun r9 => pm_st 100 r9 s18.1 0 s18.2 fun m10 => pm_bI (s18.1 + 1) fun x11 => again18 (x11, m10))
def X2_readFrom (a0 : Nat) (a1 : Nat) (m : pmM) : pmR := pm_pI 2 a0 3 0 m fun m1 => pm_pI 2 a0 4 0 m1 fun m2 => pm_pI 2 a0 5 60 m2 fun m3 => pm_lp pm_N (X2_readFrom_L18 a0 a1) (0, m3)
set_option maxRecDepth 100000 in
set_option maxHeartbeats 4000000 in
theorem gX2_readFrom_L38 (hfl : l.flags = flags0) (l0 : Nat) (l1 : Nat) : ∀ (n : Nat) (s : Int32 × pmM), pm_G l Γ zX2_readFrom (d + 7) 38 [.ref l0, .ref l1, .int s.1] [] s.2 (pm_lp n (X2_readFrom_L38 l0 l1) s) :=
  pm_loop (lsf := fun s : Int32 × pmM => [.ref l0, .ref l1, .int s.1]) (mf := fun s : Int32 × pmM => s.2) (fun again38 hag38 s38 => by
    unfold X2_readFrom_L38
    refine pm_iload_n dX2_readFrom_38 rfl rfl ?_
    refine pm_bipush (v := 60) dX2_readFrom_39 kb_60 ?_
    refine pm_icmp_gt (tgt := 71) dX2_readFrom_41 rfl ?_ ?_
    · refine pm_iconst (v := 0) dX2_readFrom_71 ki_0 ?_
      exact pm_nret (ty := .boolean) (w := 0) rfl (by decide) (by decide) dX2_readFrom_72
    · refine pm_aload_n dX2_readFrom_44 rfl rfl ?_
      refine pm_rcv (fun hb9 hc9 => ?_)
      refine pm_kI (d := d + 6) rfl (pm_VN (y := zX2_readFrom) (z := zX7_peek) (As := []) zkX7_peek pm_q7 (by decide) tw_764 tw_766 tw_34 dX2_readFrom_45 rfl rfl (Nat.le_of_ble_eq_true rfl) hb9 hc9) (kcX7_peek (d := d + 6) hfl l1 s38.2) (fun x5 m4 => ?_)
      refine pm_iconst (v := (-1)) dX2_readFrom_48 ki_n1 ?_
      refine pm_icmp_ne (tgt := 54) dX2_readFrom_49 rfl ?_ ?_
      · refine pm_aload_n dX2_readFrom_54 rfl rfl ?_
        refine pm_aload_n dX2_readFrom_55 rfl rfl ?_
        refine pm_iload_n dX2_readFrom_56 rfl rfl ?_
        refine pm_rcv (fun hb9 hc9 => ?_)
        refine pm_kI (d := d + 6) rfl (pm_V (y := zX2_readFrom) (z := zX2_readClause) (As := [.ref l1, .int s38.1]) zkX2_readClause pm_q2 (by decide) tw_768 tw_770 tw_35 dX2_readFrom_57 rfl rfl (Nat.le_of_ble_eq_true rfl) hb9 hc9) (kcX2_readClause (d := d + 0) hfl l0 l1 s38.1 m4) (fun x7 m6 => ?_)
        refine pm_if_ne (tgt := 65) dX2_readFrom_60 rfl ?_ ?_
        · refine pm_iincn (y := zX2_readFrom) dX2_readFrom_65 rfl ki_1 rfl (Nat.le_of_ble_eq_true rfl) (fun x8 => ?_)
          refine pm_eqls (ls2 := [.ref l0, .ref l1, .int x8]) rfl ?_
          refine pm_goto (tgt := 38) dX2_readFrom_68 rfl ?_
          exact hag38 (x8, m6)
        · refine pm_iconst (v := 0) dX2_readFrom_63 ki_0 ?_
          exact pm_nret (ty := .boolean) (w := 0) rfl (by decide) (by decide) dX2_readFrom_64
      · refine pm_iconst (v := 1) dX2_readFrom_52 ki_1 ?_
        exact pm_nret (ty := .boolean) (w := 1) rfl (by decide) (by decide) dX2_readFrom_53)
set_option maxRecDepth 100000 in
set_option maxHeartbeats 4000000 in
theorem gX2_readFrom_L18 (hfl : l.flags = flags0) (l0 : Nat) (l1 : Nat) : ∀ (n : Nat) (s : Int32 × pmM), pm_G l Γ zX2_readFrom (d + 7) 18 [.ref l0, .ref l1, .int s.1] [] s.2 (pm_lp n (X2_readFrom_L18 l0 l1) s) :=
  pm_loop (lsf := fun s : Int32 × pmM => [.ref l0, .ref l1, .int s.1]) (mf := fun s : Int32 × pmM => s.2) (fun again18 hag18 s18 => by
    unfold X2_readFrom_L18
    refine pm_iload_n dX2_readFrom_18 rfl rfl ?_
    refine pm_iconst (v := 4) dX2_readFrom_19 ki_4 ?_
    refine pm_icmp_ge (tgt := 36) dX2_readFrom_20 rfl ?_ ?_
    · refine pm_iconst (v := 0) dX2_readFrom_36 ki_0 ?_
      refine pm_istore_n (ls2 := [.ref l0, .ref l1, .int 0]) dX2_readFrom_37 rfl rfl (Nat.le_of_ble_eq_true rfl) rfl ?_
      exact gX2_readFrom_L38 hfl l0 l1 pm_N (0, s18.2)
    · refine pm_aload_n dX2_readFrom_23 rfl rfl ?_
      refine fg_2_2 (y := zX2_readFrom) (Or.inl tw_242) dX2_readFrom_24 (fun r9 => ?_)
      refine pm_iload_n dX2_readFrom_27 rfl rfl ?_
      refine pm_iconst (v := 0) dX2_readFrom_28 ki_0 ?_
      refine pm_iast (y := zX2_readFrom) dX2_readFrom_29 (fun m10 => ?_)
      refine pm_iincn (y := zX2_readFrom) dX2_readFrom_30 rfl ki_1 rfl (Nat.le_of_ble_eq_true rfl) (fun x11 => ?_)
      refine pm_eqls (ls2 := [.ref l0, .ref l1, .int x11]) rfl ?_
      refine pm_goto (tgt := 18) dX2_readFrom_33 rfl ?_
      exact hag18 (x11, m10))
set_option maxRecDepth 100000 in
set_option maxHeartbeats 4000000 in
theorem kcX2_readFrom (hfl : l.flags = flags0) (a0 : Nat) (a1 : Nat) (m : pmM) : pm_C l Γ zX2_readFrom (d + 7) [.ref a0, .ref a1] m (X2_readFrom a0 a1 m) := by
  refine pm_enter (ls := [.ref a0, .ref a1, pmU]) hfl (by decide +kernel) rfl (Nat.le_of_ble_eq_true rfl) rfl (Nat.le_of_ble_eq_true rfl) ?_
  unfold X2_readFrom
  refine pm_aload_n dX2_readFrom_0 rfl rfl ?_
  refine pm_iconst (v := 0) dX2_readFrom_1 ki_0 ?_
  refine fp_2_3 (y := zX2_readFrom) (Or.inl tw_244) dX2_readFrom_2 (fun m1 => ?_)
  refine pm_aload_n dX2_readFrom_5 rfl rfl ?_
  refine pm_iconst (v := 0) dX2_readFrom_6 ki_0 ?_
  refine fp_2_4 (y := zX2_readFrom) (Or.inl tw_249) dX2_readFrom_7 (fun m2 => ?_)
  refine pm_aload_n dX2_readFrom_10 rfl rfl ?_
  refine pm_bipush (v := 60) dX2_readFrom_11 kb_60 ?_
  refine fp_2_5 (y := zX2_readFrom) (Or.inl tw_251) dX2_readFrom_13 (fun m3 => ?_)
  refine pm_iconst (v := 0) dX2_readFrom_16 ki_0 ?_
  refine pm_istore_n (ls2 := [.ref a0, .ref a1, .int 0]) dX2_readFrom_17 rfl rfl (Nat.le_of_ble_eq_true rfl) rfl ?_
  exact gX2_readFrom_L18 hfl a0 a1 pm_N (0, m3)
-- StruckPage$Saying.<init>()V
def X3_init (a0 : Nat) (m : pmM) : pmR := pm_na 100 12 m fun r1 m2 => pm_pR 3 a0 0 r1 m2 fun m3 => pm_oV m3
set_option maxRecDepth 100000 in
set_option maxHeartbeats 4000000 in
theorem kcX3_init (hfl : l.flags = flags0) (a0 : Nat) (m : pmM) : pm_C l Γ zX3_init (d + 0) [.ref a0] m (X3_init a0 m) := by
  refine pm_enter (ls := [.ref a0]) hfl (by decide +kernel) rfl (Nat.le_of_ble_eq_true rfl) rfl (Nat.le_of_ble_eq_true rfl) ?_
  unfold X3_init
  refine pm_aload_n dX3_init_0 rfl rfl ?_
  refine pm_oinit (y := zX3_init) tw_299 tw_184 tw_185 dX3_init_1 (Nat.le_of_ble_eq_true rfl) ?_
  refine pm_aload_n dX3_init_4 rfl rfl ?_
  refine pm_bipush (v := 12) dX3_init_5 kb_12 ?_
  refine pm_newa (y := zX3_init) (atype := .int) (kd := 100) (by decide) tw_230 dX3_init_7 (fun r1 m2 => ?_)
  refine fp_3_0 (y := zX3_init) ⟨tw_300, rfl⟩ dX3_init_9 (fun m3 => ?_)
  exact pm_vret rfl dX3_init_12
-- StruckPage$Saying.takeOver(LStruckPage$Saying;)V
def X3_takeOver (a0 : Nat) (a1 : Nat) (m : pmM) : pmR := pm_gR 3 a1 0 m fun r1 => pm_gR 3 a0 0 m fun r2 => pm_cp r1 0 r2 0 12 m fun m3 => pm_gI 3 a1 1 m3 fun x4 => pm_pI 3 a0 1 x4 m3 fun m5 => pm_oV m5
set_option maxRecDepth 100000 in
set_option maxHeartbeats 4000000 in
theorem kcX3_takeOver (hfl : l.flags = flags0) (a0 : Nat) (a1 : Nat) (m : pmM) : pm_C l Γ zX3_takeOver (d + 0) [.ref a0, .ref a1] m (X3_takeOver a0 a1 m) := by
  refine pm_enter (ls := [.ref a0, .ref a1]) hfl (by decide +kernel) rfl (Nat.le_of_ble_eq_true rfl) rfl (Nat.le_of_ble_eq_true rfl) ?_
  unfold X3_takeOver
  refine pm_aload_n dX3_takeOver_0 rfl rfl ?_
  refine fg_3_0 (y := zX3_takeOver) (Or.inl tw_300) dX3_takeOver_1 (fun r1 => ?_)
  refine pm_iconst (v := 0) dX3_takeOver_4 ki_0 ?_
  refine pm_aload_n dX3_takeOver_5 rfl rfl ?_
  refine fg_3_0 (y := zX3_takeOver) (Or.inl tw_300) dX3_takeOver_6 (fun r2 => ?_)
  refine pm_iconst (v := 0) dX3_takeOver_9 ki_0 ?_
  refine pm_bipush (v := 12) dX3_takeOver_10 kb_12 ?_
  refine pm_copy (y := zX3_takeOver) tw_1067 tw_280 tw_279 tw_160 dX3_takeOver_12 (Nat.le_of_ble_eq_true rfl) (fun m3 => ?_)
  refine pm_aload_n dX3_takeOver_15 rfl rfl ?_
  refine pm_aload_n dX3_takeOver_16 rfl rfl ?_
  refine fg_3_1 (y := zX3_takeOver) (Or.inl tw_303) dX3_takeOver_17 (fun x4 => ?_)
  refine fp_3_1 (y := zX3_takeOver) (Or.inl tw_303) dX3_takeOver_20 (fun m5 => ?_)
  exact pm_vret rfl dX3_takeOver_23
-- StruckPage$Saying.readFrom(LStruckPage$Text;)Z
def X3_readFrom_L7 (l0 : Nat) (l1 : Nat) (again7 : (Int32 × pmM) → pmR) (s7 : Int32 × pmM) : pmR := if (12 : Int32) < s7.1 then (pm_oI 0 s7.2) else (pm_rc 7 l1 s7.2 <| pm_cI (X7_peek l1 s7.2) fun x3 m2 => if x3 = (-1) then (pm_oI 1 m2) else (pm_rc 7 l1 m2 <| pm_cI (X7_takeNumber l1 0 15 m2) fun x5 m4 => if x5 = 0 then (pm_oI 0 m4) else (if s7.1 < 12 then (pm_gR 3 l0 0 m4 fun r6 => pm_gI 7 l1 5 m4 fun x7 => pm_st 100 r6 s7.1 x7 m4 fun m8 => pm_pI 3 l0 1 (s7.1 + 1) m8 fun m9 => pm_rc 7 l1 m9 <| pm_cI (X7_takeSign l1 59 m9) fun x11 m10 => if x11 = 0 then (pm_oI 0 m10) else (pm_bI (s7.1 + 1) fun x12 => again7 (x12, m10))) else (pm_gI 7 l1 4 m4 fun x13 => pm_rc 7 l1 m4 <| pm_cI (X7_fail l1 3 x13 m4) fun x15 m14 => pm_oI (vp_nar .boolean x15) m14))))
def X3_readFrom (a0 : Nat) (a1 : Nat) (m : pmM) : pmR := pm_pI 3 a0 1 0 m fun m1 => pm_lp pm_N (X3_readFrom_L7 a0 a1) (0, m1)
set_option maxRecDepth 100000 in
set_option maxHeartbeats 4000000 in
theorem gX3_readFrom_L7 (hfl : l.flags = flags0) (l0 : Nat) (l1 : Nat) : ∀ (n : Nat) (s : Int32 × pmM), pm_G l Γ zX3_readFrom (d + 2) 7 [.ref l0, .ref l1, .int s.1] [] s.2 (pm_lp n (X3_readFrom_L7 l0 l1) s) :=
  pm_loop (lsf := fun s : Int32 × pmM => [.ref l0, .ref l1, .int s.1]) (mf := fun s : Int32 × pmM => s.2) (fun again7 hag7 s7 => by
    unfold X3_readFrom_L7
    refine pm_iload_n dX3_readFrom_7 rfl rfl ?_
    refine pm_bipush (v := 12) dX3_readFrom_8 kb_12 ?_
    refine pm_icmp_gt (tgt := 85) dX3_readFrom_10 rfl ?_ ?_
    · refine pm_iconst (v := 0) dX3_readFrom_85 ki_0 ?_
      exact pm_nret (ty := .boolean) (w := 0) rfl (by decide) (by decide) dX3_readFrom_86
    · refine pm_aload_n dX3_readFrom_13 rfl rfl ?_
      refine pm_rcv (fun hb9 hc9 => ?_)
      refine pm_kI (d := d + 1) rfl (pm_VN (y := zX3_readFrom) (z := zX7_peek) (As := []) zkX7_peek pm_q7 (by decide) tw_1059 tw_766 tw_34 dX3_readFrom_14 rfl rfl (Nat.le_of_ble_eq_true rfl) hb9 hc9) (kcX7_peek (d := d + 1) hfl l1 s7.2) (fun x3 m2 => ?_)
      refine pm_iconst (v := (-1)) dX3_readFrom_17 ki_n1 ?_
      refine pm_icmp_ne (tgt := 23) dX3_readFrom_18 rfl ?_ ?_
      · refine pm_aload_n dX3_readFrom_23 rfl rfl ?_
        refine pm_iconst (v := 0) dX3_readFrom_24 ki_0 ?_
        refine pm_bipush (v := 15) dX3_readFrom_25 kb_15 ?_
        refine pm_rcv (fun hb9 hc9 => ?_)
        refine pm_kI (d := d + 1) rfl (pm_VN (y := zX3_readFrom) (z := zX7_takeNumber) (As := [.int 0, .int 15]) zkX7_takeNumber pm_q7 (by decide) tw_1060 tw_847 tw_41 dX3_readFrom_27 rfl rfl (Nat.le_of_ble_eq_true rfl) hb9 hc9) (kcX7_takeNumber (d := d + 0) hfl l1 0 15 m2) (fun x5 m4 => ?_)
        refine pm_if_ne (tgt := 35) dX3_readFrom_30 rfl ?_ ?_
        · refine pm_iload_n dX3_readFrom_35 rfl rfl ?_
          refine pm_bipush (v := 12) dX3_readFrom_36 kb_12 ?_
          refine pm_icmp_lt (tgt := 51) dX3_readFrom_38 rfl ?_ ?_
          · refine pm_aload_n dX3_readFrom_51 rfl rfl ?_
            refine fg_3_0 (y := zX3_readFrom) (Or.inl tw_300) dX3_readFrom_52 (fun r6 => ?_)
            refine pm_iload_n dX3_readFrom_55 rfl rfl ?_
            refine pm_aload_n dX3_readFrom_56 rfl rfl ?_
            refine fg_7_5 (y := zX3_readFrom) (Or.inr tw_204) dX3_readFrom_57 (fun x7 => ?_)
            refine pm_iast (y := zX3_readFrom) dX3_readFrom_60 (fun m8 => ?_)
            refine pm_aload_n dX3_readFrom_61 rfl rfl ?_
            refine pm_iload_n dX3_readFrom_62 rfl rfl ?_
            refine pm_iconst (v := 1) dX3_readFrom_63 ki_1 ?_
            refine pm_iadd dX3_readFrom_64 ?_
            refine fp_3_1 (y := zX3_readFrom) (Or.inl tw_303) dX3_readFrom_65 (fun m9 => ?_)
            refine pm_aload_n dX3_readFrom_68 rfl rfl ?_
            refine pm_bipush (v := 59) dX3_readFrom_69 kb_59 ?_
            refine pm_rcv (fun hb9 hc9 => ?_)
            refine pm_kI (d := d + 1) rfl (pm_VN (y := zX3_readFrom) (z := zX7_takeSign) (As := [.int 59]) zkX7_takeSign pm_q7 (by decide) tw_1062 tw_864 tw_45 dX3_readFrom_71 rfl rfl (Nat.le_of_ble_eq_true rfl) hb9 hc9) (kcX7_takeSign (d := d + 0) hfl l1 59 m9) (fun x11 m10 => ?_)
            refine pm_if_ne (tgt := 79) dX3_readFrom_74 rfl ?_ ?_
            · refine pm_iincn (y := zX3_readFrom) dX3_readFrom_79 rfl ki_1 rfl (Nat.le_of_ble_eq_true rfl) (fun x12 => ?_)
              refine pm_eqls (ls2 := [.ref l0, .ref l1, .int x12]) rfl ?_
              refine pm_goto (tgt := 7) dX3_readFrom_82 rfl ?_
              exact hag7 (x12, m10)
            · refine pm_iconst (v := 0) dX3_readFrom_77 ki_0 ?_
              exact pm_nret (ty := .boolean) (w := 0) rfl (by decide) (by decide) dX3_readFrom_78
          · refine pm_aload_n dX3_readFrom_41 rfl rfl ?_
            refine pm_iconst (v := 3) dX3_readFrom_42 ki_3 ?_
            refine pm_aload_n dX3_readFrom_43 rfl rfl ?_
            refine fg_7_4 (y := zX3_readFrom) (Or.inr tw_199) dX3_readFrom_44 (fun x13 => ?_)
            refine pm_rcv (fun hb9 hc9 => ?_)
            refine pm_kI (d := d + 1) rfl (pm_VN (y := zX3_readFrom) (z := zX7_fail) (As := [.int 3, .int x13]) zkX7_fail pm_q7 (by decide) tw_1061 tw_783 tw_38 dX3_readFrom_47 rfl rfl (Nat.le_of_ble_eq_true rfl) hb9 hc9) (kcX7_fail (d := d + 1) hfl l1 3 x13 m4) (fun x15 m14 => ?_)
            exact pm_nret (ty := .boolean) (w := vp_nar .boolean x15) rfl (by decide) rfl dX3_readFrom_50
        · refine pm_iconst (v := 0) dX3_readFrom_33 ki_0 ?_
          exact pm_nret (ty := .boolean) (w := 0) rfl (by decide) (by decide) dX3_readFrom_34
      · refine pm_iconst (v := 1) dX3_readFrom_21 ki_1 ?_
        exact pm_nret (ty := .boolean) (w := 1) rfl (by decide) (by decide) dX3_readFrom_22)
set_option maxRecDepth 100000 in
set_option maxHeartbeats 4000000 in
theorem kcX3_readFrom (hfl : l.flags = flags0) (a0 : Nat) (a1 : Nat) (m : pmM) : pm_C l Γ zX3_readFrom (d + 2) [.ref a0, .ref a1] m (X3_readFrom a0 a1 m) := by
  refine pm_enter (ls := [.ref a0, .ref a1, pmU]) hfl (by decide +kernel) rfl (Nat.le_of_ble_eq_true rfl) rfl (Nat.le_of_ble_eq_true rfl) ?_
  unfold X3_readFrom
  refine pm_aload_n dX3_readFrom_0 rfl rfl ?_
  refine pm_iconst (v := 0) dX3_readFrom_1 ki_0 ?_
  refine fp_3_1 (y := zX3_readFrom) (Or.inl tw_303) dX3_readFrom_2 (fun m1 => ?_)
  refine pm_iconst (v := 0) dX3_readFrom_5 ki_0 ?_
  refine pm_istore_n (ls2 := [.ref a0, .ref a1, .int 0]) dX3_readFrom_6 rfl rfl (Nat.le_of_ble_eq_true rfl) rfl ?_
  exact gX3_readFrom_L7 hfl a0 a1 pm_N (0, m1)
-- StruckPage$Search.<init>(LStruckPage$Paper;)V
def X4_init (a0 : Nat) (a1 : Nat) (m : pmM) : pmR := pm_na 102 13 m fun r1 m2 => pm_pR 4 a0 1 r1 m2 fun m3 => pm_na 102 208 m3 fun r4 m5 => pm_pR 4 a0 2 r4 m5 fun m6 => pm_na 100 26 m6 fun r7 m8 => pm_pR 4 a0 3 r7 m8 fun m9 => pm_na 102 26 m9 fun r10 m11 => pm_pR 4 a0 4 r10 m11 fun m12 => pm_na 100 9 m12 fun r13 m14 => pm_pR 4 a0 5 r13 m14 fun m15 => pm_pR 4 a0 0 a1 m15 fun m16 => pm_oV m16
set_option maxRecDepth 100000 in
set_option maxHeartbeats 4000000 in
theorem kcX4_init (hfl : l.flags = flags0) (a0 : Nat) (a1 : Nat) (m : pmM) : pm_C l Γ zX4_init (d + 0) [.ref a0, .ref a1] m (X4_init a0 a1 m) := by
  refine pm_enter (ls := [.ref a0, .ref a1]) hfl (by decide +kernel) rfl (Nat.le_of_ble_eq_true rfl) rfl (Nat.le_of_ble_eq_true rfl) ?_
  unfold X4_init
  refine pm_aload_n dX4_init_0 rfl rfl ?_
  refine pm_oinit (y := zX4_init) tw_418 tw_184 tw_185 dX4_init_1 (Nat.le_of_ble_eq_true rfl) ?_
  refine pm_aload_n dX4_init_4 rfl rfl ?_
  refine pm_bipush (v := 13) dX4_init_5 kb_13 ?_
  refine pm_newa (y := zX4_init) (atype := .long) (kd := 102) (by decide) tw_438 dX4_init_7 (fun r1 m2 => ?_)
  refine fp_4_1 (y := zX4_init) ⟨tw_420, rfl⟩ dX4_init_9 (fun m3 => ?_)
  refine pm_aload_n dX4_init_12 rfl rfl ?_
  refine pm_sipush (v := 208) dX4_init_13 ks_208 ?_
  refine pm_newa (y := zX4_init) (atype := .long) (kd := 102) (by decide) tw_438 dX4_init_16 (fun r4 m5 => ?_)
  refine fp_4_2 (y := zX4_init) ⟨tw_421, rfl⟩ dX4_init_18 (fun m6 => ?_)
  refine pm_aload_n dX4_init_21 rfl rfl ?_
  refine pm_bipush (v := 26) dX4_init_22 kb_26 ?_
  refine pm_newa (y := zX4_init) (atype := .int) (kd := 100) (by decide) tw_230 dX4_init_24 (fun r7 m8 => ?_)
  refine fp_4_3 (y := zX4_init) ⟨tw_422, rfl⟩ dX4_init_26 (fun m9 => ?_)
  refine pm_aload_n dX4_init_29 rfl rfl ?_
  refine pm_bipush (v := 26) dX4_init_30 kb_26 ?_
  refine pm_newa (y := zX4_init) (atype := .long) (kd := 102) (by decide) tw_438 dX4_init_32 (fun r10 m11 => ?_)
  refine fp_4_4 (y := zX4_init) ⟨tw_423, rfl⟩ dX4_init_34 (fun m12 => ?_)
  refine pm_aload_n dX4_init_37 rfl rfl ?_
  refine pm_bipush (v := 9) dX4_init_38 kb_9 ?_
  refine pm_newa (y := zX4_init) (atype := .int) (kd := 100) (by decide) tw_230 dX4_init_40 (fun r13 m14 => ?_)
  refine fp_4_5 (y := zX4_init) ⟨tw_424, rfl⟩ dX4_init_42 (fun m15 => ?_)
  refine pm_aload_n dX4_init_45 rfl rfl ?_
  refine pm_aload_n dX4_init_46 rfl rfl ?_
  refine fp_4_0 (y := zX4_init) ⟨tw_419, rfl⟩ dX4_init_47 (fun m16 => ?_)
  exact pm_vret rfl dX4_init_50
-- StruckPage$Search.startWays()V
def X4_startWays_L2 (l0 : Nat) (again2 : (Int32 × pmM) → pmR) (s2 : Int32 × pmM) : pmR := if (13 : Int32) ≤ s2.1 then (pm_gR 4 l0 1 s2.2 fun r1 => pm_stL r1 0 1 s2.2 fun m2 => pm_oV m2) else (pm_gR 4 l0 1 s2.2 fun r3 => pm_stL r3 s2.1 0 s2.2 fun m4 => pm_bI (s2.1 + 1) fun x5 => again2 (x5, m4))
def X4_startWays (a0 : Nat) (m : pmM) : pmR := pm_lp pm_N (X4_startWays_L2 a0) (0, m)
set_option maxRecDepth 100000 in
set_option maxHeartbeats 4000000 in
theorem gX4_startWays_L2 (hfl : l.flags = flags0) (l0 : Nat) : ∀ (n : Nat) (s : Int32 × pmM), pm_G l Γ zX4_startWays (d + 0) 2 [.ref l0, .int s.1] [] s.2 (pm_lp n (X4_startWays_L2 l0) s) :=
  pm_loop (lsf := fun s : Int32 × pmM => [.ref l0, .int s.1]) (mf := fun s : Int32 × pmM => s.2) (fun again2 hag2 s2 => by
    unfold X4_startWays_L2
    refine pm_iload_n dX4_startWays_2 rfl rfl ?_
    refine pm_bipush (v := 13) dX4_startWays_3 kb_13 ?_
    refine pm_icmp_ge (tgt := 21) dX4_startWays_5 rfl ?_ ?_
    · refine pm_aload_n dX4_startWays_21 rfl rfl ?_
      refine fg_4_1 (y := zX4_startWays) (Or.inl tw_420) dX4_startWays_22 (fun r1 => ?_)
      refine pm_iconst (v := 0) dX4_startWays_25 ki_0 ?_
      refine pm_lconst (v := 1) dX4_startWays_26 kl_1 ?_
      refine pm_last (y := zX4_startWays) dX4_startWays_27 (fun m2 => ?_)
      exact pm_vret rfl dX4_startWays_28
    · refine pm_aload_n dX4_startWays_8 rfl rfl ?_
      refine fg_4_1 (y := zX4_startWays) (Or.inl tw_420) dX4_startWays_9 (fun r3 => ?_)
      refine pm_iload_n dX4_startWays_12 rfl rfl ?_
      refine pm_lconst (v := 0) dX4_startWays_13 kl_0 ?_
      refine pm_last (y := zX4_startWays) dX4_startWays_14 (fun m4 => ?_)
      refine pm_iincn (y := zX4_startWays) dX4_startWays_15 rfl ki_1 rfl (Nat.le_of_ble_eq_true rfl) (fun x5 => ?_)
      refine pm_eqls (ls2 := [.ref l0, .int x5]) rfl ?_
      refine pm_goto (tgt := 2) dX4_startWays_18 rfl ?_
      exact hag2 (x5, m4))
set_option maxRecDepth 100000 in
set_option maxHeartbeats 4000000 in
theorem kcX4_startWays (hfl : l.flags = flags0) (a0 : Nat) (m : pmM) : pm_C l Γ zX4_startWays (d + 0) [.ref a0] m (X4_startWays a0 m) := by
  refine pm_enter (ls := [.ref a0, pmU]) hfl (by decide +kernel) rfl (Nat.le_of_ble_eq_true rfl) rfl (Nat.le_of_ble_eq_true rfl) ?_
  unfold X4_startWays
  refine pm_iconst (v := 0) dX4_startWays_0 ki_0 ?_
  refine pm_istore_n (ls2 := [.ref a0, .int 0]) dX4_startWays_1 rfl rfl (Nat.le_of_ble_eq_true rfl) rfl ?_
  exact gX4_startWays_L2 hfl a0 pm_N (0, m)
-- StruckPage$Search.waysTo(LStruckPage$Saying;)J
def X4_waysTo_j83 (again6 : (Int32 × pmM) → pmR) (again19 : (Int32 × pmM) → pmR) (again38 : (Int32 × pmM) → pmR) (l0 : Nat) (l1 : Nat) (l2 : Int32) (l3 : Int32) (l4 : Int32) (m : pmM) : pmR := pm_bI (l4 + (-1)) fun x18 => again38 (x18, m)
def X4_waysTo_L38 (again6 : (Int32 × pmM) → pmR) (again19 : (Int32 × pmM) → pmR) (l0 : Nat) (l1 : Nat) (l2 : Int32) (l3 : Int32) (again38 : (Int32 × pmM) → pmR) (s38 : Int32 × pmM) : pmR := if s38.1 ≤ 0 then (pm_bI (l3 + 1) fun x12 => again19 (x12, s38.2)) else (pm_gR 3 l1 0 s38.2 fun r13 => pm_ld 100 r13 (s38.1 - 1) s38.2 fun x14 => pm_gR 4 l0 0 s38.2 fun r15 => pm_rc 2 r15 s38.2 <| pm_cI (X2_wordAt r15 l2 l3 s38.2) fun x17 m16 => if x14 = x17 then (pm_gR 4 l0 1 m16 fun r19 => pm_ldL r19 s38.1 m16 fun x20 => pm_gR 4 l0 1 m16 fun r21 => pm_ldL r21 (s38.1 - 1) m16 fun x22 => pm_stL r19 s38.1 (x20 + x22) m16 fun m23 => X4_waysTo_j83 again6 again19 again38 l0 l1 l2 l3 s38.1 m23) else (X4_waysTo_j83 again6 again19 again38 l0 l1 l2 l3 s38.1 m16))
def X4_waysTo_L19 (again6 : (Int32 × pmM) → pmR) (l0 : Nat) (l1 : Nat) (l2 : Int32) (again19 : (Int32 × pmM) → pmR) (s19 : Int32 × pmM) : pmR := pm_gR 4 l0 0 s19.2 fun r7 => pm_gR 2 r7 0 s19.2 fun r8 => pm_ld 100 r8 l2 s19.2 fun x9 => if x9 ≤ s19.1 then (pm_bI (l2 + 1) fun x10 => again6 (x10, s19.2)) else (pm_gI 3 l1 1 s19.2 fun x11 => pm_lp pm_N (X4_waysTo_L38 again6 again19 l0 l1 l2 s19.1) (x11, s19.2))
def X4_waysTo_L6 (l0 : Nat) (l1 : Nat) (again6 : (Int32 × pmM) → pmR) (s6 : Int32 × pmM) : pmR := pm_gR 4 l0 0 s6.2 fun r2 => pm_gI 2 r2 3 s6.2 fun x3 => if x3 ≤ s6.1 then (pm_gR 4 l0 1 s6.2 fun r4 => pm_gI 3 l1 1 s6.2 fun x5 => pm_ldL r4 x5 s6.2 fun x6 => pm_oL x6 s6.2) else (pm_lp pm_N (X4_waysTo_L19 again6 l0 l1 s6.1) (0, s6.2))
def X4_waysTo (a0 : Nat) (a1 : Nat) (m : pmM) : pmR := pm_rc 4 a0 m <| pm_cV (X4_startWays a0 m) fun m1 => pm_lp pm_N (X4_waysTo_L6 a0 a1) (0, m1)
set_option maxRecDepth 100000 in
set_option maxHeartbeats 4000000 in
theorem gX4_waysTo_j83 (hfl : l.flags = flags0) (again6 : (Int32 × pmM) → pmR) (again19 : (Int32 × pmM) → pmR) (again38 : (Int32 × pmM) → pmR) (l0 : Nat) (l1 : Nat) (l2 : Int32) (l3 : Int32) (l4 : Int32) (m : pmM) (hag6 : ∀ s : Int32 × pmM, pm_G l Γ zX4_waysTo (d + 1) 6 [.ref l0, .ref l1, .int s.1, pmU, pmU] [] s.2 (again6 s)) (hag19 : ∀ s : Int32 × pmM, pm_G l Γ zX4_waysTo (d + 1) 19 [.ref l0, .ref l1, .int l2, .int s.1, pmU] [] s.2 (again19 s)) (hag38 : ∀ s : Int32 × pmM, pm_G l Γ zX4_waysTo (d + 1) 38 [.ref l0, .ref l1, .int l2, .int l3, .int s.1] [] s.2 (again38 s)) : pm_G l Γ zX4_waysTo (d + 1) 83 [.ref l0, .ref l1, .int l2, .int l3, .int l4] [] m (X4_waysTo_j83 again6 again19 again38 l0 l1 l2 l3 l4 m) := by
  unfold X4_waysTo_j83
  refine pm_iincn (y := zX4_waysTo) dX4_waysTo_83 rfl ki_n1 rfl (Nat.le_of_ble_eq_true rfl) (fun x18 => ?_)
  refine pm_eqls (ls2 := [.ref l0, .ref l1, .int l2, .int l3, .int x18]) rfl ?_
  refine pm_goto (tgt := 38) dX4_waysTo_86 rfl ?_
  exact hag38 (x18, m)
set_option maxRecDepth 100000 in
set_option maxHeartbeats 4000000 in
theorem gX4_waysTo_L38 (hfl : l.flags = flags0) (again6 : (Int32 × pmM) → pmR) (again19 : (Int32 × pmM) → pmR) (l0 : Nat) (l1 : Nat) (l2 : Int32) (l3 : Int32) (hag6 : ∀ s : Int32 × pmM, pm_G l Γ zX4_waysTo (d + 1) 6 [.ref l0, .ref l1, .int s.1, pmU, pmU] [] s.2 (again6 s)) (hag19 : ∀ s : Int32 × pmM, pm_G l Γ zX4_waysTo (d + 1) 19 [.ref l0, .ref l1, .int l2, .int s.1, pmU] [] s.2 (again19 s)) : ∀ (n : Nat) (s : Int32 × pmM), pm_G l Γ zX4_waysTo (d + 1) 38 [.ref l0, .ref l1, .int l2, .int l3, .int s.1] [] s.2 (pm_lp n (X4_waysTo_L38 again6 again19 l0 l1 l2 l3) s) :=
  pm_loop (lsf := fun s : Int32 × pmM => [.ref l0, .ref l1, .int l2, .int l3, .int s.1]) (mf := fun s : Int32 × pmM => s.2) (fun again38 hag38 s38 => by
    unfold X4_waysTo_L38
    refine pm_iload dX4_waysTo_38 rfl ?_
    refine pm_if_le (tgt := 89) dX4_waysTo_40 rfl ?_ ?_
    · refine pm_iincn (y := zX4_waysTo) dX4_waysTo_89 rfl ki_1 rfl (Nat.le_of_ble_eq_true rfl) (fun x12 => ?_)
      refine pm_eqls (ls2 := [.ref l0, .ref l1, .int l2, .int x12, .int s38.1]) rfl ?_
      refine pm_goto (tgt := 19) dX4_waysTo_92 rfl ?_
      refine pm_drop (ls2 := [.ref l0, .ref l1, .int l2, .int x12, pmU]) (Nat.le_refl _) (pm_le_spec (pm_le_v (pm_le_v (pm_le_v (pm_le_v (pm_le_u (pm_le_n))))))) ?_
      exact hag19 (x12, s38.2)
    · refine pm_aload_n dX4_waysTo_43 rfl rfl ?_
      refine fg_3_0 (y := zX4_waysTo) (Or.inr tw_301) dX4_waysTo_44 (fun r13 => ?_)
      refine pm_iload dX4_waysTo_47 rfl ?_
      refine pm_iconst (v := 1) dX4_waysTo_49 ki_1 ?_
      refine pm_isub dX4_waysTo_50 ?_
      refine pm_iald (y := zX4_waysTo) dX4_waysTo_51 (fun x14 => ?_)
      refine pm_aload_n dX4_waysTo_52 rfl rfl ?_
      refine fg_4_0 (y := zX4_waysTo) (Or.inl tw_419) dX4_waysTo_53 (fun r15 => ?_)
      refine pm_iload_n dX4_waysTo_56 rfl rfl ?_
      refine pm_iload_n dX4_waysTo_57 rfl rfl ?_
      refine pm_rcv (fun hb9 hc9 => ?_)
      refine pm_kI (d := d + 0) rfl (pm_VN (y := zX4_waysTo) (z := zX2_wordAt) (As := [.int l2, .int l3]) zkX2_wordAt pm_q2 (by decide) tw_627 tw_579 tw_13 dX4_waysTo_58 rfl rfl (Nat.le_of_ble_eq_true rfl) hb9 hc9) (kcX2_wordAt (d := d + 0) hfl r15 l2 l3 s38.2) (fun x17 m16 => ?_)
      refine pm_icmp_ne (tgt := 83) dX4_waysTo_61 rfl ?_ ?_
      · exact gX4_waysTo_j83 hfl again6 again19 again38 l0 l1 l2 l3 s38.1 m16 hag6 hag19 hag38
      · refine pm_aload_n dX4_waysTo_64 rfl rfl ?_
        refine fg_4_1 (y := zX4_waysTo) (Or.inl tw_420) dX4_waysTo_65 (fun r19 => ?_)
        refine pm_iload dX4_waysTo_68 rfl ?_
        refine pm_dup2 dX4_waysTo_70 rfl rfl ?_
        refine pm_lald (y := zX4_waysTo) dX4_waysTo_71 (fun x20 => ?_)
        refine pm_aload_n dX4_waysTo_72 rfl rfl ?_
        refine fg_4_1 (y := zX4_waysTo) (Or.inl tw_420) dX4_waysTo_73 (fun r21 => ?_)
        refine pm_iload dX4_waysTo_76 rfl ?_
        refine pm_iconst (v := 1) dX4_waysTo_78 ki_1 ?_
        refine pm_isub dX4_waysTo_79 ?_
        refine pm_lald (y := zX4_waysTo) dX4_waysTo_80 (fun x22 => ?_)
        refine pm_ladd dX4_waysTo_81 ?_
        refine pm_last (y := zX4_waysTo) dX4_waysTo_82 (fun m23 => ?_)
        exact gX4_waysTo_j83 hfl again6 again19 again38 l0 l1 l2 l3 s38.1 m23 hag6 hag19 hag38)
set_option maxRecDepth 100000 in
set_option maxHeartbeats 4000000 in
theorem gX4_waysTo_L19 (hfl : l.flags = flags0) (again6 : (Int32 × pmM) → pmR) (l0 : Nat) (l1 : Nat) (l2 : Int32) (hag6 : ∀ s : Int32 × pmM, pm_G l Γ zX4_waysTo (d + 1) 6 [.ref l0, .ref l1, .int s.1, pmU, pmU] [] s.2 (again6 s)) : ∀ (n : Nat) (s : Int32 × pmM), pm_G l Γ zX4_waysTo (d + 1) 19 [.ref l0, .ref l1, .int l2, .int s.1, pmU] [] s.2 (pm_lp n (X4_waysTo_L19 again6 l0 l1 l2) s) :=
  pm_loop (lsf := fun s : Int32 × pmM => [.ref l0, .ref l1, .int l2, .int s.1, pmU]) (mf := fun s : Int32 × pmM => s.2) (fun again19 hag19 s19 => by
    unfold X4_waysTo_L19
    refine pm_iload_n dX4_waysTo_19 rfl rfl ?_
    refine pm_aload_n dX4_waysTo_20 rfl rfl ?_
    refine fg_4_0 (y := zX4_waysTo) (Or.inl tw_419) dX4_waysTo_21 (fun r7 => ?_)
    refine fg_2_0 (y := zX4_waysTo) (Or.inr tw_238) dX4_waysTo_24 (fun r8 => ?_)
    refine pm_iload_n dX4_waysTo_27 rfl rfl ?_
    refine pm_iald (y := zX4_waysTo) dX4_waysTo_28 (fun x9 => ?_)
    refine pm_icmp_ge (tgt := 95) dX4_waysTo_29 rfl ?_ ?_
    · refine pm_iincn (y := zX4_waysTo) dX4_waysTo_95 rfl ki_1 rfl (Nat.le_of_ble_eq_true rfl) (fun x10 => ?_)
      refine pm_eqls (ls2 := [.ref l0, .ref l1, .int x10, .int s19.1, pmU]) rfl ?_
      refine pm_goto (tgt := 6) dX4_waysTo_98 rfl ?_
      refine pm_drop (ls2 := [.ref l0, .ref l1, .int x10, pmU, pmU]) (Nat.le_refl _) (pm_le_spec (pm_le_v (pm_le_v (pm_le_v (pm_le_u (pm_le_u (pm_le_n))))))) ?_
      exact hag6 (x10, s19.2)
    · refine pm_aload_n dX4_waysTo_32 rfl rfl ?_
      refine fg_3_1 (y := zX4_waysTo) (Or.inr tw_304) dX4_waysTo_33 (fun x11 => ?_)
      refine pm_istore (ls2 := [.ref l0, .ref l1, .int l2, .int s19.1, .int x11]) dX4_waysTo_36 rfl (Nat.le_of_ble_eq_true rfl) rfl ?_
      exact gX4_waysTo_L38 hfl again6 again19 l0 l1 l2 s19.1 hag6 hag19 pm_N (x11, s19.2))
set_option maxRecDepth 100000 in
set_option maxHeartbeats 4000000 in
theorem gX4_waysTo_L6 (hfl : l.flags = flags0) (l0 : Nat) (l1 : Nat) : ∀ (n : Nat) (s : Int32 × pmM), pm_G l Γ zX4_waysTo (d + 1) 6 [.ref l0, .ref l1, .int s.1, pmU, pmU] [] s.2 (pm_lp n (X4_waysTo_L6 l0 l1) s) :=
  pm_loop (lsf := fun s : Int32 × pmM => [.ref l0, .ref l1, .int s.1, pmU, pmU]) (mf := fun s : Int32 × pmM => s.2) (fun again6 hag6 s6 => by
    unfold X4_waysTo_L6
    refine pm_iload_n dX4_waysTo_6 rfl rfl ?_
    refine pm_aload_n dX4_waysTo_7 rfl rfl ?_
    refine fg_4_0 (y := zX4_waysTo) (Or.inl tw_419) dX4_waysTo_8 (fun r2 => ?_)
    refine fg_2_3 (y := zX4_waysTo) (Or.inr tw_245) dX4_waysTo_11 (fun x3 => ?_)
    refine pm_icmp_ge (tgt := 101) dX4_waysTo_14 rfl ?_ ?_
    · refine pm_aload_n dX4_waysTo_101 rfl rfl ?_
      refine fg_4_1 (y := zX4_waysTo) (Or.inl tw_420) dX4_waysTo_102 (fun r4 => ?_)
      refine pm_aload_n dX4_waysTo_105 rfl rfl ?_
      refine fg_3_1 (y := zX4_waysTo) (Or.inr tw_304) dX4_waysTo_106 (fun x5 => ?_)
      refine pm_lald (y := zX4_waysTo) dX4_waysTo_109 (fun x6 => ?_)
      exact pm_lret rfl dX4_waysTo_110
    · refine pm_iconst (v := 0) dX4_waysTo_17 ki_0 ?_
      refine pm_istore_n (ls2 := [.ref l0, .ref l1, .int s6.1, .int 0, pmU]) dX4_waysTo_18 rfl rfl (Nat.le_of_ble_eq_true rfl) rfl ?_
      exact gX4_waysTo_L19 hfl again6 l0 l1 s6.1 hag6 pm_N (0, s6.2))
set_option maxRecDepth 100000 in
set_option maxHeartbeats 4000000 in
theorem kcX4_waysTo (hfl : l.flags = flags0) (a0 : Nat) (a1 : Nat) (m : pmM) : pm_C l Γ zX4_waysTo (d + 1) [.ref a0, .ref a1] m (X4_waysTo a0 a1 m) := by
  refine pm_enter (ls := [.ref a0, .ref a1, pmU, pmU, pmU]) hfl (by decide +kernel) rfl (Nat.le_of_ble_eq_true rfl) rfl (Nat.le_of_ble_eq_true rfl) ?_
  unfold X4_waysTo
  refine pm_aload_n dX4_waysTo_0 rfl rfl ?_
  refine pm_rcv (fun hb9 hc9 => ?_)
  refine pm_kV (d := d + 0) rfl (pm_V (y := zX4_waysTo) (z := zX4_startWays) (As := []) zkX4_startWays pm_q4 (by decide) tw_623 tw_625 tw_21 dX4_waysTo_1 rfl rfl (Nat.le_of_ble_eq_true rfl) hb9 hc9) (kcX4_startWays (d := d + 0) hfl a0 m) (fun m1 => ?_)
  refine pm_iconst (v := 0) dX4_waysTo_4 ki_0 ?_
  refine pm_istore_n (ls2 := [.ref a0, .ref a1, .int 0, pmU, pmU]) dX4_waysTo_5 rfl rfl (Nat.le_of_ble_eq_true rfl) rfl ?_
  exact gX4_waysTo_L6 hfl a0 a1 pm_N (0, m1)
-- StruckPage$Search.addRowsWith(I)V
def X4_addRowsWith_L8 (l0 : Nat) (l2 : Int32) (again8 : (Int32 × pmM) → pmR) (s8 : Int32 × pmM) : pmR := if s8.1 ≤ 0 then (pm_oV s8.2) else (pm_gR 4 l0 1 s8.2 fun r2 => pm_ldL r2 (s8.1 - 1) s8.2 fun x3 => pm_gR 4 l0 1 s8.2 fun r4 => pm_ldL r4 s8.1 s8.2 fun x5 => pm_gR 4 l0 2 s8.2 fun r6 => pm_ldL r6 ((l2 + s8.1) - 1) s8.2 fun x7 => pm_stL r4 s8.1 (x5 + (x3 - x7)) s8.2 fun m8 => pm_gR 4 l0 2 m8 fun r9 => pm_stL r9 ((l2 + s8.1) - 1) x3 m8 fun m10 => pm_bI (s8.1 + (-1)) fun x11 => again8 (x11, m10))
def X4_addRowsWith (a0 : Nat) (a1 : Int32) (m : pmM) : pmR := pm_bI (a1 * 13) fun x1 => pm_lp pm_N (X4_addRowsWith_L8 a0 x1) (12, m)
set_option maxRecDepth 100000 in
set_option maxHeartbeats 4000000 in
theorem gX4_addRowsWith_L8 (hfl : l.flags = flags0) (l0 : Nat) (l2 : Int32) : ∀ (n : Nat) (s : Int32 × pmM), pm_G l Γ zX4_addRowsWith (d + 0) 8 [.ref l0, pmU, .int l2, .int s.1, pmU, pmU] [] s.2 (pm_lp n (X4_addRowsWith_L8 l0 l2) s) :=
  pm_loop (lsf := fun s : Int32 × pmM => [.ref l0, pmU, .int l2, .int s.1, pmU, pmU]) (mf := fun s : Int32 × pmM => s.2) (fun again8 hag8 s8 => by
    unfold X4_addRowsWith_L8
    refine pm_iload_n dX4_addRowsWith_8 rfl rfl ?_
    refine pm_if_le (tgt := 62) dX4_addRowsWith_9 rfl ?_ ?_
    · exact pm_vret rfl dX4_addRowsWith_62
    · refine pm_aload_n dX4_addRowsWith_12 rfl rfl ?_
      refine fg_4_1 (y := zX4_addRowsWith) (Or.inl tw_420) dX4_addRowsWith_13 (fun r2 => ?_)
      refine pm_iload_n dX4_addRowsWith_16 rfl rfl ?_
      refine pm_iconst (v := 1) dX4_addRowsWith_17 ki_1 ?_
      refine pm_isub dX4_addRowsWith_18 ?_
      refine pm_lald (y := zX4_addRowsWith) dX4_addRowsWith_19 (fun x3 => ?_)
      refine pm_lstore (ls2 := [.ref l0, pmU, .int l2, .int s8.1, .long x3, pmU]) dX4_addRowsWith_20 rfl (Nat.le_of_ble_eq_true rfl) rfl ?_
      refine pm_aload_n dX4_addRowsWith_22 rfl rfl ?_
      refine fg_4_1 (y := zX4_addRowsWith) (Or.inl tw_420) dX4_addRowsWith_23 (fun r4 => ?_)
      refine pm_iload_n dX4_addRowsWith_26 rfl rfl ?_
      refine pm_dup2 dX4_addRowsWith_27 rfl rfl ?_
      refine pm_lald (y := zX4_addRowsWith) dX4_addRowsWith_28 (fun x5 => ?_)
      refine pm_lload dX4_addRowsWith_29 rfl ?_
      refine pm_aload_n dX4_addRowsWith_31 rfl rfl ?_
      refine fg_4_2 (y := zX4_addRowsWith) (Or.inl tw_421) dX4_addRowsWith_32 (fun r6 => ?_)
      refine pm_iload_n dX4_addRowsWith_35 rfl rfl ?_
      refine pm_iload_n dX4_addRowsWith_36 rfl rfl ?_
      refine pm_iadd dX4_addRowsWith_37 ?_
      refine pm_iconst (v := 1) dX4_addRowsWith_38 ki_1 ?_
      refine pm_isub dX4_addRowsWith_39 ?_
      refine pm_lald (y := zX4_addRowsWith) dX4_addRowsWith_40 (fun x7 => ?_)
      refine pm_lsub dX4_addRowsWith_41 ?_
      refine pm_ladd dX4_addRowsWith_42 ?_
      refine pm_last (y := zX4_addRowsWith) dX4_addRowsWith_43 (fun m8 => ?_)
      refine pm_aload_n dX4_addRowsWith_44 rfl rfl ?_
      refine fg_4_2 (y := zX4_addRowsWith) (Or.inl tw_421) dX4_addRowsWith_45 (fun r9 => ?_)
      refine pm_iload_n dX4_addRowsWith_48 rfl rfl ?_
      refine pm_iload_n dX4_addRowsWith_49 rfl rfl ?_
      refine pm_iadd dX4_addRowsWith_50 ?_
      refine pm_iconst (v := 1) dX4_addRowsWith_51 ki_1 ?_
      refine pm_isub dX4_addRowsWith_52 ?_
      refine pm_lload dX4_addRowsWith_53 rfl ?_
      refine pm_last (y := zX4_addRowsWith) dX4_addRowsWith_55 (fun m10 => ?_)
      refine pm_iincn (y := zX4_addRowsWith) dX4_addRowsWith_56 rfl ki_n1 rfl (Nat.le_of_ble_eq_true rfl) (fun x11 => ?_)
      refine pm_eqls (ls2 := [.ref l0, pmU, .int l2, .int x11, .long x3, pmU]) rfl ?_
      refine pm_goto (tgt := 8) dX4_addRowsWith_59 rfl ?_
      refine pm_drop (ls2 := [.ref l0, pmU, .int l2, .int x11, pmU, pmU]) (Nat.le_refl _) (pm_le_spec (pm_le_v (pm_le_u (pm_le_v (pm_le_v (pm_le_u (pm_le_u (pm_le_n)))))))) ?_
      exact hag8 (x11, m10))
set_option maxRecDepth 100000 in
set_option maxHeartbeats 4000000 in
theorem kcX4_addRowsWith (hfl : l.flags = flags0) (a0 : Nat) (a1 : Int32) (m : pmM) : pm_C l Γ zX4_addRowsWith (d + 0) [.ref a0, .int a1] m (X4_addRowsWith a0 a1 m) := by
  refine pm_enter (ls := [.ref a0, .int a1, pmU, pmU, pmU, pmU]) hfl (by decide +kernel) rfl (Nat.le_of_ble_eq_true rfl) rfl (Nat.le_of_ble_eq_true rfl) ?_
  unfold X4_addRowsWith
  refine pm_iload_n dX4_addRowsWith_0 rfl rfl ?_
  refine pm_bipush (v := 13) dX4_addRowsWith_1 kb_13 ?_
  refine pm_imul dX4_addRowsWith_3 ?_
  refine pm_bIn (fun x1 => ?_)
  refine pm_istore_n (ls2 := [.ref a0, .int a1, .int x1, pmU, pmU, pmU]) dX4_addRowsWith_4 rfl rfl (Nat.le_of_ble_eq_true rfl) rfl ?_
  refine pm_bipush (v := 12) dX4_addRowsWith_5 kb_12 ?_
  refine pm_istore_n (ls2 := [.ref a0, .int a1, .int x1, .int 12, pmU, pmU]) dX4_addRowsWith_7 rfl rfl (Nat.le_of_ble_eq_true rfl) rfl ?_
  refine pm_drop (ls2 := [.ref a0, pmU, .int x1, .int 12, pmU, pmU]) (Nat.le_refl _) (pm_le_spec (pm_le_v (pm_le_u (pm_le_v (pm_le_v (pm_le_u (pm_le_u (pm_le_n)))))))) ?_
  exact gX4_addRowsWith_L8 hfl a0 x1 pm_N (12, m)
-- StruckPage$Search.unlikeRows(I)J
def X4_unlikeRows_j101 (t0 : Int64) (m : pmM) : pmR := pm_oL t0 m
def X4_unlikeRows_j100 (m : pmM) : pmR := X4_unlikeRows_j101 0 m
def X4_unlikeRows_L43 (again30 : (Int32 × pmM) → pmR) (l0 : Nat) (l1 : Int32) (l2 : Int32) (again43 : (Int32 × pmM) → pmR) (s43 : Int32 × pmM) : pmR := pm_gR 4 l0 0 s43.2 fun r8 => pm_gR 2 r8 0 s43.2 fun r9 => pm_ld 100 r9 l2 s43.2 fun x10 => if x10 ≤ s43.1 then (pm_bI (l2 + 1) fun x11 => again30 (x11, s43.2)) else (pm_gR 4 l0 0 s43.2 fun r12 => pm_rc 2 r12 s43.2 <| pm_cI (X2_wordAt r12 l2 s43.1 s43.2) fun x14 m13 => pm_rc 4 l0 m13 <| pm_cV (X4_addRowsWith l0 x14 m13) fun m15 => pm_bI (s43.1 + 1) fun x16 => again43 (x16, m15))
def X4_unlikeRows_L30 (l0 : Nat) (l1 : Int32) (again30 : (Int32 × pmM) → pmR) (s30 : Int32 × pmM) : pmR := pm_gR 4 l0 0 s30.2 fun r4 => pm_gI 2 r4 3 s30.2 fun x5 => if x5 ≤ s30.1 then (if l1 < 0 then (X4_unlikeRows_j100 s30.2) else (if (13 : Int32) ≤ l1 then (X4_unlikeRows_j100 s30.2) else (pm_gR 4 l0 1 s30.2 fun r6 => pm_ldL r6 l1 s30.2 fun x7 => X4_unlikeRows_j101 x7 s30.2))) else (pm_lp pm_N (X4_unlikeRows_L43 again30 l0 l1 s30.1) (0, s30.2))
def X4_unlikeRows_L6 (l0 : Nat) (l1 : Int32) (again6 : (Int32 × pmM) → pmR) (s6 : Int32 × pmM) : pmR := pm_gR 4 l0 2 s6.2 fun r2 => pm_len 102 r2 s6.2 fun x3 => if x3 ≤ s6.1 then (pm_lp pm_N (X4_unlikeRows_L30 l0 l1) (0, s6.2)) else (pm_gR 4 l0 2 s6.2 fun r17 => pm_stL r17 s6.1 0 s6.2 fun m18 => pm_bI (s6.1 + 1) fun x19 => again6 (x19, m18))
def X4_unlikeRows (a0 : Nat) (a1 : Int32) (m : pmM) : pmR := pm_rc 4 a0 m <| pm_cV (X4_startWays a0 m) fun m1 => pm_lp pm_N (X4_unlikeRows_L6 a0 a1) (0, m1)
set_option maxRecDepth 100000 in
set_option maxHeartbeats 4000000 in
theorem gX4_unlikeRows_j101 (hfl : l.flags = flags0) (t0 : Int64) (m : pmM) : pm_G l Γ zX4_unlikeRows (d + 1) 101 [pmU, pmU, pmU, pmU] [.long t0] m (X4_unlikeRows_j101 t0 m) := by
  unfold X4_unlikeRows_j101
  exact pm_lret rfl dX4_unlikeRows_101
set_option maxRecDepth 100000 in
set_option maxHeartbeats 4000000 in
theorem gX4_unlikeRows_j100 (hfl : l.flags = flags0) (m : pmM) : pm_G l Γ zX4_unlikeRows (d + 1) 100 [pmU, pmU, pmU, pmU] [] m (X4_unlikeRows_j100 m) := by
  unfold X4_unlikeRows_j100
  refine pm_lconst (v := 0) dX4_unlikeRows_100 kl_0 ?_
  exact gX4_unlikeRows_j101 hfl 0 m
set_option maxRecDepth 100000 in
set_option maxHeartbeats 4000000 in
theorem gX4_unlikeRows_L43 (hfl : l.flags = flags0) (again30 : (Int32 × pmM) → pmR) (l0 : Nat) (l1 : Int32) (l2 : Int32) (hag30 : ∀ s : Int32 × pmM, pm_G l Γ zX4_unlikeRows (d + 1) 30 [.ref l0, .int l1, .int s.1, pmU] [] s.2 (again30 s)) : ∀ (n : Nat) (s : Int32 × pmM), pm_G l Γ zX4_unlikeRows (d + 1) 43 [.ref l0, .int l1, .int l2, .int s.1] [] s.2 (pm_lp n (X4_unlikeRows_L43 again30 l0 l1 l2) s) :=
  pm_loop (lsf := fun s : Int32 × pmM => [.ref l0, .int l1, .int l2, .int s.1]) (mf := fun s : Int32 × pmM => s.2) (fun again43 hag43 s43 => by
    unfold X4_unlikeRows_L43
    refine pm_iload_n dX4_unlikeRows_43 rfl rfl ?_
    refine pm_aload_n dX4_unlikeRows_44 rfl rfl ?_
    refine fg_4_0 (y := zX4_unlikeRows) (Or.inl tw_419) dX4_unlikeRows_45 (fun r8 => ?_)
    refine fg_2_0 (y := zX4_unlikeRows) (Or.inr tw_238) dX4_unlikeRows_48 (fun r9 => ?_)
    refine pm_iload_n dX4_unlikeRows_51 rfl rfl ?_
    refine pm_iald (y := zX4_unlikeRows) dX4_unlikeRows_52 (fun x10 => ?_)
    refine pm_icmp_ge (tgt := 75) dX4_unlikeRows_53 rfl ?_ ?_
    · refine pm_iincn (y := zX4_unlikeRows) dX4_unlikeRows_75 rfl ki_1 rfl (Nat.le_of_ble_eq_true rfl) (fun x11 => ?_)
      refine pm_eqls (ls2 := [.ref l0, .int l1, .int x11, .int s43.1]) rfl ?_
      refine pm_goto (tgt := 30) dX4_unlikeRows_78 rfl ?_
      refine pm_drop (ls2 := [.ref l0, .int l1, .int x11, pmU]) (Nat.le_refl _) (pm_le_spec (pm_le_v (pm_le_v (pm_le_v (pm_le_u (pm_le_n)))))) ?_
      exact hag30 (x11, s43.2)
    · refine pm_aload_n dX4_unlikeRows_56 rfl rfl ?_
      refine pm_aload_n dX4_unlikeRows_57 rfl rfl ?_
      refine fg_4_0 (y := zX4_unlikeRows) (Or.inl tw_419) dX4_unlikeRows_58 (fun r12 => ?_)
      refine pm_iload_n dX4_unlikeRows_61 rfl rfl ?_
      refine pm_iload_n dX4_unlikeRows_62 rfl rfl ?_
      refine pm_rcv (fun hb9 hc9 => ?_)
      refine pm_kI (d := d + 0) rfl (pm_VN (y := zX4_unlikeRows) (z := zX2_wordAt) (As := [.int l2, .int s43.1]) zkX2_wordAt pm_q2 (by decide) tw_627 tw_579 tw_13 dX4_unlikeRows_63 rfl rfl (Nat.le_of_ble_eq_true rfl) hb9 hc9) (kcX2_wordAt (d := d + 0) hfl r12 l2 s43.1 s43.2) (fun x14 m13 => ?_)
      refine pm_rcv (fun hb9 hc9 => ?_)
      refine pm_kV (d := d + 0) rfl (pm_V (y := zX4_unlikeRows) (z := zX4_addRowsWith) (As := [.int x14]) zkX4_addRowsWith pm_q4 (by decide) tw_1189 tw_1191 tw_86 dX4_unlikeRows_66 rfl rfl (Nat.le_of_ble_eq_true rfl) hb9 hc9) (kcX4_addRowsWith (d := d + 0) hfl l0 x14 m13) (fun m15 => ?_)
      refine pm_iincn (y := zX4_unlikeRows) dX4_unlikeRows_69 rfl ki_1 rfl (Nat.le_of_ble_eq_true rfl) (fun x16 => ?_)
      refine pm_eqls (ls2 := [.ref l0, .int l1, .int l2, .int x16]) rfl ?_
      refine pm_goto (tgt := 43) dX4_unlikeRows_72 rfl ?_
      exact hag43 (x16, m15))
set_option maxRecDepth 100000 in
set_option maxHeartbeats 4000000 in
theorem gX4_unlikeRows_L30 (hfl : l.flags = flags0) (l0 : Nat) (l1 : Int32) : ∀ (n : Nat) (s : Int32 × pmM), pm_G l Γ zX4_unlikeRows (d + 1) 30 [.ref l0, .int l1, .int s.1, pmU] [] s.2 (pm_lp n (X4_unlikeRows_L30 l0 l1) s) :=
  pm_loop (lsf := fun s : Int32 × pmM => [.ref l0, .int l1, .int s.1, pmU]) (mf := fun s : Int32 × pmM => s.2) (fun again30 hag30 s30 => by
    unfold X4_unlikeRows_L30
    refine pm_iload_n dX4_unlikeRows_30 rfl rfl ?_
    refine pm_aload_n dX4_unlikeRows_31 rfl rfl ?_
    refine fg_4_0 (y := zX4_unlikeRows) (Or.inl tw_419) dX4_unlikeRows_32 (fun r4 => ?_)
    refine fg_2_3 (y := zX4_unlikeRows) (Or.inr tw_245) dX4_unlikeRows_35 (fun x5 => ?_)
    refine pm_icmp_ge (tgt := 81) dX4_unlikeRows_38 rfl ?_ ?_
    · refine pm_iload_n dX4_unlikeRows_81 rfl rfl ?_
      refine pm_if_lt (tgt := 100) dX4_unlikeRows_82 rfl ?_ ?_
      · refine pm_drop (ls2 := [pmU, pmU, pmU, pmU]) (Nat.le_refl _) (pm_le_spec (pm_le_u (pm_le_u (pm_le_u (pm_le_u (pm_le_n)))))) ?_
        exact gX4_unlikeRows_j100 hfl s30.2
      · refine pm_iload_n dX4_unlikeRows_85 rfl rfl ?_
        refine pm_bipush (v := 13) dX4_unlikeRows_86 kb_13 ?_
        refine pm_icmp_ge (tgt := 100) dX4_unlikeRows_88 rfl ?_ ?_
        · refine pm_drop (ls2 := [pmU, pmU, pmU, pmU]) (Nat.le_refl _) (pm_le_spec (pm_le_u (pm_le_u (pm_le_u (pm_le_u (pm_le_n)))))) ?_
          exact gX4_unlikeRows_j100 hfl s30.2
        · refine pm_aload_n dX4_unlikeRows_91 rfl rfl ?_
          refine fg_4_1 (y := zX4_unlikeRows) (Or.inl tw_420) dX4_unlikeRows_92 (fun r6 => ?_)
          refine pm_iload_n dX4_unlikeRows_95 rfl rfl ?_
          refine pm_lald (y := zX4_unlikeRows) dX4_unlikeRows_96 (fun x7 => ?_)
          refine pm_goto (tgt := 101) dX4_unlikeRows_97 rfl ?_
          refine pm_drop (ls2 := [pmU, pmU, pmU, pmU]) (Nat.le_refl _) (pm_le_spec (pm_le_u (pm_le_u (pm_le_u (pm_le_u (pm_le_n)))))) ?_
          exact gX4_unlikeRows_j101 hfl x7 s30.2
    · refine pm_iconst (v := 0) dX4_unlikeRows_41 ki_0 ?_
      refine pm_istore_n (ls2 := [.ref l0, .int l1, .int s30.1, .int 0]) dX4_unlikeRows_42 rfl rfl (Nat.le_of_ble_eq_true rfl) rfl ?_
      exact gX4_unlikeRows_L43 hfl again30 l0 l1 s30.1 hag30 pm_N (0, s30.2))
set_option maxRecDepth 100000 in
set_option maxHeartbeats 4000000 in
theorem gX4_unlikeRows_L6 (hfl : l.flags = flags0) (l0 : Nat) (l1 : Int32) : ∀ (n : Nat) (s : Int32 × pmM), pm_G l Γ zX4_unlikeRows (d + 1) 6 [.ref l0, .int l1, .int s.1, pmU] [] s.2 (pm_lp n (X4_unlikeRows_L6 l0 l1) s) :=
  pm_loop (lsf := fun s : Int32 × pmM => [.ref l0, .int l1, .int s.1, pmU]) (mf := fun s : Int32 × pmM => s.2) (fun again6 hag6 s6 => by
    unfold X4_unlikeRows_L6
    refine pm_iload_n dX4_unlikeRows_6 rfl rfl ?_
    refine pm_aload_n dX4_unlikeRows_7 rfl rfl ?_
    refine fg_4_2 (y := zX4_unlikeRows) (Or.inl tw_421) dX4_unlikeRows_8 (fun r2 => ?_)
    refine pm_alen (y := zX4_unlikeRows) (kd := 102) (by decide) (by decide) dX4_unlikeRows_11 (fun x3 => ?_)
    refine pm_icmp_ge (tgt := 28) dX4_unlikeRows_12 rfl ?_ ?_
    · refine pm_iconst (v := 0) dX4_unlikeRows_28 ki_0 ?_
      refine pm_istore_n (ls2 := [.ref l0, .int l1, .int 0, pmU]) dX4_unlikeRows_29 rfl rfl (Nat.le_of_ble_eq_true rfl) rfl ?_
      exact gX4_unlikeRows_L30 hfl l0 l1 pm_N (0, s6.2)
    · refine pm_aload_n dX4_unlikeRows_15 rfl rfl ?_
      refine fg_4_2 (y := zX4_unlikeRows) (Or.inl tw_421) dX4_unlikeRows_16 (fun r17 => ?_)
      refine pm_iload_n dX4_unlikeRows_19 rfl rfl ?_
      refine pm_lconst (v := 0) dX4_unlikeRows_20 kl_0 ?_
      refine pm_last (y := zX4_unlikeRows) dX4_unlikeRows_21 (fun m18 => ?_)
      refine pm_iincn (y := zX4_unlikeRows) dX4_unlikeRows_22 rfl ki_1 rfl (Nat.le_of_ble_eq_true rfl) (fun x19 => ?_)
      refine pm_eqls (ls2 := [.ref l0, .int l1, .int x19, pmU]) rfl ?_
      refine pm_goto (tgt := 6) dX4_unlikeRows_25 rfl ?_
      exact hag6 (x19, m18))
set_option maxRecDepth 100000 in
set_option maxHeartbeats 4000000 in
theorem kcX4_unlikeRows (hfl : l.flags = flags0) (a0 : Nat) (a1 : Int32) (m : pmM) : pm_C l Γ zX4_unlikeRows (d + 1) [.ref a0, .int a1] m (X4_unlikeRows a0 a1 m) := by
  refine pm_enter (ls := [.ref a0, .int a1, pmU, pmU]) hfl (by decide +kernel) rfl (Nat.le_of_ble_eq_true rfl) rfl (Nat.le_of_ble_eq_true rfl) ?_
  unfold X4_unlikeRows
  refine pm_aload_n dX4_unlikeRows_0 rfl rfl ?_
  refine pm_rcv (fun hb9 hc9 => ?_)
  refine pm_kV (d := d + 0) rfl (pm_V (y := zX4_unlikeRows) (z := zX4_startWays) (As := []) zkX4_startWays pm_q4 (by decide) tw_623 tw_625 tw_21 dX4_unlikeRows_1 rfl rfl (Nat.le_of_ble_eq_true rfl) hb9 hc9) (kcX4_startWays (d := d + 0) hfl a0 m) (fun m1 => ?_)
  refine pm_iconst (v := 0) dX4_unlikeRows_4 ki_0 ?_
  refine pm_istore_n (ls2 := [.ref a0, .int a1, .int 0, pmU]) dX4_unlikeRows_5 rfl rfl (Nat.le_of_ble_eq_true rfl) rfl ?_
  exact gX4_unlikeRows_L6 hfl a0 a1 pm_N (0, m1)
end GEN5
