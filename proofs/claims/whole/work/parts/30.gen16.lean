section GEN16
variable {l : Launch} {Γ : pmG} {d : Nat}
-- StruckPageModel.wordHere()I
abbrev zX9_wordHere : pmY := (⟨"StruckPageModel", "wordHere", "()I"⟩, cX9_wordHere, 3, some .int, [])
def X9_wordHere_j72 (t0 : Int32) (m : pmM) : pmR := pm_oI t0 m
def X9_wordHere_j54 (again8 : (Int32 × Int32 × pmM) → pmR) (l0 : Nat) (l2 : Int32) (t0 : Int32) (m : pmM) : pmR := pm_bI (l2 + 1) fun x7 => again8 (t0, x7, m)
def X9_wordHere_L8 (l0 : Nat) (again8 : (Int32 × Int32 × pmM) → pmR) (s8 : Int32 × Int32 × pmM) : pmR := pm_gI 9 l0 4 s8.2.2 fun x2 => pm_rc 9 l0 s8.2.2 <| pm_cI (X9_byteAt l0 (x2 + s8.2.1) s8.2.2) fun x4 m3 => pm_cI (X9_isSmall x4 m3) fun x6 m5 => if x6 = 0 then (if s8.2.1 ≤ 6 then (X9_wordHere_j72 s8.1 m5) else (X9_wordHere_j72 (-1) m5)) else (if (6 : Int32) ≤ s8.2.1 then (X9_wordHere_j54 again8 l0 s8.2.1 s8.1 m5) else (pm_gI 9 l0 4 m5 fun x8 => pm_rc 9 l0 m5 <| pm_cI (X9_byteAt l0 (x8 + s8.2.1) m5) fun x10 m9 => X9_wordHere_j54 again8 l0 s8.2.1 (((((27 : Int32) * s8.1) + x10) - 97) + 1) m9))
def X9_wordHere (a0 : Nat) (m : pmM) : pmR := pm_rc 9 a0 m <| pm_cV (X9_blanks a0 m) fun m1 => pm_lp pm_N (X9_wordHere_L8 a0) (0, 0, m1)
theorem zkX9_wordHere : pm_zOk zX9_wordHere 0 := ⟨rfl, tw_1590, tw_168, by decide +kernel, by decide⟩
set_option maxRecDepth 100000 in
set_option maxHeartbeats 4000000 in
theorem gX9_wordHere_j72 (hfl : l.flags = flags0) (t0 : Int32) (m : pmM) : pm_G l Γ zX9_wordHere (d + 2) 72 [pmU, pmU, pmU] [.int t0] m (X9_wordHere_j72 t0 m) := by
  unfold X9_wordHere_j72
  exact pm_iret rfl dX9_wordHere_72
set_option maxRecDepth 100000 in
set_option maxHeartbeats 4000000 in
theorem gX9_wordHere_j54 (hfl : l.flags = flags0) (again8 : (Int32 × Int32 × pmM) → pmR) (l0 : Nat) (l2 : Int32) (t0 : Int32) (m : pmM) (hag8 : ∀ s : Int32 × Int32 × pmM, pm_G l Γ zX9_wordHere (d + 2) 8 [.ref l0, .int s.1, .int s.2.1] [] s.2.2 (again8 s)) : pm_G l Γ zX9_wordHere (d + 2) 54 [.ref l0, pmU, .int l2] [.int t0] m (X9_wordHere_j54 again8 l0 l2 t0 m) := by
  unfold X9_wordHere_j54
  refine pm_istore_n (ls2 := [.ref l0, .int t0, .int l2]) dX9_wordHere_54 rfl rfl (Nat.le_of_ble_eq_true rfl) rfl ?_
  refine pm_iincn (y := zX9_wordHere) dX9_wordHere_55 rfl ki_1 rfl (Nat.le_of_ble_eq_true rfl) (fun x7 => ?_)
  refine pm_eqls (ls2 := [.ref l0, .int t0, .int x7]) rfl ?_
  refine pm_goto (tgt := 8) dX9_wordHere_58 rfl ?_
  exact hag8 (t0, x7, m)
set_option maxRecDepth 100000 in
set_option maxHeartbeats 4000000 in
theorem gX9_wordHere_L8 (hfl : l.flags = flags0) (l0 : Nat) : ∀ (n : Nat) (s : Int32 × Int32 × pmM), pm_G l Γ zX9_wordHere (d + 2) 8 [.ref l0, .int s.1, .int s.2.1] [] s.2.2 (pm_lp n (X9_wordHere_L8 l0) s) :=
  pm_loop (lsf := fun s : Int32 × Int32 × pmM => [.ref l0, .int s.1, .int s.2.1]) (mf := fun s : Int32 × Int32 × pmM => s.2.2) (fun again8 hag8 s8 => by
    unfold X9_wordHere_L8
    refine pm_aload_n dX9_wordHere_8 rfl rfl ?_
    refine pm_aload_n dX9_wordHere_9 rfl rfl ?_
    refine fg_9_4 (y := zX9_wordHere) (Or.inl tw_1381) dX9_wordHere_10 (fun x2 => ?_)
    refine pm_iload_n dX9_wordHere_13 rfl rfl ?_
    refine pm_iadd dX9_wordHere_14 ?_
    refine pm_rcv (fun hb9 hc9 => ?_)
    refine pm_kI rfl (pm_V (y := zX9_wordHere) (z := zX9_byteAt) (As := [.int (x2 + s8.2.1)]) zkX9_byteAt pm_q9 (by decide) tw_1571 tw_1573 tw_104 dX9_wordHere_15 rfl rfl (Nat.le_of_ble_eq_true rfl) hb9 hc9) (kcX9_byteAt hfl l0 (x2 + s8.2.1) s8.2.2) (fun x4 m3 => ?_)
    refine pm_kI rfl (pm_S (y := zX9_wordHere) (z := zX9_isSmall) (As := [.int x4]) zkX9_isSmall tw_1591 tw_1592 dX9_wordHere_18 rfl rfl (Nat.le_of_ble_eq_true rfl)) (kcX9_isSmall hfl x4 m3) (fun x6 m5 => ?_)
    refine pm_if_eq (tgt := 61) dX9_wordHere_21 rfl ?_ ?_
    · refine pm_iload_n dX9_wordHere_61 rfl rfl ?_
      refine pm_bipush (v := 6) dX9_wordHere_62 kb_6 ?_
      refine pm_icmp_le (tgt := 71) dX9_wordHere_64 rfl ?_ ?_
      · refine pm_iload_n dX9_wordHere_71 rfl rfl ?_
        refine pm_drop (ls2 := [pmU, pmU, pmU]) (Nat.le_refl _) (pm_le_spec (pm_le_u (pm_le_u (pm_le_u (pm_le_n))))) ?_
        exact gX9_wordHere_j72 hfl s8.1 m5
      · refine pm_iconst (v := (-1)) dX9_wordHere_67 ki_n1 ?_
        refine pm_goto (tgt := 72) dX9_wordHere_68 rfl ?_
        refine pm_drop (ls2 := [pmU, pmU, pmU]) (Nat.le_refl _) (pm_le_spec (pm_le_u (pm_le_u (pm_le_u (pm_le_n))))) ?_
        exact gX9_wordHere_j72 hfl (-1) m5
    · refine pm_iload_n dX9_wordHere_24 rfl rfl ?_
      refine pm_bipush (v := 6) dX9_wordHere_25 kb_6 ?_
      refine pm_icmp_ge (tgt := 53) dX9_wordHere_27 rfl ?_ ?_
      · refine pm_iload_n dX9_wordHere_53 rfl rfl ?_
        refine pm_drop (ls2 := [.ref l0, pmU, .int s8.2.1]) (Nat.le_refl _) (pm_le_spec (pm_le_v (pm_le_u (pm_le_v (pm_le_n))))) ?_
        exact gX9_wordHere_j54 hfl again8 l0 s8.2.1 s8.1 m5 hag8
      · refine pm_bipush (v := 27) dX9_wordHere_30 kb_27 ?_
        refine pm_iload_n dX9_wordHere_32 rfl rfl ?_
        refine pm_imul dX9_wordHere_33 ?_
        refine pm_aload_n dX9_wordHere_34 rfl rfl ?_
        refine pm_aload_n dX9_wordHere_35 rfl rfl ?_
        refine fg_9_4 (y := zX9_wordHere) (Or.inl tw_1381) dX9_wordHere_36 (fun x8 => ?_)
        refine pm_iload_n dX9_wordHere_39 rfl rfl ?_
        refine pm_iadd dX9_wordHere_40 ?_
        refine pm_rcv (fun hb9 hc9 => ?_)
        refine pm_kI rfl (pm_V (y := zX9_wordHere) (z := zX9_byteAt) (As := [.int (x8 + s8.2.1)]) zkX9_byteAt pm_q9 (by decide) tw_1571 tw_1573 tw_104 dX9_wordHere_41 rfl rfl (Nat.le_of_ble_eq_true rfl) hb9 hc9) (kcX9_byteAt hfl l0 (x8 + s8.2.1) m5) (fun x10 m9 => ?_)
        refine pm_iadd dX9_wordHere_44 ?_
        refine pm_bipush (v := 97) dX9_wordHere_45 kb_97 ?_
        refine pm_isub dX9_wordHere_47 ?_
        refine pm_iconst (v := 1) dX9_wordHere_48 ki_1 ?_
        refine pm_iadd dX9_wordHere_49 ?_
        refine pm_goto (tgt := 54) dX9_wordHere_50 rfl ?_
        refine pm_drop (ls2 := [.ref l0, pmU, .int s8.2.1]) (Nat.le_refl _) (pm_le_spec (pm_le_v (pm_le_u (pm_le_v (pm_le_n))))) ?_
        exact gX9_wordHere_j54 hfl again8 l0 s8.2.1 (((((27 : Int32) * s8.1) + x10) - 97) + 1) m9 hag8)
set_option maxRecDepth 100000 in
set_option maxHeartbeats 4000000 in
theorem kcX9_wordHere (hfl : l.flags = flags0) (a0 : Nat) (m : pmM) : pm_C l Γ zX9_wordHere (d + 2) [.ref a0] m (X9_wordHere a0 m) := by
  refine pm_enter (ls := [.ref a0, pmU, pmU]) hfl (by decide +kernel) rfl (Nat.le_of_ble_eq_true rfl) rfl (Nat.le_of_ble_eq_true rfl) ?_
  unfold X9_wordHere
  refine pm_aload_n dX9_wordHere_0 rfl rfl ?_
  refine pm_rcv (fun hb9 hc9 => ?_)
  refine pm_kV rfl (pm_V (y := zX9_wordHere) (z := zX9_blanks) (As := []) zkX9_blanks pm_q9 (by decide) tw_1567 tw_1569 tw_103 dX9_wordHere_1 rfl rfl (Nat.le_of_ble_eq_true rfl) hb9 hc9) (kcX9_blanks hfl a0 m) (fun m1 => ?_)
  refine pm_iconst (v := 0) dX9_wordHere_4 ki_0 ?_
  refine pm_istore_n (ls2 := [.ref a0, .int 0, pmU]) dX9_wordHere_5 rfl rfl (Nat.le_of_ble_eq_true rfl) rfl ?_
  refine pm_iconst (v := 0) dX9_wordHere_6 ki_0 ?_
  refine pm_istore_n (ls2 := [.ref a0, .int 0, .int 0]) dX9_wordHere_7 rfl rfl (Nat.le_of_ble_eq_true rfl) rfl ?_
  exact gX9_wordHere_L8 hfl a0 pm_N (0, 0, m1)
-- StruckPageModel.six(IIIIII)I
abbrev zX9_six : pmY := (⟨"StruckPageModel", "six", "(IIIIII)I"⟩, cX9_six, 7, some .int, [])
def X9_six_j69 (t0 : Int32) (m : pmM) : pmR := pm_oI t0 m
def X9_six_j49 (l5 : Int32) (t0 : Int32) (m : pmM) : pmR := if l5 = 0 then (X9_six_j69 t0 m) else (X9_six_j69 (((27 : Int32) * t0) + l5) m)
def X9_six_j29 (l4 : Int32) (l5 : Int32) (t0 : Int32) (m : pmM) : pmR := if l4 = 0 then (X9_six_j49 l5 t0 m) else (X9_six_j49 l5 (((27 : Int32) * t0) + l4) m)
def X9_six (a0 : Int32) (a1 : Int32) (a2 : Int32) (a3 : Int32) (a4 : Int32) (a5 : Int32) (m : pmM) : pmR := pm_bI (((27 : Int32) * (((27 : Int32) * a0) + a1)) + a2) fun x1 => if a3 = 0 then (X9_six_j29 a4 a5 x1 m) else (X9_six_j29 a4 a5 (((27 : Int32) * x1) + a3) m)
theorem zkX9_six : pm_zOk zX9_six 6 := ⟨rfl, tw_1596, tw_168, by decide +kernel, by decide⟩
set_option maxRecDepth 100000 in
set_option maxHeartbeats 4000000 in
theorem gX9_six_j69 (hfl : l.flags = flags0) (t0 : Int32) (m : pmM) : pm_G l Γ zX9_six (d + 0) 69 [pmU, pmU, pmU, pmU, pmU, pmU, pmU] [.int t0] m (X9_six_j69 t0 m) := by
  unfold X9_six_j69
  exact pm_iret rfl dX9_six_69
set_option maxRecDepth 100000 in
set_option maxHeartbeats 4000000 in
theorem gX9_six_j49 (hfl : l.flags = flags0) (l5 : Int32) (t0 : Int32) (m : pmM) : pm_G l Γ zX9_six (d + 0) 49 [pmU, pmU, pmU, pmU, pmU, .int l5, pmU] [.int t0] m (X9_six_j49 l5 t0 m) := by
  unfold X9_six_j49
  refine pm_istore (ls2 := [pmU, pmU, pmU, pmU, pmU, .int l5, .int t0]) dX9_six_49 rfl (Nat.le_of_ble_eq_true rfl) rfl ?_
  refine pm_iload dX9_six_51 rfl ?_
  refine pm_if_ne (tgt := 61) dX9_six_53 rfl ?_ ?_
  · refine pm_bipush (v := 27) dX9_six_61 kb_27 ?_
    refine pm_iload dX9_six_63 rfl ?_
    refine pm_imul dX9_six_65 ?_
    refine pm_iload dX9_six_66 rfl ?_
    refine pm_iadd dX9_six_68 ?_
    refine pm_drop (ls2 := [pmU, pmU, pmU, pmU, pmU, pmU, pmU]) (Nat.le_refl _) (pm_le_spec (pm_le_u (pm_le_u (pm_le_u (pm_le_u (pm_le_u (pm_le_u (pm_le_u (pm_le_n))))))))) ?_
    exact gX9_six_j69 hfl (((27 : Int32) * t0) + l5) m
  · refine pm_iload dX9_six_56 rfl ?_
    refine pm_goto (tgt := 69) dX9_six_58 rfl ?_
    refine pm_drop (ls2 := [pmU, pmU, pmU, pmU, pmU, pmU, pmU]) (Nat.le_refl _) (pm_le_spec (pm_le_u (pm_le_u (pm_le_u (pm_le_u (pm_le_u (pm_le_u (pm_le_u (pm_le_n))))))))) ?_
    exact gX9_six_j69 hfl t0 m
set_option maxRecDepth 100000 in
set_option maxHeartbeats 4000000 in
theorem gX9_six_j29 (hfl : l.flags = flags0) (l4 : Int32) (l5 : Int32) (t0 : Int32) (m : pmM) : pm_G l Γ zX9_six (d + 0) 29 [pmU, pmU, pmU, pmU, .int l4, .int l5, pmU] [.int t0] m (X9_six_j29 l4 l5 t0 m) := by
  unfold X9_six_j29
  refine pm_istore (ls2 := [pmU, pmU, pmU, pmU, .int l4, .int l5, .int t0]) dX9_six_29 rfl (Nat.le_of_ble_eq_true rfl) rfl ?_
  refine pm_iload dX9_six_31 rfl ?_
  refine pm_if_ne (tgt := 41) dX9_six_33 rfl ?_ ?_
  · refine pm_bipush (v := 27) dX9_six_41 kb_27 ?_
    refine pm_iload dX9_six_43 rfl ?_
    refine pm_imul dX9_six_45 ?_
    refine pm_iload dX9_six_46 rfl ?_
    refine pm_iadd dX9_six_48 ?_
    refine pm_drop (ls2 := [pmU, pmU, pmU, pmU, pmU, .int l5, pmU]) (Nat.le_refl _) (pm_le_spec (pm_le_u (pm_le_u (pm_le_u (pm_le_u (pm_le_u (pm_le_v (pm_le_u (pm_le_n))))))))) ?_
    exact gX9_six_j49 hfl l5 (((27 : Int32) * t0) + l4) m
  · refine pm_iload dX9_six_36 rfl ?_
    refine pm_goto (tgt := 49) dX9_six_38 rfl ?_
    refine pm_drop (ls2 := [pmU, pmU, pmU, pmU, pmU, .int l5, pmU]) (Nat.le_refl _) (pm_le_spec (pm_le_u (pm_le_u (pm_le_u (pm_le_u (pm_le_u (pm_le_v (pm_le_u (pm_le_n))))))))) ?_
    exact gX9_six_j49 hfl l5 t0 m
set_option maxRecDepth 100000 in
set_option maxHeartbeats 4000000 in
theorem kcX9_six (hfl : l.flags = flags0) (a0 : Int32) (a1 : Int32) (a2 : Int32) (a3 : Int32) (a4 : Int32) (a5 : Int32) (m : pmM) : pm_C l Γ zX9_six (d + 0) [.int a0, .int a1, .int a2, .int a3, .int a4, .int a5] m (X9_six a0 a1 a2 a3 a4 a5 m) := by
  refine pm_enter (ls := [.int a0, .int a1, .int a2, .int a3, .int a4, .int a5, pmU]) hfl (by decide +kernel) rfl (Nat.le_of_ble_eq_true rfl) rfl (Nat.le_of_ble_eq_true rfl) ?_
  unfold X9_six
  refine pm_bipush (v := 27) dX9_six_0 kb_27 ?_
  refine pm_bipush (v := 27) dX9_six_2 kb_27 ?_
  refine pm_iload_n dX9_six_4 rfl rfl ?_
  refine pm_imul dX9_six_5 ?_
  refine pm_iload_n dX9_six_6 rfl rfl ?_
  refine pm_iadd dX9_six_7 ?_
  refine pm_imul dX9_six_8 ?_
  refine pm_iload_n dX9_six_9 rfl rfl ?_
  refine pm_iadd dX9_six_10 ?_
  refine pm_bIn (fun x1 => ?_)
  refine pm_istore (ls2 := [.int a0, .int a1, .int a2, .int a3, .int a4, .int a5, .int x1]) dX9_six_11 rfl (Nat.le_of_ble_eq_true rfl) rfl ?_
  refine pm_iload_n dX9_six_13 rfl rfl ?_
  refine pm_if_ne (tgt := 22) dX9_six_14 rfl ?_ ?_
  · refine pm_bipush (v := 27) dX9_six_22 kb_27 ?_
    refine pm_iload dX9_six_24 rfl ?_
    refine pm_imul dX9_six_26 ?_
    refine pm_iload_n dX9_six_27 rfl rfl ?_
    refine pm_iadd dX9_six_28 ?_
    refine pm_drop (ls2 := [pmU, pmU, pmU, pmU, .int a4, .int a5, pmU]) (Nat.le_refl _) (pm_le_spec (pm_le_u (pm_le_u (pm_le_u (pm_le_u (pm_le_v (pm_le_v (pm_le_u (pm_le_n))))))))) ?_
    exact gX9_six_j29 hfl a4 a5 (((27 : Int32) * x1) + a3) m
  · refine pm_iload dX9_six_17 rfl ?_
    refine pm_goto (tgt := 29) dX9_six_19 rfl ?_
    refine pm_drop (ls2 := [pmU, pmU, pmU, pmU, .int a4, .int a5, pmU]) (Nat.le_refl _) (pm_le_spec (pm_le_u (pm_le_u (pm_le_u (pm_le_u (pm_le_v (pm_le_v (pm_le_u (pm_le_n))))))))) ?_
    exact gX9_six_j29 hfl a4 a5 x1 m
-- StruckPageModel.isWord(IIIIII)Z
abbrev zX9_isWord : pmY := (⟨"StruckPageModel", "isWord", "(IIIIII)Z"⟩, cX9_isWord, 7, some .boolean, [])
def X9_isWord_j31 (t0 : Int32) (m : pmM) : pmR := pm_oI (vp_nar .boolean t0) m
def X9_isWord_j30 (m : pmM) : pmR := X9_isWord_j31 0 m
def X9_isWord (a0 : Nat) (a1 : Int32) (a2 : Int32) (a3 : Int32) (a4 : Int32) (a5 : Int32) (a6 : Int32) (m : pmM) : pmR := pm_gI 9 a0 5 m fun x1 => if x1 = 0 then (pm_rc 9 a0 m <| pm_cI (X9_wordHere a0 m) fun x3 m2 => pm_cI (X9_six a1 a2 a3 a4 a5 a6 m2) fun x5 m4 => if x3 = x5 then (X9_isWord_j31 1 m4) else (X9_isWord_j30 m4)) else (X9_isWord_j30 m)
theorem zkX9_isWord : pm_zOk zX9_isWord 6 := ⟨rfl, tw_1586, tw_168, by decide +kernel, by decide⟩
set_option maxRecDepth 100000 in
set_option maxHeartbeats 4000000 in
theorem gX9_isWord_j31 (hfl : l.flags = flags0) (t0 : Int32) (m : pmM) : pm_G l Γ zX9_isWord (d + 3) 31 [pmU, pmU, pmU, pmU, pmU, pmU, pmU] [.int t0] m (X9_isWord_j31 t0 m) := by
  unfold X9_isWord_j31
  exact pm_nret (ty := .boolean) (w := vp_nar .boolean t0) rfl (by decide) rfl dX9_isWord_31
set_option maxRecDepth 100000 in
set_option maxHeartbeats 4000000 in
theorem gX9_isWord_j30 (hfl : l.flags = flags0) (m : pmM) : pm_G l Γ zX9_isWord (d + 3) 30 [pmU, pmU, pmU, pmU, pmU, pmU, pmU] [] m (X9_isWord_j30 m) := by
  unfold X9_isWord_j30
  refine pm_iconst (v := 0) dX9_isWord_30 ki_0 ?_
  exact gX9_isWord_j31 hfl 0 m
set_option maxRecDepth 100000 in
set_option maxHeartbeats 4000000 in
theorem kcX9_isWord (hfl : l.flags = flags0) (a0 : Nat) (a1 : Int32) (a2 : Int32) (a3 : Int32) (a4 : Int32) (a5 : Int32) (a6 : Int32) (m : pmM) : pm_C l Γ zX9_isWord (d + 3) [.ref a0, .int a1, .int a2, .int a3, .int a4, .int a5, .int a6] m (X9_isWord a0 a1 a2 a3 a4 a5 a6 m) := by
  refine pm_enter (ls := [.ref a0, .int a1, .int a2, .int a3, .int a4, .int a5, .int a6]) hfl (by decide +kernel) rfl (Nat.le_of_ble_eq_true rfl) rfl (Nat.le_of_ble_eq_true rfl) ?_
  unfold X9_isWord
  refine pm_aload_n dX9_isWord_0 rfl rfl ?_
  refine fg_9_5 (y := zX9_isWord) (Or.inl tw_1382) dX9_isWord_1 (fun x1 => ?_)
  refine pm_if_ne (tgt := 30) dX9_isWord_4 rfl ?_ ?_
  · refine pm_drop (ls2 := [pmU, pmU, pmU, pmU, pmU, pmU, pmU]) (Nat.le_refl _) (pm_le_spec (pm_le_u (pm_le_u (pm_le_u (pm_le_u (pm_le_u (pm_le_u (pm_le_u (pm_le_n))))))))) ?_
    exact gX9_isWord_j30 hfl m
  · refine pm_aload_n dX9_isWord_7 rfl rfl ?_
    refine pm_rcv (fun hb9 hc9 => ?_)
    refine pm_kI rfl (pm_V (y := zX9_isWord) (z := zX9_wordHere) (As := []) zkX9_wordHere pm_q9 (by decide) tw_1587 tw_1589 tw_108 dX9_isWord_8 rfl rfl (Nat.le_of_ble_eq_true rfl) hb9 hc9) (kcX9_wordHere hfl a0 m) (fun x3 m2 => ?_)
    refine pm_iload_n dX9_isWord_11 rfl rfl ?_
    refine pm_iload_n dX9_isWord_12 rfl rfl ?_
    refine pm_iload_n dX9_isWord_13 rfl rfl ?_
    refine pm_iload dX9_isWord_14 rfl ?_
    refine pm_iload dX9_isWord_16 rfl ?_
    refine pm_iload dX9_isWord_18 rfl ?_
    refine pm_kI rfl (pm_S (y := zX9_isWord) (z := zX9_six) (As := [.int a1, .int a2, .int a3, .int a4, .int a5, .int a6]) zkX9_six tw_1594 tw_1595 dX9_isWord_20 rfl rfl (Nat.le_of_ble_eq_true rfl)) (kcX9_six hfl a1 a2 a3 a4 a5 a6 m2) (fun x5 m4 => ?_)
    refine pm_icmp_ne (tgt := 30) dX9_isWord_23 rfl ?_ ?_
    · refine pm_drop (ls2 := [pmU, pmU, pmU, pmU, pmU, pmU, pmU]) (Nat.le_refl _) (pm_le_spec (pm_le_u (pm_le_u (pm_le_u (pm_le_u (pm_le_u (pm_le_u (pm_le_u (pm_le_n))))))))) ?_
      exact gX9_isWord_j30 hfl m4
    · refine pm_iconst (v := 1) dX9_isWord_26 ki_1 ?_
      refine pm_goto (tgt := 31) dX9_isWord_27 rfl ?_
      refine pm_drop (ls2 := [pmU, pmU, pmU, pmU, pmU, pmU, pmU]) (Nat.le_refl _) (pm_le_spec (pm_le_u (pm_le_u (pm_le_u (pm_le_u (pm_le_u (pm_le_u (pm_le_u (pm_le_n))))))))) ?_
      exact gX9_isWord_j31 hfl 1 m4
-- StruckPageModel.skipWord()V
abbrev zX9_skipWord : pmY := (⟨"StruckPageModel", "skipWord", "()V"⟩, cX9_skipWord, 1, none, [])
def X9_skipWord_L0 (l0 : Nat) (again0 : (pmM) → pmR) (s0 : pmM) : pmR := pm_gI 9 l0 4 s0 fun x1 => pm_rc 9 l0 s0 <| pm_cI (X9_byteAt l0 x1 s0) fun x3 m2 => pm_cI (X9_isSmall x3 m2) fun x5 m4 => if x5 = 0 then (pm_oV m4) else (pm_gI 9 l0 4 m4 fun x6 => pm_pI 9 l0 4 (x6 + 1) m4 fun m7 => again0 m7)
def X9_skipWord (a0 : Nat) (m : pmM) : pmR := pm_lp pm_N (X9_skipWord_L0 a0) m
theorem zkX9_skipWord : pm_zOk zX9_skipWord 0 := ⟨rfl, tw_1604, tw_168, by decide +kernel, by decide⟩
set_option maxRecDepth 100000 in
set_option maxHeartbeats 4000000 in
theorem gX9_skipWord_L0 (hfl : l.flags = flags0) (l0 : Nat) : ∀ (n : Nat) (s : pmM), pm_G l Γ zX9_skipWord (d + 1) 0 [.ref l0] [] s (pm_lp n (X9_skipWord_L0 l0) s) :=
  pm_loop (lsf := fun s : pmM => [.ref l0]) (mf := fun s : pmM => s) (fun again0 hag0 s0 => by
    unfold X9_skipWord_L0
    refine pm_aload_n dX9_skipWord_0 rfl rfl ?_
    refine pm_aload_n dX9_skipWord_1 rfl rfl ?_
    refine fg_9_4 (y := zX9_skipWord) (Or.inl tw_1381) dX9_skipWord_2 (fun x1 => ?_)
    refine pm_rcv (fun hb9 hc9 => ?_)
    refine pm_kI rfl (pm_V (y := zX9_skipWord) (z := zX9_byteAt) (As := [.int x1]) zkX9_byteAt pm_q9 (by decide) tw_1571 tw_1573 tw_104 dX9_skipWord_5 rfl rfl (Nat.le_of_ble_eq_true rfl) hb9 hc9) (kcX9_byteAt hfl l0 x1 s0) (fun x3 m2 => ?_)
    refine pm_kI rfl (pm_S (y := zX9_skipWord) (z := zX9_isSmall) (As := [.int x3]) zkX9_isSmall tw_1591 tw_1592 dX9_skipWord_8 rfl rfl (Nat.le_of_ble_eq_true rfl)) (kcX9_isSmall hfl x3 m2) (fun x5 m4 => ?_)
    refine pm_if_eq (tgt := 27) dX9_skipWord_11 rfl ?_ ?_
    · exact pm_vret rfl dX9_skipWord_27
    · refine pm_aload_n dX9_skipWord_14 rfl rfl ?_
      refine pm_dup dX9_skipWord_15 rfl ?_
      refine fg_9_4 (y := zX9_skipWord) (Or.inl tw_1381) dX9_skipWord_16 (fun x6 => ?_)
      refine pm_iconst (v := 1) dX9_skipWord_19 ki_1 ?_
      refine pm_iadd dX9_skipWord_20 ?_
      refine fp_9_4 (y := zX9_skipWord) (Or.inl tw_1381) dX9_skipWord_21 (fun m7 => ?_)
      refine pm_goto (tgt := 0) dX9_skipWord_24 rfl ?_
      exact hag0 m7)
set_option maxRecDepth 100000 in
set_option maxHeartbeats 4000000 in
theorem kcX9_skipWord (hfl : l.flags = flags0) (a0 : Nat) (m : pmM) : pm_C l Γ zX9_skipWord (d + 1) [.ref a0] m (X9_skipWord a0 m) := by
  refine pm_enter (ls := [.ref a0]) hfl (by decide +kernel) rfl (Nat.le_of_ble_eq_true rfl) rfl (Nat.le_of_ble_eq_true rfl) ?_
  unfold X9_skipWord
  exact gX9_skipWord_L0 hfl a0 pm_N m
-- StruckPageModel.takes(IIIIII)Z
abbrev zX9_takes : pmY := (⟨"StruckPageModel", "takes", "(IIIIII)Z"⟩, cX9_takes, 8, some .boolean, [])
def X9_takes_j24 (l7 : Int32) (m : pmM) : pmR := pm_oI (vp_nar .boolean l7) m
def X9_takes (a0 : Nat) (a1 : Int32) (a2 : Int32) (a3 : Int32) (a4 : Int32) (a5 : Int32) (a6 : Int32) (m : pmM) : pmR := pm_rc 9 a0 m <| pm_cI (X9_isWord a0 a1 a2 a3 a4 a5 a6 m) fun x2 m1 => if x2 = 0 then (X9_takes_j24 x2 m1) else (pm_rc 9 a0 m1 <| pm_cV (X9_skipWord a0 m1) fun m3 => X9_takes_j24 x2 m3)
theorem zkX9_takes : pm_zOk zX9_takes 6 := ⟨rfl, tw_1664, tw_168, by decide +kernel, by decide⟩
set_option maxRecDepth 100000 in
set_option maxHeartbeats 4000000 in
theorem gX9_takes_j24 (hfl : l.flags = flags0) (l7 : Int32) (m : pmM) : pm_G l Γ zX9_takes (d + 4) 24 [pmU, pmU, pmU, pmU, pmU, pmU, pmU, .int l7] [] m (X9_takes_j24 l7 m) := by
  unfold X9_takes_j24
  refine pm_iload dX9_takes_24 rfl ?_
  exact pm_nret (ty := .boolean) (w := vp_nar .boolean l7) rfl (by decide) rfl dX9_takes_26
set_option maxRecDepth 100000 in
set_option maxHeartbeats 4000000 in
theorem kcX9_takes (hfl : l.flags = flags0) (a0 : Nat) (a1 : Int32) (a2 : Int32) (a3 : Int32) (a4 : Int32) (a5 : Int32) (a6 : Int32) (m : pmM) : pm_C l Γ zX9_takes (d + 4) [.ref a0, .int a1, .int a2, .int a3, .int a4, .int a5, .int a6] m (X9_takes a0 a1 a2 a3 a4 a5 a6 m) := by
  refine pm_enter (ls := [.ref a0, .int a1, .int a2, .int a3, .int a4, .int a5, .int a6, pmU]) hfl (by decide +kernel) rfl (Nat.le_of_ble_eq_true rfl) rfl (Nat.le_of_ble_eq_true rfl) ?_
  unfold X9_takes
  refine pm_aload_n dX9_takes_0 rfl rfl ?_
  refine pm_iload_n dX9_takes_1 rfl rfl ?_
  refine pm_iload_n dX9_takes_2 rfl rfl ?_
  refine pm_iload_n dX9_takes_3 rfl rfl ?_
  refine pm_iload dX9_takes_4 rfl ?_
  refine pm_iload dX9_takes_6 rfl ?_
  refine pm_iload dX9_takes_8 rfl ?_
  refine pm_rcv (fun hb9 hc9 => ?_)
  refine pm_kI rfl (pm_V (y := zX9_takes) (z := zX9_isWord) (As := [.int a1, .int a2, .int a3, .int a4, .int a5, .int a6]) zkX9_isWord pm_q9 (by decide) tw_1583 tw_1585 tw_107 dX9_takes_10 rfl rfl (Nat.le_of_ble_eq_true rfl) hb9 hc9) (kcX9_isWord hfl a0 a1 a2 a3 a4 a5 a6 m) (fun x2 m1 => ?_)
  refine pm_istore (ls2 := [.ref a0, .int a1, .int a2, .int a3, .int a4, .int a5, .int a6, .int x2]) dX9_takes_13 rfl (Nat.le_of_ble_eq_true rfl) rfl ?_
  refine pm_iload dX9_takes_15 rfl ?_
  refine pm_if_eq (tgt := 24) dX9_takes_17 rfl ?_ ?_
  · refine pm_drop (ls2 := [pmU, pmU, pmU, pmU, pmU, pmU, pmU, .int x2]) (Nat.le_refl _) (pm_le_spec (pm_le_u (pm_le_u (pm_le_u (pm_le_u (pm_le_u (pm_le_u (pm_le_u (pm_le_v (pm_le_n)))))))))) ?_
    exact gX9_takes_j24 hfl x2 m1
  · refine pm_aload_n dX9_takes_20 rfl rfl ?_
    refine pm_rcv (fun hb9 hc9 => ?_)
    refine pm_kV rfl (pm_V (y := zX9_takes) (z := zX9_skipWord) (As := []) zkX9_skipWord pm_q9 (by decide) tw_1601 tw_1603 tw_110 dX9_takes_21 rfl rfl (Nat.le_of_ble_eq_true rfl) hb9 hc9) (kcX9_skipWord hfl a0 m1) (fun m3 => ?_)
    refine pm_drop (ls2 := [pmU, pmU, pmU, pmU, pmU, pmU, pmU, .int x2]) (Nat.le_refl _) (pm_le_spec (pm_le_u (pm_le_u (pm_le_u (pm_le_u (pm_le_u (pm_le_u (pm_le_u (pm_le_v (pm_le_n)))))))))) ?_
    exact gX9_takes_j24 hfl x2 m3
-- StruckPageModel.sign(I)V
abbrev zX9_sign : pmY := (⟨"StruckPageModel", "sign", "(I)V"⟩, cX9_sign, 2, none, [])
def X9_sign_j46 (m : pmM) : pmR := pm_oV m
def X9_sign (a0 : Nat) (a1 : Int32) (m : pmM) : pmR := pm_gI 9 a0 5 m fun x1 => if x1 = 0 then (pm_rc 9 a0 m <| pm_cV (X9_blanks a0 m) fun m2 => pm_gI 9 a0 4 m2 fun x3 => pm_rc 9 a0 m2 <| pm_cI (X9_byteAt a0 x3 m2) fun x5 m4 => if x5 = a1 then (pm_gI 9 a0 4 m4 fun x8 => pm_pI 9 a0 4 (x8 + 1) m4 fun m9 => X9_sign_j46 m9) else (pm_gI 9 a0 4 m4 fun x6 => pm_rc 9 a0 m4 <| pm_cV (X9_wrong a0 1 x6 m4) fun m7 => X9_sign_j46 m7)) else (pm_oV m)
theorem zkX9_sign : pm_zOk zX9_sign 1 := ⟨rfl, tw_1624, tw_168, by decide +kernel, by decide⟩
set_option maxRecDepth 100000 in
set_option maxHeartbeats 4000000 in
theorem gX9_sign_j46 (hfl : l.flags = flags0) (m : pmM) : pm_G l Γ zX9_sign (d + 2) 46 [pmU, pmU] [] m (X9_sign_j46 m) := by
  unfold X9_sign_j46
  exact pm_vret rfl dX9_sign_46
set_option maxRecDepth 100000 in
set_option maxHeartbeats 4000000 in
theorem kcX9_sign (hfl : l.flags = flags0) (a0 : Nat) (a1 : Int32) (m : pmM) : pm_C l Γ zX9_sign (d + 2) [.ref a0, .int a1] m (X9_sign a0 a1 m) := by
  refine pm_enter (ls := [.ref a0, .int a1]) hfl (by decide +kernel) rfl (Nat.le_of_ble_eq_true rfl) rfl (Nat.le_of_ble_eq_true rfl) ?_
  unfold X9_sign
  refine pm_aload_n dX9_sign_0 rfl rfl ?_
  refine fg_9_5 (y := zX9_sign) (Or.inl tw_1382) dX9_sign_1 (fun x1 => ?_)
  refine pm_if_eq (tgt := 8) dX9_sign_4 rfl ?_ ?_
  · refine pm_aload_n dX9_sign_8 rfl rfl ?_
    refine pm_rcv (fun hb9 hc9 => ?_)
    refine pm_kV rfl (pm_V (y := zX9_sign) (z := zX9_blanks) (As := []) zkX9_blanks pm_q9 (by decide) tw_1567 tw_1569 tw_103 dX9_sign_9 rfl rfl (Nat.le_of_ble_eq_true rfl) hb9 hc9) (kcX9_blanks hfl a0 m) (fun m2 => ?_)
    refine pm_aload_n dX9_sign_12 rfl rfl ?_
    refine pm_aload_n dX9_sign_13 rfl rfl ?_
    refine fg_9_4 (y := zX9_sign) (Or.inl tw_1381) dX9_sign_14 (fun x3 => ?_)
    refine pm_rcv (fun hb9 hc9 => ?_)
    refine pm_kI rfl (pm_V (y := zX9_sign) (z := zX9_byteAt) (As := [.int x3]) zkX9_byteAt pm_q9 (by decide) tw_1571 tw_1573 tw_104 dX9_sign_17 rfl rfl (Nat.le_of_ble_eq_true rfl) hb9 hc9) (kcX9_byteAt hfl a0 x3 m2) (fun x5 m4 => ?_)
    refine pm_iload_n dX9_sign_20 rfl rfl ?_
    refine pm_icmp_ne (tgt := 37) dX9_sign_21 rfl ?_ ?_
    · refine pm_aload_n dX9_sign_37 rfl rfl ?_
      refine pm_iconst (v := 1) dX9_sign_38 ki_1 ?_
      refine pm_aload_n dX9_sign_39 rfl rfl ?_
      refine fg_9_4 (y := zX9_sign) (Or.inl tw_1381) dX9_sign_40 (fun x6 => ?_)
      refine pm_rcv (fun hb9 hc9 => ?_)
      refine pm_kV rfl (pm_V (y := zX9_sign) (z := zX9_wrong) (As := [.int 1, .int x6]) zkX9_wrong pm_q9 (by decide) tw_1597 tw_1599 tw_109 dX9_sign_43 rfl rfl (Nat.le_of_ble_eq_true rfl) hb9 hc9) (kcX9_wrong hfl a0 1 x6 m4) (fun m7 => ?_)
      refine pm_drop (ls2 := [pmU, pmU]) (Nat.le_refl _) (pm_le_spec (pm_le_u (pm_le_u (pm_le_n)))) ?_
      exact gX9_sign_j46 hfl m7
    · refine pm_aload_n dX9_sign_24 rfl rfl ?_
      refine pm_dup dX9_sign_25 rfl ?_
      refine fg_9_4 (y := zX9_sign) (Or.inl tw_1381) dX9_sign_26 (fun x8 => ?_)
      refine pm_iconst (v := 1) dX9_sign_29 ki_1 ?_
      refine pm_iadd dX9_sign_30 ?_
      refine fp_9_4 (y := zX9_sign) (Or.inl tw_1381) dX9_sign_31 (fun m9 => ?_)
      refine pm_goto (tgt := 46) dX9_sign_34 rfl ?_
      refine pm_drop (ls2 := [pmU, pmU]) (Nat.le_refl _) (pm_le_spec (pm_le_u (pm_le_u (pm_le_n)))) ?_
      exact gX9_sign_j46 hfl m9
  · exact pm_vret rfl dX9_sign_7
-- StruckPageModel.takesSign(I)Z
abbrev zX9_takesSign : pmY := (⟨"StruckPageModel", "takesSign", "(I)Z"⟩, cX9_takesSign, 3, some .boolean, [])
def X9_takesSign_j45 (l2 : Int32) (m : pmM) : pmR := pm_oI (vp_nar .boolean l2) m
def X9_takesSign_j30 (l0 : Nat) (t0 : Int32) (m : pmM) : pmR := if t0 = 0 then (X9_takesSign_j45 t0 m) else (pm_gI 9 l0 4 m fun x6 => pm_pI 9 l0 4 (x6 + 1) m fun m7 => X9_takesSign_j45 t0 m7)
def X9_takesSign (a0 : Nat) (a1 : Int32) (m : pmM) : pmR := pm_gI 9 a0 5 m fun x1 => if x1 = 0 then (pm_rc 9 a0 m <| pm_cV (X9_blanks a0 m) fun m2 => pm_gI 9 a0 4 m2 fun x3 => pm_rc 9 a0 m2 <| pm_cI (X9_byteAt a0 x3 m2) fun x5 m4 => if x5 = a1 then (X9_takesSign_j30 a0 1 m4) else (X9_takesSign_j30 a0 0 m4)) else (pm_oI 0 m)
theorem zkX9_takesSign : pm_zOk zX9_takesSign 1 := ⟨rfl, tw_1668, tw_168, by decide +kernel, by decide⟩
set_option maxRecDepth 100000 in
set_option maxHeartbeats 4000000 in
theorem gX9_takesSign_j45 (hfl : l.flags = flags0) (l2 : Int32) (m : pmM) : pm_G l Γ zX9_takesSign (d + 2) 45 [pmU, pmU, .int l2] [] m (X9_takesSign_j45 l2 m) := by
  unfold X9_takesSign_j45
  refine pm_iload_n dX9_takesSign_45 rfl rfl ?_
  exact pm_nret (ty := .boolean) (w := vp_nar .boolean l2) rfl (by decide) rfl dX9_takesSign_46
set_option maxRecDepth 100000 in
set_option maxHeartbeats 4000000 in
theorem gX9_takesSign_j30 (hfl : l.flags = flags0) (l0 : Nat) (t0 : Int32) (m : pmM) : pm_G l Γ zX9_takesSign (d + 2) 30 [.ref l0, pmU, pmU] [.int t0] m (X9_takesSign_j30 l0 t0 m) := by
  unfold X9_takesSign_j30
  refine pm_istore_n (ls2 := [.ref l0, pmU, .int t0]) dX9_takesSign_30 rfl rfl (Nat.le_of_ble_eq_true rfl) rfl ?_
  refine pm_iload_n dX9_takesSign_31 rfl rfl ?_
  refine pm_if_eq (tgt := 45) dX9_takesSign_32 rfl ?_ ?_
  · refine pm_drop (ls2 := [pmU, pmU, .int t0]) (Nat.le_refl _) (pm_le_spec (pm_le_u (pm_le_u (pm_le_v (pm_le_n))))) ?_
    exact gX9_takesSign_j45 hfl t0 m
  · refine pm_aload_n dX9_takesSign_35 rfl rfl ?_
    refine pm_dup dX9_takesSign_36 rfl ?_
    refine fg_9_4 (y := zX9_takesSign) (Or.inl tw_1381) dX9_takesSign_37 (fun x6 => ?_)
    refine pm_iconst (v := 1) dX9_takesSign_40 ki_1 ?_
    refine pm_iadd dX9_takesSign_41 ?_
    refine fp_9_4 (y := zX9_takesSign) (Or.inl tw_1381) dX9_takesSign_42 (fun m7 => ?_)
    refine pm_drop (ls2 := [pmU, pmU, .int t0]) (Nat.le_refl _) (pm_le_spec (pm_le_u (pm_le_u (pm_le_v (pm_le_n))))) ?_
    exact gX9_takesSign_j45 hfl t0 m7
set_option maxRecDepth 100000 in
set_option maxHeartbeats 4000000 in
theorem kcX9_takesSign (hfl : l.flags = flags0) (a0 : Nat) (a1 : Int32) (m : pmM) : pm_C l Γ zX9_takesSign (d + 2) [.ref a0, .int a1] m (X9_takesSign a0 a1 m) := by
  refine pm_enter (ls := [.ref a0, .int a1, pmU]) hfl (by decide +kernel) rfl (Nat.le_of_ble_eq_true rfl) rfl (Nat.le_of_ble_eq_true rfl) ?_
  unfold X9_takesSign
  refine pm_aload_n dX9_takesSign_0 rfl rfl ?_
  refine fg_9_5 (y := zX9_takesSign) (Or.inl tw_1382) dX9_takesSign_1 (fun x1 => ?_)
  refine pm_if_eq (tgt := 9) dX9_takesSign_4 rfl ?_ ?_
  · refine pm_aload_n dX9_takesSign_9 rfl rfl ?_
    refine pm_rcv (fun hb9 hc9 => ?_)
    refine pm_kV rfl (pm_V (y := zX9_takesSign) (z := zX9_blanks) (As := []) zkX9_blanks pm_q9 (by decide) tw_1567 tw_1569 tw_103 dX9_takesSign_10 rfl rfl (Nat.le_of_ble_eq_true rfl) hb9 hc9) (kcX9_blanks hfl a0 m) (fun m2 => ?_)
    refine pm_aload_n dX9_takesSign_13 rfl rfl ?_
    refine pm_aload_n dX9_takesSign_14 rfl rfl ?_
    refine fg_9_4 (y := zX9_takesSign) (Or.inl tw_1381) dX9_takesSign_15 (fun x3 => ?_)
    refine pm_rcv (fun hb9 hc9 => ?_)
    refine pm_kI rfl (pm_V (y := zX9_takesSign) (z := zX9_byteAt) (As := [.int x3]) zkX9_byteAt pm_q9 (by decide) tw_1571 tw_1573 tw_104 dX9_takesSign_18 rfl rfl (Nat.le_of_ble_eq_true rfl) hb9 hc9) (kcX9_byteAt hfl a0 x3 m2) (fun x5 m4 => ?_)
    refine pm_iload_n dX9_takesSign_21 rfl rfl ?_
    refine pm_icmp_ne (tgt := 29) dX9_takesSign_22 rfl ?_ ?_
    · refine pm_iconst (v := 0) dX9_takesSign_29 ki_0 ?_
      refine pm_drop (ls2 := [.ref a0, pmU, pmU]) (Nat.le_refl _) (pm_le_spec (pm_le_v (pm_le_u (pm_le_u (pm_le_n))))) ?_
      exact gX9_takesSign_j30 hfl a0 0 m4
    · refine pm_iconst (v := 1) dX9_takesSign_25 ki_1 ?_
      refine pm_goto (tgt := 30) dX9_takesSign_26 rfl ?_
      refine pm_drop (ls2 := [.ref a0, pmU, pmU]) (Nat.le_refl _) (pm_le_spec (pm_le_v (pm_le_u (pm_le_u (pm_le_n))))) ?_
      exact gX9_takesSign_j30 hfl a0 1 m4
  · refine pm_iconst (v := 0) dX9_takesSign_7 ki_0 ?_
    exact pm_nret (ty := .boolean) (w := 0) rfl (by decide) (by decide) dX9_takesSign_8
-- StruckPageModel.starts(I)V
abbrev zX9_starts : pmY := (⟨"StruckPageModel", "starts", "(I)V"⟩, cX9_starts, 2, none, [])
def X9_starts (a0 : Nat) (a1 : Int32) (m : pmM) : pmR := pm_pI 9 a0 1 0 m fun m1 => pm_pI 9 a0 2 a1 m1 fun m2 => pm_pI 9 a0 4 0 m2 fun m3 => pm_pI 9 a0 5 0 m3 fun m4 => pm_pI 9 a0 6 (-1) m4 fun m5 => pm_pI 9 a0 7 0 m5 fun m6 => pm_pI 9 a0 8 0 m6 fun m7 => pm_rc 9 a0 m7 <| pm_cV (X9_blanks a0 m7) fun m8 => pm_oV m8
theorem zkX9_starts : pm_zOk zX9_starts 1 := ⟨rfl, tw_1566, tw_168, by decide +kernel, by decide⟩
set_option maxRecDepth 100000 in
set_option maxHeartbeats 4000000 in
theorem kcX9_starts (hfl : l.flags = flags0) (a0 : Nat) (a1 : Int32) (m : pmM) : pm_C l Γ zX9_starts (d + 2) [.ref a0, .int a1] m (X9_starts a0 a1 m) := by
  refine pm_enter (ls := [.ref a0, .int a1]) hfl (by decide +kernel) rfl (Nat.le_of_ble_eq_true rfl) rfl (Nat.le_of_ble_eq_true rfl) ?_
  unfold X9_starts
  refine pm_aload_n dX9_starts_0 rfl rfl ?_
  refine pm_iconst (v := 0) dX9_starts_1 ki_0 ?_
  refine fp_9_1 (y := zX9_starts) (Or.inl tw_1378) dX9_starts_2 (fun m1 => ?_)
  refine pm_aload_n dX9_starts_5 rfl rfl ?_
  refine pm_iload_n dX9_starts_6 rfl rfl ?_
  refine fp_9_2 (y := zX9_starts) (Or.inl tw_1379) dX9_starts_7 (fun m2 => ?_)
  refine pm_aload_n dX9_starts_10 rfl rfl ?_
  refine pm_iconst (v := 0) dX9_starts_11 ki_0 ?_
  refine fp_9_4 (y := zX9_starts) (Or.inl tw_1381) dX9_starts_12 (fun m3 => ?_)
  refine pm_aload_n dX9_starts_15 rfl rfl ?_
  refine pm_iconst (v := 0) dX9_starts_16 ki_0 ?_
  refine fp_9_5 (y := zX9_starts) (Or.inl tw_1382) dX9_starts_17 (fun m4 => ?_)
  refine pm_aload_n dX9_starts_20 rfl rfl ?_
  refine pm_iconst (v := (-1)) dX9_starts_21 ki_n1 ?_
  refine fp_9_6 (y := zX9_starts) (Or.inl tw_1383) dX9_starts_22 (fun m5 => ?_)
  refine pm_aload_n dX9_starts_25 rfl rfl ?_
  refine pm_iconst (v := 0) dX9_starts_26 ki_0 ?_
  refine fp_9_7 (y := zX9_starts) (Or.inl tw_1384) dX9_starts_27 (fun m6 => ?_)
  refine pm_aload_n dX9_starts_30 rfl rfl ?_
  refine pm_iconst (v := 0) dX9_starts_31 ki_0 ?_
  refine fp_9_8 (y := zX9_starts) (Or.inl tw_1385) dX9_starts_32 (fun m7 => ?_)
  refine pm_aload_n dX9_starts_35 rfl rfl ?_
  refine pm_rcv (fun hb9 hc9 => ?_)
  refine pm_kV rfl (pm_V (y := zX9_starts) (z := zX9_blanks) (As := []) zkX9_blanks pm_q9 (by decide) tw_1567 tw_1569 tw_103 dX9_starts_36 rfl rfl (Nat.le_of_ble_eq_true rfl) hb9 hc9) (kcX9_blanks hfl a0 m7) (fun m8 => ?_)
  exact pm_vret rfl dX9_starts_39
-- StruckPageModel.faulty()I
abbrev zX9_faulty : pmY := (⟨"StruckPageModel", "faulty", "()I"⟩, cX9_faulty, 1, some .int, [])
def X9_faulty (a0 : Nat) (m : pmM) : pmR := pm_gI 9 a0 6 m fun x1 => pm_pI 9 a0 3 x1 m fun m2 => pm_gI 9 a0 5 m2 fun x3 => pm_oI (x3 - 10) m2
theorem zkX9_faulty : pm_zOk zX9_faulty 0 := ⟨rfl, tw_1628, tw_168, by decide +kernel, by decide⟩
set_option maxRecDepth 100000 in
set_option maxHeartbeats 4000000 in
theorem kcX9_faulty (hfl : l.flags = flags0) (a0 : Nat) (m : pmM) : pm_C l Γ zX9_faulty (d + 0) [.ref a0] m (X9_faulty a0 m) := by
  refine pm_enter (ls := [.ref a0]) hfl (by decide +kernel) rfl (Nat.le_of_ble_eq_true rfl) rfl (Nat.le_of_ble_eq_true rfl) ?_
  unfold X9_faulty
  refine pm_aload_n dX9_faulty_0 rfl rfl ?_
  refine pm_aload_n dX9_faulty_1 rfl rfl ?_
  refine fg_9_6 (y := zX9_faulty) (Or.inl tw_1383) dX9_faulty_2 (fun x1 => ?_)
  refine fp_9_3 (y := zX9_faulty) (Or.inl tw_1380) dX9_faulty_5 (fun m2 => ?_)
  refine pm_aload_n dX9_faulty_8 rfl rfl ?_
  refine fg_9_5 (y := zX9_faulty) (Or.inl tw_1382) dX9_faulty_9 (fun x3 => ?_)
  refine pm_bipush (v := 10) dX9_faulty_12 kb_10 ?_
  refine pm_isub dX9_faulty_14 ?_
  exact pm_iret rfl dX9_faulty_15
-- StruckPageModel.kindHere()I
abbrev zX9_kindHere : pmY := (⟨"StruckPageModel", "kindHere", "()I"⟩, cX9_kindHere, 1, some .int, [])
def X9_kindHere_j56 (t0 : Int32) (m : pmM) : pmR := pm_oI t0 m
def X9_kindHere (a0 : Nat) (m : pmM) : pmR := pm_rc 9 a0 m <| pm_cI (X9_isWord a0 12 9 14 5 0 0 m) fun x2 m1 => if x2 = 0 then (pm_rc 9 a0 m1 <| pm_cI (X9_isWord a0 3 5 12 12 0 0 m1) fun x4 m3 => if x4 = 0 then (pm_rc 9 a0 m3 <| pm_cI (X9_isWord a0 9 14 11 0 0 0 m3) fun x6 m5 => if x6 = 0 then (X9_kindHere_j56 (-1) m5) else (X9_kindHere_j56 2 m5)) else (pm_oI 1 m3)) else (pm_oI 0 m1)
theorem zkX9_kindHere : pm_zOk zX9_kindHere 0 := ⟨rfl, tw_1582, tw_168, by decide +kernel, by decide⟩
set_option maxRecDepth 100000 in
set_option maxHeartbeats 4000000 in
theorem gX9_kindHere_j56 (hfl : l.flags = flags0) (t0 : Int32) (m : pmM) : pm_G l Γ zX9_kindHere (d + 4) 56 [pmU] [.int t0] m (X9_kindHere_j56 t0 m) := by
  unfold X9_kindHere_j56
  exact pm_iret rfl dX9_kindHere_56
set_option maxRecDepth 100000 in
set_option maxHeartbeats 4000000 in
theorem kcX9_kindHere (hfl : l.flags = flags0) (a0 : Nat) (m : pmM) : pm_C l Γ zX9_kindHere (d + 4) [.ref a0] m (X9_kindHere a0 m) := by
  refine pm_enter (ls := [.ref a0]) hfl (by decide +kernel) rfl (Nat.le_of_ble_eq_true rfl) rfl (Nat.le_of_ble_eq_true rfl) ?_
  unfold X9_kindHere
  refine pm_aload_n dX9_kindHere_0 rfl rfl ?_
  refine pm_bipush (v := 12) dX9_kindHere_1 kb_12 ?_
  refine pm_bipush (v := 9) dX9_kindHere_3 kb_9 ?_
  refine pm_bipush (v := 14) dX9_kindHere_5 kb_14 ?_
  refine pm_iconst (v := 5) dX9_kindHere_7 ki_5 ?_
  refine pm_iconst (v := 0) dX9_kindHere_8 ki_0 ?_
  refine pm_iconst (v := 0) dX9_kindHere_9 ki_0 ?_
  refine pm_rcv (fun hb9 hc9 => ?_)
  refine pm_kI rfl (pm_V (y := zX9_kindHere) (z := zX9_isWord) (As := [.int 12, .int 9, .int 14, .int 5, .int 0, .int 0]) zkX9_isWord pm_q9 (by decide) tw_1583 tw_1585 tw_107 dX9_kindHere_10 rfl rfl (Nat.le_of_ble_eq_true rfl) hb9 hc9) (kcX9_isWord hfl a0 12 9 14 5 0 0 m) (fun x2 m1 => ?_)
  refine pm_if_eq (tgt := 18) dX9_kindHere_13 rfl ?_ ?_
  · refine pm_aload_n dX9_kindHere_18 rfl rfl ?_
    refine pm_iconst (v := 3) dX9_kindHere_19 ki_3 ?_
    refine pm_iconst (v := 5) dX9_kindHere_20 ki_5 ?_
    refine pm_bipush (v := 12) dX9_kindHere_21 kb_12 ?_
    refine pm_bipush (v := 12) dX9_kindHere_23 kb_12 ?_
    refine pm_iconst (v := 0) dX9_kindHere_25 ki_0 ?_
    refine pm_iconst (v := 0) dX9_kindHere_26 ki_0 ?_
    refine pm_rcv (fun hb9 hc9 => ?_)
    refine pm_kI rfl (pm_V (y := zX9_kindHere) (z := zX9_isWord) (As := [.int 3, .int 5, .int 12, .int 12, .int 0, .int 0]) zkX9_isWord pm_q9 (by decide) tw_1583 tw_1585 tw_107 dX9_kindHere_27 rfl rfl (Nat.le_of_ble_eq_true rfl) hb9 hc9) (kcX9_isWord hfl a0 3 5 12 12 0 0 m1) (fun x4 m3 => ?_)
    refine pm_if_eq (tgt := 35) dX9_kindHere_30 rfl ?_ ?_
    · refine pm_aload_n dX9_kindHere_35 rfl rfl ?_
      refine pm_bipush (v := 9) dX9_kindHere_36 kb_9 ?_
      refine pm_bipush (v := 14) dX9_kindHere_38 kb_14 ?_
      refine pm_bipush (v := 11) dX9_kindHere_40 kb_11 ?_
      refine pm_iconst (v := 0) dX9_kindHere_42 ki_0 ?_
      refine pm_iconst (v := 0) dX9_kindHere_43 ki_0 ?_
      refine pm_iconst (v := 0) dX9_kindHere_44 ki_0 ?_
      refine pm_rcv (fun hb9 hc9 => ?_)
      refine pm_kI rfl (pm_V (y := zX9_kindHere) (z := zX9_isWord) (As := [.int 9, .int 14, .int 11, .int 0, .int 0, .int 0]) zkX9_isWord pm_q9 (by decide) tw_1583 tw_1585 tw_107 dX9_kindHere_45 rfl rfl (Nat.le_of_ble_eq_true rfl) hb9 hc9) (kcX9_isWord hfl a0 9 14 11 0 0 0 m3) (fun x6 m5 => ?_)
      refine pm_if_eq (tgt := 55) dX9_kindHere_48 rfl ?_ ?_
      · refine pm_iconst (v := (-1)) dX9_kindHere_55 ki_n1 ?_
        refine pm_drop (ls2 := [pmU]) (Nat.le_refl _) (pm_le_spec (pm_le_u (pm_le_n))) ?_
        exact gX9_kindHere_j56 hfl (-1) m5
      · refine pm_iconst (v := 2) dX9_kindHere_51 ki_2 ?_
        refine pm_goto (tgt := 56) dX9_kindHere_52 rfl ?_
        refine pm_drop (ls2 := [pmU]) (Nat.le_refl _) (pm_le_spec (pm_le_u (pm_le_n))) ?_
        exact gX9_kindHere_j56 hfl 2 m5
    · refine pm_iconst (v := 1) dX9_kindHere_33 ki_1 ?_
      exact pm_iret rfl dX9_kindHere_34
  · refine pm_iconst (v := 0) dX9_kindHere_16 ki_0 ?_
    exact pm_iret rfl dX9_kindHere_17
-- StruckPageModel.wordsOwn(II)I
abbrev zX9_wordsOwn : pmY := (⟨"StruckPageModel", "wordsOwn", "(II)I"⟩, cX9_wordsOwn, 5, some .int, [])
def X9_wordsOwn_j36 (l4 : Int32) (m : pmM) : pmR := pm_oI l4 m
def X9_wordsOwn (a0 : Nat) (a1 : Int32) (a2 : Int32) (m : pmM) : pmR := pm_rc 9 a0 m <| pm_cV (X9_blanks a0 m) fun m1 => pm_gI 9 a0 4 m1 fun x2 => pm_rc 9 a0 m1 <| pm_cI (X9_number a0 0 15 m1) fun x4 m3 => pm_gI 9 a0 5 m3 fun x5 => if x5 = 0 then (if a1 = a2 then (pm_rc 9 a0 m3 <| pm_cV (X9_wrong a0 3 x2 m3) fun m6 => X9_wordsOwn_j36 x4 m6) else (X9_wordsOwn_j36 x4 m3)) else (X9_wordsOwn_j36 x4 m3)
theorem zkX9_wordsOwn : pm_zOk zX9_wordsOwn 2 := ⟨rfl, tw_1612, tw_168, by decide +kernel, by decide⟩
set_option maxRecDepth 100000 in
set_option maxHeartbeats 4000000 in
theorem gX9_wordsOwn_j36 (hfl : l.flags = flags0) (l4 : Int32) (m : pmM) : pm_G l Γ zX9_wordsOwn (d + 3) 36 [pmU, pmU, pmU, pmU, .int l4] [] m (X9_wordsOwn_j36 l4 m) := by
  unfold X9_wordsOwn_j36
  refine pm_iload dX9_wordsOwn_36 rfl ?_
  exact pm_iret rfl dX9_wordsOwn_38
set_option maxRecDepth 100000 in
set_option maxHeartbeats 4000000 in
theorem kcX9_wordsOwn (hfl : l.flags = flags0) (a0 : Nat) (a1 : Int32) (a2 : Int32) (m : pmM) : pm_C l Γ zX9_wordsOwn (d + 3) [.ref a0, .int a1, .int a2] m (X9_wordsOwn a0 a1 a2 m) := by
  refine pm_enter (ls := [.ref a0, .int a1, .int a2, pmU, pmU]) hfl (by decide +kernel) rfl (Nat.le_of_ble_eq_true rfl) rfl (Nat.le_of_ble_eq_true rfl) ?_
  unfold X9_wordsOwn
  refine pm_aload_n dX9_wordsOwn_0 rfl rfl ?_
  refine pm_rcv (fun hb9 hc9 => ?_)
  refine pm_kV rfl (pm_V (y := zX9_wordsOwn) (z := zX9_blanks) (As := []) zkX9_blanks pm_q9 (by decide) tw_1567 tw_1569 tw_103 dX9_wordsOwn_1 rfl rfl (Nat.le_of_ble_eq_true rfl) hb9 hc9) (kcX9_blanks hfl a0 m) (fun m1 => ?_)
  refine pm_aload_n dX9_wordsOwn_4 rfl rfl ?_
  refine fg_9_4 (y := zX9_wordsOwn) (Or.inl tw_1381) dX9_wordsOwn_5 (fun x2 => ?_)
  refine pm_istore_n (ls2 := [.ref a0, .int a1, .int a2, .int x2, pmU]) dX9_wordsOwn_8 rfl rfl (Nat.le_of_ble_eq_true rfl) rfl ?_
  refine pm_aload_n dX9_wordsOwn_9 rfl rfl ?_
  refine pm_iconst (v := 0) dX9_wordsOwn_10 ki_0 ?_
  refine pm_bipush (v := 15) dX9_wordsOwn_11 kb_15 ?_
  refine pm_rcv (fun hb9 hc9 => ?_)
  refine pm_kI rfl (pm_V (y := zX9_wordsOwn) (z := zX9_number) (As := [.int 0, .int 15]) zkX9_number pm_q9 (by decide) tw_1613 tw_1615 tw_113 dX9_wordsOwn_13 rfl rfl (Nat.le_of_ble_eq_true rfl) hb9 hc9) (kcX9_number hfl a0 0 15 m1) (fun x4 m3 => ?_)
  refine pm_istore (ls2 := [.ref a0, .int a1, .int a2, .int x2, .int x4]) dX9_wordsOwn_16 rfl (Nat.le_of_ble_eq_true rfl) rfl ?_
  refine pm_aload_n dX9_wordsOwn_18 rfl rfl ?_
  refine fg_9_5 (y := zX9_wordsOwn) (Or.inl tw_1382) dX9_wordsOwn_19 (fun x5 => ?_)
  refine pm_if_ne (tgt := 36) dX9_wordsOwn_22 rfl ?_ ?_
  · refine pm_drop (ls2 := [pmU, pmU, pmU, pmU, .int x4]) (Nat.le_refl _) (pm_le_spec (pm_le_u (pm_le_u (pm_le_u (pm_le_u (pm_le_v (pm_le_n))))))) ?_
    exact gX9_wordsOwn_j36 hfl x4 m3
  · refine pm_iload_n dX9_wordsOwn_25 rfl rfl ?_
    refine pm_iload_n dX9_wordsOwn_26 rfl rfl ?_
    refine pm_icmp_ne (tgt := 36) dX9_wordsOwn_27 rfl ?_ ?_
    · refine pm_drop (ls2 := [pmU, pmU, pmU, pmU, .int x4]) (Nat.le_refl _) (pm_le_spec (pm_le_u (pm_le_u (pm_le_u (pm_le_u (pm_le_v (pm_le_n))))))) ?_
      exact gX9_wordsOwn_j36 hfl x4 m3
    · refine pm_aload_n dX9_wordsOwn_30 rfl rfl ?_
      refine pm_iconst (v := 3) dX9_wordsOwn_31 ki_3 ?_
      refine pm_iload_n dX9_wordsOwn_32 rfl rfl ?_
      refine pm_rcv (fun hb9 hc9 => ?_)
      refine pm_kV rfl (pm_V (y := zX9_wordsOwn) (z := zX9_wrong) (As := [.int 3, .int x2]) zkX9_wrong pm_q9 (by decide) tw_1597 tw_1599 tw_109 dX9_wordsOwn_33 rfl rfl (Nat.le_of_ble_eq_true rfl) hb9 hc9) (kcX9_wrong hfl a0 3 x2 m3) (fun m6 => ?_)
      refine pm_drop (ls2 := [pmU, pmU, pmU, pmU, .int x4]) (Nat.le_refl _) (pm_le_spec (pm_le_u (pm_le_u (pm_le_u (pm_le_u (pm_le_v (pm_le_n))))))) ?_
      exact gX9_wordsOwn_j36 hfl x4 m6
-- StruckPageModel.lineOfPage()V
abbrev zX9_lineOfPage : pmY := (⟨"StruckPageModel", "lineOfPage", "()V"⟩, cX9_lineOfPage, 3, none, [])
def X9_lineOfPage_L2 (l0 : Nat) (again2 : (Int32 × pmM) → pmR) (s2 : Int32 × pmM) : pmR := pm_rc 9 l0 s2.2 <| pm_cI (X9_wordsOwn l0 s2.1 8 s2.2) fun x2 m1 => pm_gI 9 l0 5 m1 fun x3 => if x3 = 0 then (pm_gR 9 l0 17 m1 fun r4 => pm_gI 9 l0 11 m1 fun x5 => pm_ldR 103 r4 x5 m1 fun r6 => pm_st 100 r6 s2.1 x2 m1 fun m7 => pm_bI (s2.1 + 1) fun x8 => pm_rc 9 l0 m7 <| pm_cV (X9_blanks l0 m7) fun m9 => pm_gI 9 l0 4 m9 fun x10 => pm_rc 9 l0 m9 <| pm_cI (X9_byteAt l0 x10 m9) fun x12 m11 => pm_cI (X9_in x12 48 57 m11) fun x14 m13 => if x14 = 0 then (pm_gR 9 l0 15 m13 fun r15 => pm_gI 9 l0 11 m13 fun x16 => pm_st 100 r15 x16 x8 m13 fun m17 => pm_oV m17) else (again2 (x8, m13))) else (pm_oV m1)
def X9_lineOfPage (a0 : Nat) (m : pmM) : pmR := pm_lp pm_N (X9_lineOfPage_L2 a0) (0, m)
theorem zkX9_lineOfPage : pm_zOk zX9_lineOfPage 0 := ⟨rfl, tw_1608, tw_168, by decide +kernel, by decide⟩
set_option maxRecDepth 100000 in
set_option maxHeartbeats 4000000 in
theorem gX9_lineOfPage_L2 (hfl : l.flags = flags0) (l0 : Nat) : ∀ (n : Nat) (s : Int32 × pmM), pm_G l Γ zX9_lineOfPage (d + 4) 2 [.ref l0, .int s.1, pmU] [] s.2 (pm_lp n (X9_lineOfPage_L2 l0) s) :=
  pm_loop (lsf := fun s : Int32 × pmM => [.ref l0, .int s.1, pmU]) (mf := fun s : Int32 × pmM => s.2) (fun again2 hag2 s2 => by
    unfold X9_lineOfPage_L2
    refine pm_aload_n dX9_lineOfPage_2 rfl rfl ?_
    refine pm_iload_n dX9_lineOfPage_3 rfl rfl ?_
    refine pm_bipush (v := 8) dX9_lineOfPage_4 kb_8 ?_
    refine pm_rcv (fun hb9 hc9 => ?_)
    refine pm_kI rfl (pm_V (y := zX9_lineOfPage) (z := zX9_wordsOwn) (As := [.int s2.1, .int 8]) zkX9_wordsOwn pm_q9 (by decide) tw_1609 tw_1611 tw_112 dX9_lineOfPage_6 rfl rfl (Nat.le_of_ble_eq_true rfl) hb9 hc9) (kcX9_wordsOwn hfl l0 s2.1 8 s2.2) (fun x2 m1 => ?_)
    refine pm_istore_n (ls2 := [.ref l0, .int s2.1, .int x2]) dX9_lineOfPage_9 rfl rfl (Nat.le_of_ble_eq_true rfl) rfl ?_
    refine pm_aload_n dX9_lineOfPage_10 rfl rfl ?_
    refine fg_9_5 (y := zX9_lineOfPage) (Or.inl tw_1382) dX9_lineOfPage_11 (fun x3 => ?_)
    refine pm_if_eq (tgt := 18) dX9_lineOfPage_14 rfl ?_ ?_
    · refine pm_aload_n dX9_lineOfPage_18 rfl rfl ?_
      refine fg_9_17 (y := zX9_lineOfPage) (Or.inl tw_1394) dX9_lineOfPage_19 (fun r4 => ?_)
      refine pm_aload_n dX9_lineOfPage_22 rfl rfl ?_
      refine fg_9_11 (y := zX9_lineOfPage) (Or.inl tw_1388) dX9_lineOfPage_23 (fun x5 => ?_)
      refine pm_aaldI (y := zX9_lineOfPage) dX9_lineOfPage_26 (fun r6 => ?_)
      refine pm_iload_n dX9_lineOfPage_27 rfl rfl ?_
      refine pm_iload_n dX9_lineOfPage_28 rfl rfl ?_
      refine pm_iast (y := zX9_lineOfPage) dX9_lineOfPage_29 (fun m7 => ?_)
      refine pm_iincn (y := zX9_lineOfPage) dX9_lineOfPage_30 rfl ki_1 rfl (Nat.le_of_ble_eq_true rfl) (fun x8 => ?_)
      refine pm_eqls (ls2 := [.ref l0, .int x8, .int x2]) rfl ?_
      refine pm_aload_n dX9_lineOfPage_33 rfl rfl ?_
      refine pm_rcv (fun hb9 hc9 => ?_)
      refine pm_kV rfl (pm_V (y := zX9_lineOfPage) (z := zX9_blanks) (As := []) zkX9_blanks pm_q9 (by decide) tw_1567 tw_1569 tw_103 dX9_lineOfPage_34 rfl rfl (Nat.le_of_ble_eq_true rfl) hb9 hc9) (kcX9_blanks hfl l0 m7) (fun m9 => ?_)
      refine pm_aload_n dX9_lineOfPage_37 rfl rfl ?_
      refine pm_aload_n dX9_lineOfPage_38 rfl rfl ?_
      refine fg_9_4 (y := zX9_lineOfPage) (Or.inl tw_1381) dX9_lineOfPage_39 (fun x10 => ?_)
      refine pm_rcv (fun hb9 hc9 => ?_)
      refine pm_kI rfl (pm_V (y := zX9_lineOfPage) (z := zX9_byteAt) (As := [.int x10]) zkX9_byteAt pm_q9 (by decide) tw_1571 tw_1573 tw_104 dX9_lineOfPage_42 rfl rfl (Nat.le_of_ble_eq_true rfl) hb9 hc9) (kcX9_byteAt hfl l0 x10 m9) (fun x12 m11 => ?_)
      refine pm_bipush (v := 48) dX9_lineOfPage_45 kb_48 ?_
      refine pm_bipush (v := 57) dX9_lineOfPage_47 kb_57 ?_
      refine pm_kI rfl (pm_S (y := zX9_lineOfPage) (z := zX9_in) (As := [.int x12, .int 48, .int 57]) zkX9_in tw_1556 tw_1557 dX9_lineOfPage_49 rfl rfl (Nat.le_of_ble_eq_true rfl)) (kcX9_in hfl x12 48 57 m11) (fun x14 m13 => ?_)
      refine pm_if_ne (tgt := 2) dX9_lineOfPage_52 rfl ?_ ?_
      · refine pm_drop (ls2 := [.ref l0, .int x8, pmU]) (Nat.le_refl _) (pm_le_spec (pm_le_v (pm_le_v (pm_le_u (pm_le_n))))) ?_
        exact hag2 (x8, m13)
      · refine pm_aload_n dX9_lineOfPage_55 rfl rfl ?_
        refine fg_9_15 (y := zX9_lineOfPage) (Or.inl tw_1392) dX9_lineOfPage_56 (fun r15 => ?_)
        refine pm_aload_n dX9_lineOfPage_59 rfl rfl ?_
        refine fg_9_11 (y := zX9_lineOfPage) (Or.inl tw_1388) dX9_lineOfPage_60 (fun x16 => ?_)
        refine pm_iload_n dX9_lineOfPage_63 rfl rfl ?_
        refine pm_iast (y := zX9_lineOfPage) dX9_lineOfPage_64 (fun m17 => ?_)
        exact pm_vret rfl dX9_lineOfPage_65
    · exact pm_vret rfl dX9_lineOfPage_17)
set_option maxRecDepth 100000 in
set_option maxHeartbeats 4000000 in
theorem kcX9_lineOfPage (hfl : l.flags = flags0) (a0 : Nat) (m : pmM) : pm_C l Γ zX9_lineOfPage (d + 4) [.ref a0] m (X9_lineOfPage a0 m) := by
  refine pm_enter (ls := [.ref a0, pmU, pmU]) hfl (by decide +kernel) rfl (Nat.le_of_ble_eq_true rfl) rfl (Nat.le_of_ble_eq_true rfl) ?_
  unfold X9_lineOfPage
  refine pm_iconst (v := 0) dX9_lineOfPage_0 ki_0 ?_
  refine pm_istore_n (ls2 := [.ref a0, .int 0, pmU]) dX9_lineOfPage_1 rfl rfl (Nat.le_of_ble_eq_true rfl) rfl ?_
  exact gX9_lineOfPage_L2 hfl a0 pm_N (0, m)
end GEN16
