section GEN18
variable {l : Launch} {Γ : pmG} {d : Nat}
-- StruckPageModel.product()V
abbrev zX9_product : pmY := (⟨"StruckPageModel", "product", "()V"⟩, cX9_product, 2, none, [])
def X9_product_j52 (rs : Nat → pmM → pmR) (again4 : (pmM) → pmR) (l0 : Nat) (t0 : Int32) (m : pmM) : pmR := if t0 = (-1) then (pm_oV m) else (pm_rc 9 l0 m <| pm_cV (X9_one rs l0 m) fun m9 => pm_rc 9 l0 m9 <| pm_cV (X9_notes l0 t0 0 m9) fun m10 => again4 m10)
def X9_product_L4 (rs : Nat → pmM → pmR) (l0 : Nat) (again4 : (pmM) → pmR) (s4 : pmM) : pmR := pm_gI 9 l0 5 s4 fun x2 => if x2 = 0 then (pm_rc 9 l0 s4 <| pm_cI (X9_takesSign l0 42 s4) fun x4 m3 => if x4 = 0 then (pm_rc 9 l0 m3 <| pm_cI (X9_takesSign l0 47 m3) fun x6 m5 => if x6 = 0 then (pm_rc 9 l0 m5 <| pm_cI (X9_takesSign l0 37 m5) fun x8 m7 => if x8 = 0 then (X9_product_j52 rs again4 l0 (-1) m7) else (X9_product_j52 rs again4 l0 6 m7)) else (X9_product_j52 rs again4 l0 5 m5)) else (X9_product_j52 rs again4 l0 4 m3)) else (pm_oV s4)
def X9_product (rs : Nat → pmM → pmR) (a0 : Nat) (m : pmM) : pmR := pm_rc 9 a0 m <| pm_cV (X9_one rs a0 m) fun m1 => pm_lp pm_N (X9_product_L4 rs a0) m1
theorem zkX9_product : pm_zOk zX9_product 0 := ⟨rfl, tw_1644, tw_168, by decide +kernel, by decide⟩
set_option maxRecDepth 100000 in
set_option maxHeartbeats 4000000 in
theorem gX9_product_j52 (hfl : l.flags = flags0) (rs : Nat → pmM → pmR) (again4 : (pmM) → pmR) (l0 : Nat) (t0 : Int32) (m : pmM) (hrs : ∀ (b0 : Nat) (m : pmM), pm_C l Γ zX9_sum (d + 5) [.ref b0] m (rs b0 m)) (hag4 : ∀ s : pmM, pm_G l Γ zX9_product (d + 7) 4 [.ref l0, pmU] [] s (again4 s)) : pm_G l Γ zX9_product (d + 7) 52 [.ref l0, pmU] [.int t0] m (X9_product_j52 rs again4 l0 t0 m) := by
  unfold X9_product_j52
  refine pm_istore_n (ls2 := [.ref l0, .int t0]) dX9_product_52 rfl rfl (Nat.le_of_ble_eq_true rfl) rfl ?_
  refine pm_iload_n dX9_product_53 rfl rfl ?_
  refine pm_iconst (v := (-1)) dX9_product_54 ki_n1 ?_
  refine pm_icmp_ne (tgt := 59) dX9_product_55 rfl ?_ ?_
  · refine pm_aload_n dX9_product_59 rfl rfl ?_
    refine pm_rcv (fun hb9 hc9 => ?_)
    refine pm_kV rfl (pm_V (y := zX9_product) (z := zX9_one) (As := []) zkX9_one pm_q9 (by decide) tw_1645 tw_1647 tw_119 dX9_product_60 rfl rfl (Nat.le_of_ble_eq_true rfl) hb9 hc9) (kcX9_one hfl rs l0 m hrs) (fun m9 => ?_)
    refine pm_aload_n dX9_product_63 rfl rfl ?_
    refine pm_iload_n dX9_product_64 rfl rfl ?_
    refine pm_iconst (v := 0) dX9_product_65 ki_0 ?_
    refine pm_rcv (fun hb9 hc9 => ?_)
    refine pm_kV rfl (pm_V (y := zX9_product) (z := zX9_notes) (As := [.int t0, .int 0]) zkX9_notes pm_q9 (by decide) tw_1653 tw_1655 tw_121 dX9_product_66 rfl rfl (Nat.le_of_ble_eq_true rfl) hb9 hc9) (kcX9_notes hfl l0 t0 0 m9) (fun m10 => ?_)
    refine pm_goto (tgt := 4) dX9_product_69 rfl ?_
    refine pm_drop (ls2 := [.ref l0, pmU]) (Nat.le_refl _) (pm_le_spec (pm_le_v (pm_le_u (pm_le_n)))) ?_
    exact hag4 m10
  · exact pm_vret rfl dX9_product_58
set_option maxRecDepth 100000 in
set_option maxHeartbeats 4000000 in
theorem gX9_product_L4 (hfl : l.flags = flags0) (rs : Nat → pmM → pmR) (l0 : Nat) (hrs : ∀ (b0 : Nat) (m : pmM), pm_C l Γ zX9_sum (d + 5) [.ref b0] m (rs b0 m)) : ∀ (n : Nat) (s : pmM), pm_G l Γ zX9_product (d + 7) 4 [.ref l0, pmU] [] s (pm_lp n (X9_product_L4 rs l0) s) :=
  pm_loop (lsf := fun s : pmM => [.ref l0, pmU]) (mf := fun s : pmM => s) (fun again4 hag4 s4 => by
    unfold X9_product_L4
    refine pm_aload_n dX9_product_4 rfl rfl ?_
    refine fg_9_5 (y := zX9_product) (Or.inl tw_1382) dX9_product_5 (fun x2 => ?_)
    refine pm_if_ne (tgt := 72) dX9_product_8 rfl ?_ ?_
    · exact pm_vret rfl dX9_product_72
    · refine pm_aload_n dX9_product_11 rfl rfl ?_
      refine pm_bipush (v := 42) dX9_product_12 kb_42 ?_
      refine pm_rcv (fun hb9 hc9 => ?_)
      refine pm_kI rfl (pm_V (y := zX9_product) (z := zX9_takesSign) (As := [.int 42]) zkX9_takesSign pm_q9 (by decide) tw_1665 tw_1667 tw_124 dX9_product_14 rfl rfl (Nat.le_of_ble_eq_true rfl) hb9 hc9) (kcX9_takesSign hfl l0 42 s4) (fun x4 m3 => ?_)
      refine pm_if_eq (tgt := 24) dX9_product_17 rfl ?_ ?_
      · refine pm_aload_n dX9_product_24 rfl rfl ?_
        refine pm_bipush (v := 47) dX9_product_25 kb_47 ?_
        refine pm_rcv (fun hb9 hc9 => ?_)
        refine pm_kI rfl (pm_V (y := zX9_product) (z := zX9_takesSign) (As := [.int 47]) zkX9_takesSign pm_q9 (by decide) tw_1665 tw_1667 tw_124 dX9_product_27 rfl rfl (Nat.le_of_ble_eq_true rfl) hb9 hc9) (kcX9_takesSign hfl l0 47 m3) (fun x6 m5 => ?_)
        refine pm_if_eq (tgt := 37) dX9_product_30 rfl ?_ ?_
        · refine pm_aload_n dX9_product_37 rfl rfl ?_
          refine pm_bipush (v := 37) dX9_product_38 kb_37 ?_
          refine pm_rcv (fun hb9 hc9 => ?_)
          refine pm_kI rfl (pm_V (y := zX9_product) (z := zX9_takesSign) (As := [.int 37]) zkX9_takesSign pm_q9 (by decide) tw_1665 tw_1667 tw_124 dX9_product_40 rfl rfl (Nat.le_of_ble_eq_true rfl) hb9 hc9) (kcX9_takesSign hfl l0 37 m5) (fun x8 m7 => ?_)
          refine pm_if_eq (tgt := 51) dX9_product_43 rfl ?_ ?_
          · refine pm_iconst (v := (-1)) dX9_product_51 ki_n1 ?_
            exact gX9_product_j52 hfl rs again4 l0 (-1) m7 hrs hag4
          · refine pm_bipush (v := 6) dX9_product_46 kb_6 ?_
            refine pm_goto (tgt := 52) dX9_product_48 rfl ?_
            exact gX9_product_j52 hfl rs again4 l0 6 m7 hrs hag4
        · refine pm_iconst (v := 5) dX9_product_33 ki_5 ?_
          refine pm_goto (tgt := 52) dX9_product_34 rfl ?_
          exact gX9_product_j52 hfl rs again4 l0 5 m5 hrs hag4
      · refine pm_iconst (v := 4) dX9_product_20 ki_4 ?_
        refine pm_goto (tgt := 52) dX9_product_21 rfl ?_
        exact gX9_product_j52 hfl rs again4 l0 4 m3 hrs hag4)
set_option maxRecDepth 100000 in
set_option maxHeartbeats 4000000 in
theorem kcX9_product (hfl : l.flags = flags0) (rs : Nat → pmM → pmR) (a0 : Nat) (m : pmM) (hrs : ∀ (b0 : Nat) (m : pmM), pm_C l Γ zX9_sum (d + 5) [.ref b0] m (rs b0 m)) : pm_C l Γ zX9_product (d + 7) [.ref a0] m (X9_product rs a0 m) := by
  refine pm_enter (ls := [.ref a0, pmU]) hfl (by decide +kernel) rfl (Nat.le_of_ble_eq_true rfl) rfl (Nat.le_of_ble_eq_true rfl) ?_
  unfold X9_product
  refine pm_aload_n dX9_product_0 rfl rfl ?_
  refine pm_rcv (fun hb9 hc9 => ?_)
  refine pm_kV rfl (pm_V (y := zX9_product) (z := zX9_one) (As := []) zkX9_one pm_q9 (by decide) tw_1645 tw_1647 tw_119 dX9_product_1 rfl rfl (Nat.le_of_ble_eq_true rfl) hb9 hc9) (kcX9_one hfl rs a0 m hrs) (fun m1 => ?_)
  exact gX9_product_L4 hfl rs a0 hrs pm_N m1
-- StruckPageModel.sum()V
abbrev zX9_sum : pmY := (⟨"StruckPageModel", "sum", "()V"⟩, cX9_sum, 2, none, [])
def X9_sum_j38 (rs : Nat → pmM → pmR) (again4 : (pmM) → pmR) (l0 : Nat) (t0 : Int32) (m : pmM) : pmR := if t0 = (-1) then (pm_oV m) else (pm_rc 9 l0 m <| pm_cV (X9_product rs l0 m) fun m7 => pm_rc 9 l0 m7 <| pm_cV (X9_notes l0 t0 0 m7) fun m8 => again4 m8)
def X9_sum_L4 (rs : Nat → pmM → pmR) (l0 : Nat) (again4 : (pmM) → pmR) (s4 : pmM) : pmR := pm_gI 9 l0 5 s4 fun x2 => if x2 = 0 then (pm_rc 9 l0 s4 <| pm_cI (X9_takesSign l0 43 s4) fun x4 m3 => if x4 = 0 then (pm_rc 9 l0 m3 <| pm_cI (X9_takesSign l0 45 m3) fun x6 m5 => if x6 = 0 then (X9_sum_j38 rs again4 l0 (-1) m5) else (X9_sum_j38 rs again4 l0 3 m5)) else (X9_sum_j38 rs again4 l0 2 m3)) else (pm_oV s4)
def X9_sum (rs : Nat → pmM → pmR) (a0 : Nat) (m : pmM) : pmR := pm_rc 9 a0 m <| pm_cV (X9_product rs a0 m) fun m1 => pm_lp pm_N (X9_sum_L4 rs a0) m1
def X9_sum_N : Nat → Nat → pmM → pmR
  | 0 => fun _ _ => none
  | n + 1 => X9_sum (X9_sum_N n)
theorem zkX9_sum : pm_zOk zX9_sum 0 := ⟨rfl, tw_1640, tw_168, by decide +kernel, by decide⟩
set_option maxRecDepth 100000 in
set_option maxHeartbeats 4000000 in
theorem gX9_sum_j38 (hfl : l.flags = flags0) (rs : Nat → pmM → pmR) (again4 : (pmM) → pmR) (l0 : Nat) (t0 : Int32) (m : pmM) (hrs : ∀ (b0 : Nat) (m : pmM), pm_C l Γ zX9_sum (d + 5) [.ref b0] m (rs b0 m)) (hag4 : ∀ s : pmM, pm_G l Γ zX9_sum (d + 8) 4 [.ref l0, pmU] [] s (again4 s)) : pm_G l Γ zX9_sum (d + 8) 38 [.ref l0, pmU] [.int t0] m (X9_sum_j38 rs again4 l0 t0 m) := by
  unfold X9_sum_j38
  refine pm_istore_n (ls2 := [.ref l0, .int t0]) dX9_sum_38 rfl rfl (Nat.le_of_ble_eq_true rfl) rfl ?_
  refine pm_iload_n dX9_sum_39 rfl rfl ?_
  refine pm_iconst (v := (-1)) dX9_sum_40 ki_n1 ?_
  refine pm_icmp_ne (tgt := 45) dX9_sum_41 rfl ?_ ?_
  · refine pm_aload_n dX9_sum_45 rfl rfl ?_
    refine pm_rcv (fun hb9 hc9 => ?_)
    refine pm_kV rfl (pm_V (y := zX9_sum) (z := zX9_product) (As := []) zkX9_product pm_q9 (by decide) tw_1641 tw_1643 tw_118 dX9_sum_46 rfl rfl (Nat.le_of_ble_eq_true rfl) hb9 hc9) (kcX9_product hfl rs l0 m hrs) (fun m7 => ?_)
    refine pm_aload_n dX9_sum_49 rfl rfl ?_
    refine pm_iload_n dX9_sum_50 rfl rfl ?_
    refine pm_iconst (v := 0) dX9_sum_51 ki_0 ?_
    refine pm_rcv (fun hb9 hc9 => ?_)
    refine pm_kV rfl (pm_V (y := zX9_sum) (z := zX9_notes) (As := [.int t0, .int 0]) zkX9_notes pm_q9 (by decide) tw_1653 tw_1655 tw_121 dX9_sum_52 rfl rfl (Nat.le_of_ble_eq_true rfl) hb9 hc9) (kcX9_notes hfl l0 t0 0 m7) (fun m8 => ?_)
    refine pm_goto (tgt := 4) dX9_sum_55 rfl ?_
    refine pm_drop (ls2 := [.ref l0, pmU]) (Nat.le_refl _) (pm_le_spec (pm_le_v (pm_le_u (pm_le_n)))) ?_
    exact hag4 m8
  · exact pm_vret rfl dX9_sum_44
set_option maxRecDepth 100000 in
set_option maxHeartbeats 4000000 in
theorem gX9_sum_L4 (hfl : l.flags = flags0) (rs : Nat → pmM → pmR) (l0 : Nat) (hrs : ∀ (b0 : Nat) (m : pmM), pm_C l Γ zX9_sum (d + 5) [.ref b0] m (rs b0 m)) : ∀ (n : Nat) (s : pmM), pm_G l Γ zX9_sum (d + 8) 4 [.ref l0, pmU] [] s (pm_lp n (X9_sum_L4 rs l0) s) :=
  pm_loop (lsf := fun s : pmM => [.ref l0, pmU]) (mf := fun s : pmM => s) (fun again4 hag4 s4 => by
    unfold X9_sum_L4
    refine pm_aload_n dX9_sum_4 rfl rfl ?_
    refine fg_9_5 (y := zX9_sum) (Or.inl tw_1382) dX9_sum_5 (fun x2 => ?_)
    refine pm_if_ne (tgt := 58) dX9_sum_8 rfl ?_ ?_
    · exact pm_vret rfl dX9_sum_58
    · refine pm_aload_n dX9_sum_11 rfl rfl ?_
      refine pm_bipush (v := 43) dX9_sum_12 kb_43 ?_
      refine pm_rcv (fun hb9 hc9 => ?_)
      refine pm_kI rfl (pm_V (y := zX9_sum) (z := zX9_takesSign) (As := [.int 43]) zkX9_takesSign pm_q9 (by decide) tw_1665 tw_1667 tw_124 dX9_sum_14 rfl rfl (Nat.le_of_ble_eq_true rfl) hb9 hc9) (kcX9_takesSign hfl l0 43 s4) (fun x4 m3 => ?_)
      refine pm_if_eq (tgt := 24) dX9_sum_17 rfl ?_ ?_
      · refine pm_aload_n dX9_sum_24 rfl rfl ?_
        refine pm_bipush (v := 45) dX9_sum_25 kb_45 ?_
        refine pm_rcv (fun hb9 hc9 => ?_)
        refine pm_kI rfl (pm_V (y := zX9_sum) (z := zX9_takesSign) (As := [.int 45]) zkX9_takesSign pm_q9 (by decide) tw_1665 tw_1667 tw_124 dX9_sum_27 rfl rfl (Nat.le_of_ble_eq_true rfl) hb9 hc9) (kcX9_takesSign hfl l0 45 m3) (fun x6 m5 => ?_)
        refine pm_if_eq (tgt := 37) dX9_sum_30 rfl ?_ ?_
        · refine pm_iconst (v := (-1)) dX9_sum_37 ki_n1 ?_
          exact gX9_sum_j38 hfl rs again4 l0 (-1) m5 hrs hag4
        · refine pm_iconst (v := 3) dX9_sum_33 ki_3 ?_
          refine pm_goto (tgt := 38) dX9_sum_34 rfl ?_
          exact gX9_sum_j38 hfl rs again4 l0 3 m5 hrs hag4
      · refine pm_iconst (v := 2) dX9_sum_20 ki_2 ?_
        refine pm_goto (tgt := 38) dX9_sum_21 rfl ?_
        exact gX9_sum_j38 hfl rs again4 l0 2 m3 hrs hag4)
set_option maxRecDepth 100000 in
set_option maxHeartbeats 4000000 in
theorem kcX9_sum (hfl : l.flags = flags0) (rs : Nat → pmM → pmR) (a0 : Nat) (m : pmM) (hrs : ∀ (b0 : Nat) (m : pmM), pm_C l Γ zX9_sum (d + 5) [.ref b0] m (rs b0 m)) : pm_C l Γ zX9_sum (d + 8) [.ref a0] m (X9_sum rs a0 m) := by
  refine pm_enter (ls := [.ref a0, pmU]) hfl (by decide +kernel) rfl (Nat.le_of_ble_eq_true rfl) rfl (Nat.le_of_ble_eq_true rfl) ?_
  unfold X9_sum
  refine pm_aload_n dX9_sum_0 rfl rfl ?_
  refine pm_rcv (fun hb9 hc9 => ?_)
  refine pm_kV rfl (pm_V (y := zX9_sum) (z := zX9_product) (As := []) zkX9_product pm_q9 (by decide) tw_1641 tw_1643 tw_118 dX9_sum_1 rfl rfl (Nat.le_of_ble_eq_true rfl) hb9 hc9) (kcX9_product hfl rs a0 m hrs) (fun m1 => ?_)
  exact gX9_sum_L4 hfl rs a0 hrs pm_N m1
set_option maxRecDepth 100000 in
set_option maxHeartbeats 4000000 in
theorem kcX9_sum_N0 (hfl : l.flags = flags0) : ∀ (n d : Nat) (b0 : Nat) (m : pmM), pm_C l Γ zX9_sum (d + 5 + 3 * n) [.ref b0] m (X9_sum_N n b0 m)
  | 0, d, b0, m => fun o m9 h => by cases h
  | n + 1, d, b0, m => by
    have h := kcX9_sum (d := d + 3 * n) hfl (X9_sum_N n) b0 m (fun b0 m => by
      have h2 := kcX9_sum_N0 hfl n d b0 m
      rw [show d + 3 * n + 5 = d + 5 + 3 * n by omega]
      exact h2)
    rw [show d + 5 + 3 * (n + 1) = d + 3 * n + 8 by omega]
    exact h
theorem kcX9_sum_N (hfl : l.flags = flags0) (n : Nat) (b0 : Nat) (m : pmM) : pm_C l Γ zX9_sum (d + 5 + 3 * n) [.ref b0] m (X9_sum_N n b0 m) := kcX9_sum_N0 hfl n d b0 m
-- StruckPageModel.law(I)I
abbrev zX9_law : pmY := (⟨"StruckPageModel", "law", "(I)I"⟩, cX9_law, 2, some .int, [])
def X9_law_j85 (l0 : Nat) (m : pmM) : pmR := pm_gI 9 l0 5 m fun x12 => if x12 = 0 then (pm_pI 9 l0 3 (-1) m fun m13 => pm_gI 9 l0 20 m13 fun x14 => pm_pI 9 l0 19 x14 m13 fun m15 => pm_gR 9 l0 22 m15 fun r16 => pm_gR 9 l0 21 m15 fun r17 => pm_gI 9 l0 19 m15 fun x18 => pm_cV (X9_lays r16 r17 x18 m15) fun m19 => pm_oI 1 m19) else (pm_rc 9 l0 m <| pm_cI (X9_faulty l0 m) fun x21 m20 => pm_oI x21 m20)
def X9_law_j30 (l0 : Nat) (l1 : Int32) (t0 : Int32) (t1 : Nat) (m : pmM) : pmR := pm_rc 9 t1 m <| pm_cI (X9_bad t1 t0 1 1 m) fun x6 m5 => if x6 = 0 then (pm_rc 9 l0 m5 <| pm_cV (X9_starts l0 l1 m5) fun m7 => pm_pI 9 l0 20 0 m7 fun m8 => pm_rc 9 l0 m8 <| pm_cV (X9_sum_N pm_D l0 m8) fun m9 => pm_rc 9 l0 m9 <| pm_cV (X9_blanks l0 m9) fun m10 => pm_gI 9 l0 5 m10 fun x11 => if x11 = 0 then (pm_gI 9 l0 4 m10 fun x22 => pm_gI 9 l0 2 m10 fun x23 => if x23 ≤ x22 then (X9_law_j85 l0 m10) else (pm_gI 9 l0 4 m10 fun x24 => pm_rc 9 l0 m10 <| pm_cV (X9_wrong l0 1 x24 m10) fun m25 => X9_law_j85 l0 m25)) else (X9_law_j85 l0 m10)) else (pm_oI 0 m5)
def X9_law_j25 (l0 : Nat) (l1 : Int32) (t0 : Nat) (m : pmM) : pmR := X9_law_j30 l0 l1 1 t0 m
def X9_law (a0 : Nat) (a1 : Int32) (m : pmM) : pmR := pm_pI 9 a0 0 0 m fun m1 => pm_gI 9 a0 1 m1 fun x2 => pm_cI (X9_in a1 0 x2 m1) fun x4 m3 => if x4 = 0 then (X9_law_j25 a0 a1 a0 m3) else (if a1 ≤ 150 then (X9_law_j30 a0 a1 0 a0 m3) else (X9_law_j25 a0 a1 a0 m3))
theorem zkX9_law : pm_zOk zX9_law 1 := ⟨rfl, tw_1636, tw_168, by decide +kernel, by decide⟩
set_option maxRecDepth 100000 in
set_option maxHeartbeats 4000000 in
theorem gX9_law_j85 (hfl : l.flags = flags0) (l0 : Nat) (m : pmM) : pm_G l Γ zX9_law (d + 36) 85 [.ref l0, pmU] [] m (X9_law_j85 l0 m) := by
  unfold X9_law_j85
  refine pm_aload_n dX9_law_85 rfl rfl ?_
  refine fg_9_5 (y := zX9_law) (Or.inl tw_1382) dX9_law_86 (fun x12 => ?_)
  refine pm_if_eq (tgt := 97) dX9_law_89 rfl ?_ ?_
  · refine pm_aload_n dX9_law_97 rfl rfl ?_
    refine pm_iconst (v := (-1)) dX9_law_98 ki_n1 ?_
    refine fp_9_3 (y := zX9_law) (Or.inl tw_1380) dX9_law_99 (fun m13 => ?_)
    refine pm_aload_n dX9_law_102 rfl rfl ?_
    refine pm_aload_n dX9_law_103 rfl rfl ?_
    refine fg_9_20 (y := zX9_law) (Or.inl tw_1397) dX9_law_104 (fun x14 => ?_)
    refine fp_9_19 (y := zX9_law) (Or.inl tw_1396) dX9_law_107 (fun m15 => ?_)
    refine pm_aload_n dX9_law_110 rfl rfl ?_
    refine fg_9_22 (y := zX9_law) (Or.inl tw_1399) dX9_law_111 (fun r16 => ?_)
    refine pm_aload_n dX9_law_114 rfl rfl ?_
    refine fg_9_21 (y := zX9_law) (Or.inl tw_1398) dX9_law_115 (fun r17 => ?_)
    refine pm_aload_n dX9_law_118 rfl rfl ?_
    refine fg_9_19 (y := zX9_law) (Or.inl tw_1396) dX9_law_119 (fun x18 => ?_)
    refine pm_kV rfl (pm_S (y := zX9_law) (z := zX9_lays) (As := [.ref r16, .ref r17, .int x18]) zkX9_lays tw_1374 tw_1375 dX9_law_122 rfl rfl (Nat.le_of_ble_eq_true rfl)) (kcX9_lays hfl r16 r17 x18 m15) (fun m19 => ?_)
    refine pm_iconst (v := 1) dX9_law_125 ki_1 ?_
    exact pm_iret rfl dX9_law_126
  · refine pm_aload_n dX9_law_92 rfl rfl ?_
    refine pm_rcv (fun hb9 hc9 => ?_)
    refine pm_kI rfl (pm_V (y := zX9_law) (z := zX9_faulty) (As := []) zkX9_faulty pm_q9 (by decide) tw_1625 tw_1627 tw_115 dX9_law_93 rfl rfl (Nat.le_of_ble_eq_true rfl) hb9 hc9) (kcX9_faulty hfl l0 m) (fun x21 m20 => ?_)
    exact pm_iret rfl dX9_law_96
set_option maxRecDepth 100000 in
set_option maxHeartbeats 4000000 in
theorem gX9_law_j30 (hfl : l.flags = flags0) (l0 : Nat) (l1 : Int32) (t0 : Int32) (t1 : Nat) (m : pmM) : pm_G l Γ zX9_law (d + 36) 30 [.ref l0, .int l1] [.int t0, .ref t1] m (X9_law_j30 l0 l1 t0 t1 m) := by
  unfold X9_law_j30
  refine pm_iconst (v := 1) dX9_law_30 ki_1 ?_
  refine pm_iconst (v := 1) dX9_law_31 ki_1 ?_
  refine pm_rcv (fun hb9 hc9 => ?_)
  refine pm_kI rfl (pm_V (y := zX9_law) (z := zX9_bad) (As := [.int t0, .int 1, .int 1]) zkX9_bad pm_q9 (by decide) tw_1559 tw_1561 tw_101 dX9_law_32 rfl rfl (Nat.le_of_ble_eq_true rfl) hb9 hc9) (kcX9_bad hfl t1 t0 1 1 m) (fun x6 m5 => ?_)
  refine pm_if_eq (tgt := 40) dX9_law_35 rfl ?_ ?_
  · refine pm_aload_n dX9_law_40 rfl rfl ?_
    refine pm_iload_n dX9_law_41 rfl rfl ?_
    refine pm_rcv (fun hb9 hc9 => ?_)
    refine pm_kV rfl (pm_V (y := zX9_law) (z := zX9_starts) (As := [.int l1]) zkX9_starts pm_q9 (by decide) tw_1563 tw_1565 tw_102 dX9_law_42 rfl rfl (Nat.le_of_ble_eq_true rfl) hb9 hc9) (kcX9_starts hfl l0 l1 m5) (fun m7 => ?_)
    refine pm_aload_n dX9_law_45 rfl rfl ?_
    refine pm_iconst (v := 0) dX9_law_46 ki_0 ?_
    refine fp_9_20 (y := zX9_law) (Or.inl tw_1397) dX9_law_47 (fun m8 => ?_)
    refine pm_aload_n dX9_law_50 rfl rfl ?_
    refine pm_rcv (fun hb9 hc9 => ?_)
    refine pm_kV rfl (pm_V (y := zX9_law) (z := zX9_sum) (As := []) zkX9_sum pm_q9 (by decide) tw_1637 tw_1639 tw_117 dX9_law_51 rfl rfl (Nat.le_of_ble_eq_true rfl) hb9 hc9) (kcX9_sum_N hfl pm_D l0 m8) (fun m9 => ?_)
    refine pm_aload_n dX9_law_54 rfl rfl ?_
    refine pm_rcv (fun hb9 hc9 => ?_)
    refine pm_kV rfl (pm_V (y := zX9_law) (z := zX9_blanks) (As := []) zkX9_blanks pm_q9 (by decide) tw_1567 tw_1569 tw_103 dX9_law_55 rfl rfl (Nat.le_of_ble_eq_true rfl) hb9 hc9) (kcX9_blanks hfl l0 m9) (fun m10 => ?_)
    refine pm_aload_n dX9_law_58 rfl rfl ?_
    refine fg_9_5 (y := zX9_law) (Or.inl tw_1382) dX9_law_59 (fun x11 => ?_)
    refine pm_if_ne (tgt := 85) dX9_law_62 rfl ?_ ?_
    · refine pm_drop (ls2 := [.ref l0, pmU]) (Nat.le_refl _) (pm_le_spec (pm_le_v (pm_le_u (pm_le_n)))) ?_
      exact gX9_law_j85 hfl l0 m10
    · refine pm_aload_n dX9_law_65 rfl rfl ?_
      refine fg_9_4 (y := zX9_law) (Or.inl tw_1381) dX9_law_66 (fun x22 => ?_)
      refine pm_aload_n dX9_law_69 rfl rfl ?_
      refine fg_9_2 (y := zX9_law) (Or.inl tw_1379) dX9_law_70 (fun x23 => ?_)
      refine pm_icmp_ge (tgt := 85) dX9_law_73 rfl ?_ ?_
      · refine pm_drop (ls2 := [.ref l0, pmU]) (Nat.le_refl _) (pm_le_spec (pm_le_v (pm_le_u (pm_le_n)))) ?_
        exact gX9_law_j85 hfl l0 m10
      · refine pm_aload_n dX9_law_76 rfl rfl ?_
        refine pm_iconst (v := 1) dX9_law_77 ki_1 ?_
        refine pm_aload_n dX9_law_78 rfl rfl ?_
        refine fg_9_4 (y := zX9_law) (Or.inl tw_1381) dX9_law_79 (fun x24 => ?_)
        refine pm_rcv (fun hb9 hc9 => ?_)
        refine pm_kV rfl (pm_V (y := zX9_law) (z := zX9_wrong) (As := [.int 1, .int x24]) zkX9_wrong pm_q9 (by decide) tw_1597 tw_1599 tw_109 dX9_law_82 rfl rfl (Nat.le_of_ble_eq_true rfl) hb9 hc9) (kcX9_wrong hfl l0 1 x24 m10) (fun m25 => ?_)
        refine pm_drop (ls2 := [.ref l0, pmU]) (Nat.le_refl _) (pm_le_spec (pm_le_v (pm_le_u (pm_le_n)))) ?_
        exact gX9_law_j85 hfl l0 m25
  · refine pm_iconst (v := 0) dX9_law_38 ki_0 ?_
    exact pm_iret rfl dX9_law_39
set_option maxRecDepth 100000 in
set_option maxHeartbeats 4000000 in
theorem gX9_law_j25 (hfl : l.flags = flags0) (l0 : Nat) (l1 : Int32) (t0 : Nat) (m : pmM) : pm_G l Γ zX9_law (d + 36) 25 [.ref l0, .int l1] [.ref t0] m (X9_law_j25 l0 l1 t0 m) := by
  unfold X9_law_j25
  refine pm_iconst (v := 1) dX9_law_25 ki_1 ?_
  refine pm_goto (tgt := 30) dX9_law_26 rfl ?_
  exact gX9_law_j30 hfl l0 l1 1 t0 m
set_option maxRecDepth 100000 in
set_option maxHeartbeats 4000000 in
theorem kcX9_law (hfl : l.flags = flags0) (a0 : Nat) (a1 : Int32) (m : pmM) : pm_C l Γ zX9_law (d + 36) [.ref a0, .int a1] m (X9_law a0 a1 m) := by
  refine pm_enter (ls := [.ref a0, .int a1]) hfl (by decide +kernel) rfl (Nat.le_of_ble_eq_true rfl) rfl (Nat.le_of_ble_eq_true rfl) ?_
  unfold X9_law
  refine pm_aload_n dX9_law_0 rfl rfl ?_
  refine pm_iconst (v := 0) dX9_law_1 ki_0 ?_
  refine fp_9_0 (y := zX9_law) (Or.inl tw_1377) dX9_law_2 (fun m1 => ?_)
  refine pm_aload_n dX9_law_5 rfl rfl ?_
  refine pm_iload_n dX9_law_6 rfl rfl ?_
  refine pm_iconst (v := 0) dX9_law_7 ki_0 ?_
  refine pm_aload_n dX9_law_8 rfl rfl ?_
  refine fg_9_1 (y := zX9_law) (Or.inl tw_1378) dX9_law_9 (fun x2 => ?_)
  refine pm_kI rfl (pm_S (y := zX9_law) (z := zX9_in) (As := [.int a1, .int 0, .int x2]) zkX9_in tw_1556 tw_1557 dX9_law_12 rfl rfl (Nat.le_of_ble_eq_true rfl)) (kcX9_in hfl a1 0 x2 m1) (fun x4 m3 => ?_)
  refine pm_if_eq (tgt := 25) dX9_law_15 rfl ?_ ?_
  · exact gX9_law_j25 hfl a0 a1 a0 m3
  · refine pm_iload_n dX9_law_18 rfl rfl ?_
    refine pm_sipush (v := 150) dX9_law_19 ks_150 ?_
    refine pm_icmp_le (tgt := 29) dX9_law_22 rfl ?_ ?_
    · refine pm_iconst (v := 0) dX9_law_29 ki_0 ?_
      exact gX9_law_j30 hfl a0 a1 0 a0 m3
    · exact gX9_law_j25 hfl a0 a1 a0 m3
-- StruckPageModel.by(III)I
abbrev zX9_by : pmY := (⟨"StruckPageModel", "by", "(III)I"⟩, cX9_by, 3, some .int, [])
def X9_by_j73 (t0 : Int32) (m : pmM) : pmR := pm_oI t0 m
def X9_by_j90 (t0 : Int32) (m : pmM) : pmR := pm_oI t0 m
def X9_by_j83 (m : pmM) : pmR := X9_by_j90 0 m
def X9_by (a0 : Int32) (a1 : Int32) (a2 : Int32) (m : pmM) : pmR := if a0 = (2 : Int32) then (pm_oI (a1 + a2) m) else if a0 = (3 : Int32) then (pm_oI (a1 - a2) m) else if a0 = (4 : Int32) then (pm_oI (a1 * a2) m) else if a0 = (5 : Int32) then (if a2 = 0 then (X9_by_j73 0 m) else (if a2 = (-1) then (X9_by_j73 (-a1) m) else (if a2 = 0 then none else X9_by_j73 (a1 / a2) m))) else if a0 = (6 : Int32) then (if a2 = 0 then (X9_by_j83 m) else (if a2 = (-1) then (X9_by_j83 m) else (if a2 = 0 then none else X9_by_j90 (a1 - a1 / a2 * a2) m))) else if a0 = (7 : Int32) then (pm_cI (X9_less a1 a2 m) fun x2 m1 => pm_oI x2 m1) else (pm_cI (X9_more a1 a2 m) fun x4 m3 => pm_oI x4 m3)
theorem zkX9_by : pm_zOk zX9_by 3 := ⟨rfl, tw_1732, tw_168, by decide +kernel, by decide⟩
set_option maxRecDepth 100000 in
set_option maxHeartbeats 4000000 in
theorem gX9_by_j73 (hfl : l.flags = flags0) (t0 : Int32) (m : pmM) : pm_G l Γ zX9_by (d + 1) 73 [pmU, pmU, pmU] [.int t0] m (X9_by_j73 t0 m) := by
  unfold X9_by_j73
  exact pm_iret rfl dX9_by_73
set_option maxRecDepth 100000 in
set_option maxHeartbeats 4000000 in
theorem gX9_by_j90 (hfl : l.flags = flags0) (t0 : Int32) (m : pmM) : pm_G l Γ zX9_by (d + 1) 90 [pmU, pmU, pmU] [.int t0] m (X9_by_j90 t0 m) := by
  unfold X9_by_j90
  exact pm_iret rfl dX9_by_90
set_option maxRecDepth 100000 in
set_option maxHeartbeats 4000000 in
theorem gX9_by_j83 (hfl : l.flags = flags0) (m : pmM) : pm_G l Γ zX9_by (d + 1) 83 [pmU, pmU, pmU] [] m (X9_by_j83 m) := by
  unfold X9_by_j83
  refine pm_iconst (v := 0) dX9_by_83 ki_0 ?_
  refine pm_goto (tgt := 90) dX9_by_84 rfl ?_
  exact gX9_by_j90 hfl 0 m
set_option maxRecDepth 100000 in
set_option maxHeartbeats 4000000 in
theorem kcX9_by (hfl : l.flags = flags0) (a0 : Int32) (a1 : Int32) (a2 : Int32) (m : pmM) : pm_C l Γ zX9_by (d + 1) [.int a0, .int a1, .int a2] m (X9_by a0 a1 a2 m) := by
  refine pm_enter (ls := [.int a0, .int a1, .int a2]) hfl (by decide +kernel) rfl (Nat.le_of_ble_eq_true rfl) rfl (Nat.le_of_ble_eq_true rfl) ?_
  unfold X9_by
  refine pm_iload_n dX9_by_0 rfl rfl ?_
  refine pm_case (c := (2 : Int32)) (fun h9 => ?_) (fun h9_0 => ?_)
  · refine pm_swIn (off := (39)) (tgt := 40) dX9_by_1 (by rw [h9]; decide) (by rw [h9]; decide) (by rw [h9]; decide) (by decide) ?_
    refine pm_iload_n dX9_by_40 rfl rfl ?_
    refine pm_iload_n dX9_by_41 rfl rfl ?_
    refine pm_iadd dX9_by_42 ?_
    exact pm_iret rfl dX9_by_43
  refine pm_case (c := (3 : Int32)) (fun h9 => ?_) (fun h9_1 => ?_)
  · refine pm_swIn (off := (43)) (tgt := 44) dX9_by_1 (by rw [h9]; decide) (by rw [h9]; decide) (by rw [h9]; decide) (by decide) ?_
    refine pm_iload_n dX9_by_44 rfl rfl ?_
    refine pm_iload_n dX9_by_45 rfl rfl ?_
    refine pm_isub dX9_by_46 ?_
    exact pm_iret rfl dX9_by_47
  refine pm_case (c := (4 : Int32)) (fun h9 => ?_) (fun h9_2 => ?_)
  · refine pm_swIn (off := (47)) (tgt := 48) dX9_by_1 (by rw [h9]; decide) (by rw [h9]; decide) (by rw [h9]; decide) (by decide) ?_
    refine pm_iload_n dX9_by_48 rfl rfl ?_
    refine pm_iload_n dX9_by_49 rfl rfl ?_
    refine pm_imul dX9_by_50 ?_
    exact pm_iret rfl dX9_by_51
  refine pm_case (c := (5 : Int32)) (fun h9 => ?_) (fun h9_3 => ?_)
  · refine pm_swIn (off := (51)) (tgt := 52) dX9_by_1 (by rw [h9]; decide) (by rw [h9]; decide) (by rw [h9]; decide) (by decide) ?_
    refine pm_iload_n dX9_by_52 rfl rfl ?_
    refine pm_if_ne (tgt := 60) dX9_by_53 rfl ?_ ?_
    · refine pm_iload_n dX9_by_60 rfl rfl ?_
      refine pm_iconst (v := (-1)) dX9_by_61 ki_n1 ?_
      refine pm_icmp_ne (tgt := 70) dX9_by_62 rfl ?_ ?_
      · refine pm_iload_n dX9_by_70 rfl rfl ?_
        refine pm_iload_n dX9_by_71 rfl rfl ?_
        refine pm_idiv dX9_by_72 ?_
        refine pm_drop (ls2 := [pmU, pmU, pmU]) (Nat.le_refl _) (pm_le_spec (pm_le_u (pm_le_u (pm_le_u (pm_le_n))))) ?_
        exact gX9_by_j73 hfl (a1 / a2) m
      · refine pm_iload_n dX9_by_65 rfl rfl ?_
        refine pm_ineg dX9_by_66 ?_
        refine pm_goto (tgt := 73) dX9_by_67 rfl ?_
        refine pm_drop (ls2 := [pmU, pmU, pmU]) (Nat.le_refl _) (pm_le_spec (pm_le_u (pm_le_u (pm_le_u (pm_le_n))))) ?_
        exact gX9_by_j73 hfl (-a1) m
    · refine pm_iconst (v := 0) dX9_by_56 ki_0 ?_
      refine pm_goto (tgt := 73) dX9_by_57 rfl ?_
      refine pm_drop (ls2 := [pmU, pmU, pmU]) (Nat.le_refl _) (pm_le_spec (pm_le_u (pm_le_u (pm_le_u (pm_le_n))))) ?_
      exact gX9_by_j73 hfl 0 m
  refine pm_case (c := (6 : Int32)) (fun h9 => ?_) (fun h9_4 => ?_)
  · refine pm_swIn (off := (73)) (tgt := 74) dX9_by_1 (by rw [h9]; decide) (by rw [h9]; decide) (by rw [h9]; decide) (by decide) ?_
    refine pm_iload_n dX9_by_74 rfl rfl ?_
    refine pm_if_eq (tgt := 83) dX9_by_75 rfl ?_ ?_
    · refine pm_drop (ls2 := [pmU, pmU, pmU]) (Nat.le_refl _) (pm_le_spec (pm_le_u (pm_le_u (pm_le_u (pm_le_n))))) ?_
      exact gX9_by_j83 hfl m
    · refine pm_iload_n dX9_by_78 rfl rfl ?_
      refine pm_iconst (v := (-1)) dX9_by_79 ki_n1 ?_
      refine pm_icmp_ne (tgt := 87) dX9_by_80 rfl ?_ ?_
      · refine pm_iload_n dX9_by_87 rfl rfl ?_
        refine pm_iload_n dX9_by_88 rfl rfl ?_
        refine pm_irem dX9_by_89 ?_
        refine pm_drop (ls2 := [pmU, pmU, pmU]) (Nat.le_refl _) (pm_le_spec (pm_le_u (pm_le_u (pm_le_u (pm_le_n))))) ?_
        exact gX9_by_j90 hfl (a1 - a1 / a2 * a2) m
      · refine pm_drop (ls2 := [pmU, pmU, pmU]) (Nat.le_refl _) (pm_le_spec (pm_le_u (pm_le_u (pm_le_u (pm_le_n))))) ?_
        exact gX9_by_j83 hfl m
  refine pm_case (c := (7 : Int32)) (fun h9 => ?_) (fun h9_5 => ?_)
  · refine pm_swIn (off := (90)) (tgt := 91) dX9_by_1 (by rw [h9]; decide) (by rw [h9]; decide) (by rw [h9]; decide) (by decide) ?_
    refine pm_iload_n dX9_by_91 rfl rfl ?_
    refine pm_iload_n dX9_by_92 rfl rfl ?_
    refine pm_kI rfl (pm_S (y := zX9_by) (z := zX9_less) (As := [.int a1, .int a2]) zkX9_less tw_1733 tw_1734 dX9_by_93 rfl rfl (Nat.le_of_ble_eq_true rfl)) (kcX9_less hfl a1 a2 m) (fun x2 m1 => ?_)
    exact pm_iret rfl dX9_by_96
  refine pm_swOut (tgt := 97) dX9_by_1 (pm_swx a0 (2) 6 (lt_s (lt_s (lt_s (lt_s (lt_s (lt_s (lt_0) (pm_ne h9_0 (by decide))) (pm_ne h9_1 (by decide))) (pm_ne h9_2 (by decide))) (pm_ne h9_3 (by decide))) (pm_ne h9_4 (by decide))) (pm_ne h9_5 (by decide)))) (by decide) ?_
  refine pm_iload_n dX9_by_97 rfl rfl ?_
  refine pm_iload_n dX9_by_98 rfl rfl ?_
  refine pm_kI rfl (pm_S (y := zX9_by) (z := zX9_more) (As := [.int a1, .int a2]) zkX9_more tw_1736 tw_1737 dX9_by_99 rfl rfl (Nat.le_of_ble_eq_true rfl)) (kcX9_more hfl a1 a2 m) (fun x4 m3 => ?_)
  exact pm_iret rfl dX9_by_102
-- StruckPageModel.byLaw()I
abbrev zX9_byLaw : pmY := (⟨"StruckPageModel", "byLaw", "()I"⟩, cX9_byLaw, 3, some .int, [])
def X9_byLaw_j123 (again20 : (Int32 × Int32 × pmM) → pmR) (l0 : Nat) (l1 : Int32) (l2 : Int32) (m : pmM) : pmR := pm_bI (l2 + 1) fun x27 => again20 (l1, x27, m)
def X9_byLaw_j80 (again20 : (Int32 × Int32 × pmM) → pmR) (l0 : Nat) (l1 : Int32) (l2 : Int32) (t0 : Int32) (t1 : Int32) (t2 : Nat) (m : pmM) : pmR := pm_st 100 t2 t1 t0 m fun m37 => pm_bI (l1 + 1) fun x38 => X9_byLaw_j123 again20 l0 x38 l2 m37
def X9_byLaw_L20 (l0 : Nat) (again20 : (Int32 × Int32 × pmM) → pmR) (s20 : Int32 × Int32 × pmM) : pmR := pm_gI 9 l0 19 s20.2.2 fun x5 => if x5 ≤ s20.2.1 then (pm_gR 9 l0 23 s20.2.2 fun r6 => pm_ld 100 r6 0 s20.2.2 fun x7 => pm_cI (X9_more 0 x7 s20.2.2) fun x9 m8 => pm_cI (X9_less 60 x9 m8) fun x11 m10 => pm_oI x11 m10) else (pm_gR 9 l0 21 s20.2.2 fun r12 => pm_ldR 103 r12 s20.2.1 s20.2.2 fun r13 => pm_ld 100 r13 0 s20.2.2 fun x14 => if (2 : Int32) ≤ x14 then (pm_bI (s20.1 + (-1)) fun x15 => pm_gR 9 l0 23 s20.2.2 fun r16 => pm_gR 9 l0 21 s20.2.2 fun r17 => pm_ldR 103 r17 s20.2.1 s20.2.2 fun r18 => pm_ld 100 r18 0 s20.2.2 fun x19 => pm_gR 9 l0 23 s20.2.2 fun r20 => pm_ld 100 r20 (x15 - 1) s20.2.2 fun x21 => pm_gR 9 l0 23 s20.2.2 fun r22 => pm_ld 100 r22 x15 s20.2.2 fun x23 => pm_cI (X9_by x19 x21 x23 s20.2.2) fun x25 m24 => pm_st 100 r16 (x15 - 1) x25 m24 fun m26 => X9_byLaw_j123 again20 l0 x15 s20.2.1 m26) else (pm_gR 9 l0 23 s20.2.2 fun r28 => pm_gR 9 l0 21 s20.2.2 fun r29 => pm_ldR 103 r29 s20.2.1 s20.2.2 fun r30 => pm_ld 100 r30 0 s20.2.2 fun x31 => if x31 = 0 then (pm_gR 9 l0 21 s20.2.2 fun r39 => pm_ldR 103 r39 s20.2.1 s20.2.2 fun r40 => pm_ld 100 r40 1 s20.2.2 fun x41 => X9_byLaw_j80 again20 l0 s20.1 s20.2.1 x41 s20.1 r28 s20.2.2) else (pm_gR 9 l0 24 s20.2.2 fun r32 => pm_gR 9 l0 21 s20.2.2 fun r33 => pm_ldR 103 r33 s20.2.1 s20.2.2 fun r34 => pm_ld 100 r34 1 s20.2.2 fun x35 => pm_ld 100 r32 x35 s20.2.2 fun x36 => X9_byLaw_j80 again20 l0 s20.1 s20.2.1 x36 s20.1 r28 s20.2.2)))
def X9_byLaw (a0 : Nat) (m : pmM) : pmR := pm_gR 9 a0 23 m fun r1 => pm_gR 9 a0 24 m fun r2 => pm_ld 100 r2 0 m fun x3 => if (2 : Int32) = 0 then none else pm_st 100 r1 0 ((1 : Int32) + (x3 / 2)) m fun m4 => pm_lp pm_N (X9_byLaw_L20 a0) (0, 0, m4)
theorem zkX9_byLaw : pm_zOk zX9_byLaw 0 := ⟨rfl, tw_1729, tw_168, by decide +kernel, by decide⟩
set_option maxRecDepth 100000 in
set_option maxHeartbeats 4000000 in
theorem gX9_byLaw_j123 (hfl : l.flags = flags0) (again20 : (Int32 × Int32 × pmM) → pmR) (l0 : Nat) (l1 : Int32) (l2 : Int32) (m : pmM) (hag20 : ∀ s : Int32 × Int32 × pmM, pm_G l Γ zX9_byLaw (d + 2) 20 [.ref l0, .int s.1, .int s.2.1] [] s.2.2 (again20 s)) : pm_G l Γ zX9_byLaw (d + 2) 123 [.ref l0, .int l1, .int l2] [] m (X9_byLaw_j123 again20 l0 l1 l2 m) := by
  unfold X9_byLaw_j123
  refine pm_iincn (y := zX9_byLaw) dX9_byLaw_123 rfl ki_1 rfl (Nat.le_of_ble_eq_true rfl) (fun x27 => ?_)
  refine pm_eqls (ls2 := [.ref l0, .int l1, .int x27]) rfl ?_
  refine pm_goto (tgt := 20) dX9_byLaw_126 rfl ?_
  exact hag20 (l1, x27, m)
set_option maxRecDepth 100000 in
set_option maxHeartbeats 4000000 in
theorem gX9_byLaw_j80 (hfl : l.flags = flags0) (again20 : (Int32 × Int32 × pmM) → pmR) (l0 : Nat) (l1 : Int32) (l2 : Int32) (t0 : Int32) (t1 : Int32) (t2 : Nat) (m : pmM) (hag20 : ∀ s : Int32 × Int32 × pmM, pm_G l Γ zX9_byLaw (d + 2) 20 [.ref l0, .int s.1, .int s.2.1] [] s.2.2 (again20 s)) : pm_G l Γ zX9_byLaw (d + 2) 80 [.ref l0, .int l1, .int l2] [.int t0, .int t1, .ref t2] m (X9_byLaw_j80 again20 l0 l1 l2 t0 t1 t2 m) := by
  unfold X9_byLaw_j80
  refine pm_iast (y := zX9_byLaw) dX9_byLaw_80 (fun m37 => ?_)
  refine pm_iincn (y := zX9_byLaw) dX9_byLaw_81 rfl ki_1 rfl (Nat.le_of_ble_eq_true rfl) (fun x38 => ?_)
  refine pm_eqls (ls2 := [.ref l0, .int x38, .int l2]) rfl ?_
  refine pm_goto (tgt := 123) dX9_byLaw_84 rfl ?_
  exact gX9_byLaw_j123 hfl again20 l0 x38 l2 m37 hag20
set_option maxRecDepth 100000 in
set_option maxHeartbeats 4000000 in
theorem gX9_byLaw_L20 (hfl : l.flags = flags0) (l0 : Nat) : ∀ (n : Nat) (s : Int32 × Int32 × pmM), pm_G l Γ zX9_byLaw (d + 2) 20 [.ref l0, .int s.1, .int s.2.1] [] s.2.2 (pm_lp n (X9_byLaw_L20 l0) s) :=
  pm_loop (lsf := fun s : Int32 × Int32 × pmM => [.ref l0, .int s.1, .int s.2.1]) (mf := fun s : Int32 × Int32 × pmM => s.2.2) (fun again20 hag20 s20 => by
    unfold X9_byLaw_L20
    refine pm_iload_n dX9_byLaw_20 rfl rfl ?_
    refine pm_aload_n dX9_byLaw_21 rfl rfl ?_
    refine fg_9_19 (y := zX9_byLaw) (Or.inl tw_1396) dX9_byLaw_22 (fun x5 => ?_)
    refine pm_icmp_ge (tgt := 129) dX9_byLaw_25 rfl ?_ ?_
    · refine pm_bipush (v := 60) dX9_byLaw_129 kb_60 ?_
      refine pm_iconst (v := 0) dX9_byLaw_131 ki_0 ?_
      refine pm_aload_n dX9_byLaw_132 rfl rfl ?_
      refine fg_9_23 (y := zX9_byLaw) (Or.inl tw_1400) dX9_byLaw_133 (fun r6 => ?_)
      refine pm_iconst (v := 0) dX9_byLaw_136 ki_0 ?_
      refine pm_iald (y := zX9_byLaw) dX9_byLaw_137 (fun x7 => ?_)
      refine pm_kI rfl (pm_S (y := zX9_byLaw) (z := zX9_more) (As := [.int 0, .int x7]) zkX9_more tw_1736 tw_1737 dX9_byLaw_138 rfl rfl (Nat.le_of_ble_eq_true rfl)) (kcX9_more hfl 0 x7 s20.2.2) (fun x9 m8 => ?_)
      refine pm_kI rfl (pm_S (y := zX9_byLaw) (z := zX9_less) (As := [.int 60, .int x9]) zkX9_less tw_1733 tw_1734 dX9_byLaw_141 rfl rfl (Nat.le_of_ble_eq_true rfl)) (kcX9_less hfl 60 x9 m8) (fun x11 m10 => ?_)
      exact pm_iret rfl dX9_byLaw_144
    · refine pm_aload_n dX9_byLaw_28 rfl rfl ?_
      refine fg_9_21 (y := zX9_byLaw) (Or.inl tw_1398) dX9_byLaw_29 (fun r12 => ?_)
      refine pm_iload_n dX9_byLaw_32 rfl rfl ?_
      refine pm_aaldI (y := zX9_byLaw) dX9_byLaw_33 (fun r13 => ?_)
      refine pm_iconst (v := 0) dX9_byLaw_34 ki_0 ?_
      refine pm_iald (y := zX9_byLaw) dX9_byLaw_35 (fun x14 => ?_)
      refine pm_iconst (v := 2) dX9_byLaw_36 ki_2 ?_
      refine pm_icmp_ge (tgt := 87) dX9_byLaw_37 rfl ?_ ?_
      · refine pm_iincn (y := zX9_byLaw) dX9_byLaw_87 rfl ki_n1 rfl (Nat.le_of_ble_eq_true rfl) (fun x15 => ?_)
        refine pm_eqls (ls2 := [.ref l0, .int x15, .int s20.2.1]) rfl ?_
        refine pm_aload_n dX9_byLaw_90 rfl rfl ?_
        refine fg_9_23 (y := zX9_byLaw) (Or.inl tw_1400) dX9_byLaw_91 (fun r16 => ?_)
        refine pm_iload_n dX9_byLaw_94 rfl rfl ?_
        refine pm_iconst (v := 1) dX9_byLaw_95 ki_1 ?_
        refine pm_isub dX9_byLaw_96 ?_
        refine pm_aload_n dX9_byLaw_97 rfl rfl ?_
        refine fg_9_21 (y := zX9_byLaw) (Or.inl tw_1398) dX9_byLaw_98 (fun r17 => ?_)
        refine pm_iload_n dX9_byLaw_101 rfl rfl ?_
        refine pm_aaldI (y := zX9_byLaw) dX9_byLaw_102 (fun r18 => ?_)
        refine pm_iconst (v := 0) dX9_byLaw_103 ki_0 ?_
        refine pm_iald (y := zX9_byLaw) dX9_byLaw_104 (fun x19 => ?_)
        refine pm_aload_n dX9_byLaw_105 rfl rfl ?_
        refine fg_9_23 (y := zX9_byLaw) (Or.inl tw_1400) dX9_byLaw_106 (fun r20 => ?_)
        refine pm_iload_n dX9_byLaw_109 rfl rfl ?_
        refine pm_iconst (v := 1) dX9_byLaw_110 ki_1 ?_
        refine pm_isub dX9_byLaw_111 ?_
        refine pm_iald (y := zX9_byLaw) dX9_byLaw_112 (fun x21 => ?_)
        refine pm_aload_n dX9_byLaw_113 rfl rfl ?_
        refine fg_9_23 (y := zX9_byLaw) (Or.inl tw_1400) dX9_byLaw_114 (fun r22 => ?_)
        refine pm_iload_n dX9_byLaw_117 rfl rfl ?_
        refine pm_iald (y := zX9_byLaw) dX9_byLaw_118 (fun x23 => ?_)
        refine pm_kI rfl (pm_S (y := zX9_byLaw) (z := zX9_by) (As := [.int x19, .int x21, .int x23]) zkX9_by tw_1730 tw_1731 dX9_byLaw_119 rfl rfl (Nat.le_of_ble_eq_true rfl)) (kcX9_by hfl x19 x21 x23 s20.2.2) (fun x25 m24 => ?_)
        refine pm_iast (y := zX9_byLaw) dX9_byLaw_122 (fun m26 => ?_)
        exact gX9_byLaw_j123 hfl again20 l0 x15 s20.2.1 m26 hag20
      · refine pm_aload_n dX9_byLaw_40 rfl rfl ?_
        refine fg_9_23 (y := zX9_byLaw) (Or.inl tw_1400) dX9_byLaw_41 (fun r28 => ?_)
        refine pm_iload_n dX9_byLaw_44 rfl rfl ?_
        refine pm_aload_n dX9_byLaw_45 rfl rfl ?_
        refine fg_9_21 (y := zX9_byLaw) (Or.inl tw_1398) dX9_byLaw_46 (fun r29 => ?_)
        refine pm_iload_n dX9_byLaw_49 rfl rfl ?_
        refine pm_aaldI (y := zX9_byLaw) dX9_byLaw_50 (fun r30 => ?_)
        refine pm_iconst (v := 0) dX9_byLaw_51 ki_0 ?_
        refine pm_iald (y := zX9_byLaw) dX9_byLaw_52 (fun x31 => ?_)
        refine pm_if_ne (tgt := 67) dX9_byLaw_53 rfl ?_ ?_
        · refine pm_aload_n dX9_byLaw_67 rfl rfl ?_
          refine fg_9_24 (y := zX9_byLaw) (Or.inl tw_1401) dX9_byLaw_68 (fun r32 => ?_)
          refine pm_aload_n dX9_byLaw_71 rfl rfl ?_
          refine fg_9_21 (y := zX9_byLaw) (Or.inl tw_1398) dX9_byLaw_72 (fun r33 => ?_)
          refine pm_iload_n dX9_byLaw_75 rfl rfl ?_
          refine pm_aaldI (y := zX9_byLaw) dX9_byLaw_76 (fun r34 => ?_)
          refine pm_iconst (v := 1) dX9_byLaw_77 ki_1 ?_
          refine pm_iald (y := zX9_byLaw) dX9_byLaw_78 (fun x35 => ?_)
          refine pm_iald (y := zX9_byLaw) dX9_byLaw_79 (fun x36 => ?_)
          exact gX9_byLaw_j80 hfl again20 l0 s20.1 s20.2.1 x36 s20.1 r28 s20.2.2 hag20
        · refine pm_aload_n dX9_byLaw_56 rfl rfl ?_
          refine fg_9_21 (y := zX9_byLaw) (Or.inl tw_1398) dX9_byLaw_57 (fun r39 => ?_)
          refine pm_iload_n dX9_byLaw_60 rfl rfl ?_
          refine pm_aaldI (y := zX9_byLaw) dX9_byLaw_61 (fun r40 => ?_)
          refine pm_iconst (v := 1) dX9_byLaw_62 ki_1 ?_
          refine pm_iald (y := zX9_byLaw) dX9_byLaw_63 (fun x41 => ?_)
          refine pm_goto (tgt := 80) dX9_byLaw_64 rfl ?_
          exact gX9_byLaw_j80 hfl again20 l0 s20.1 s20.2.1 x41 s20.1 r28 s20.2.2 hag20)
set_option maxRecDepth 100000 in
set_option maxHeartbeats 4000000 in
theorem kcX9_byLaw (hfl : l.flags = flags0) (a0 : Nat) (m : pmM) : pm_C l Γ zX9_byLaw (d + 2) [.ref a0] m (X9_byLaw a0 m) := by
  refine pm_enter (ls := [.ref a0, pmU, pmU]) hfl (by decide +kernel) rfl (Nat.le_of_ble_eq_true rfl) rfl (Nat.le_of_ble_eq_true rfl) ?_
  unfold X9_byLaw
  refine pm_iconst (v := 0) dX9_byLaw_0 ki_0 ?_
  refine pm_istore_n (ls2 := [.ref a0, .int 0, pmU]) dX9_byLaw_1 rfl rfl (Nat.le_of_ble_eq_true rfl) rfl ?_
  refine pm_aload_n dX9_byLaw_2 rfl rfl ?_
  refine fg_9_23 (y := zX9_byLaw) (Or.inl tw_1400) dX9_byLaw_3 (fun r1 => ?_)
  refine pm_iconst (v := 0) dX9_byLaw_6 ki_0 ?_
  refine pm_iconst (v := 1) dX9_byLaw_7 ki_1 ?_
  refine pm_aload_n dX9_byLaw_8 rfl rfl ?_
  refine fg_9_24 (y := zX9_byLaw) (Or.inl tw_1401) dX9_byLaw_9 (fun r2 => ?_)
  refine pm_iconst (v := 0) dX9_byLaw_12 ki_0 ?_
  refine pm_iald (y := zX9_byLaw) dX9_byLaw_13 (fun x3 => ?_)
  refine pm_iconst (v := 2) dX9_byLaw_14 ki_2 ?_
  refine pm_idiv dX9_byLaw_15 ?_
  refine pm_iadd dX9_byLaw_16 ?_
  refine pm_iast (y := zX9_byLaw) dX9_byLaw_17 (fun m4 => ?_)
  refine pm_iconst (v := 0) dX9_byLaw_18 ki_0 ?_
  refine pm_istore_n (ls2 := [.ref a0, .int 0, .int 0]) dX9_byLaw_19 rfl rfl (Nat.le_of_ble_eq_true rfl) rfl ?_
  exact gX9_byLaw_L20 hfl a0 pm_N (0, 0, m4)
-- StruckPageModel.stepHere()I
abbrev zX9_stepHere : pmY := (⟨"StruckPageModel", "stepHere", "()I"⟩, cX9_stepHere, 1, some .int, [])
def X9_stepHere_j132 (t0 : Int32) (m : pmM) : pmR := pm_oI t0 m
def X9_stepHere (a0 : Nat) (m : pmM) : pmR := pm_rc 9 a0 m <| pm_cI (X9_isWord a0 19 20 18 9 11 5 m) fun x2 m1 => if x2 = 0 then (pm_rc 9 a0 m1 <| pm_cI (X9_isWord a0 18 21 14 0 0 0 m1) fun x4 m3 => if x4 = 0 then (pm_rc 9 a0 m3 <| pm_cI (X9_isWord a0 2 5 7 9 14 0 m3) fun x6 m5 => if x6 = 0 then (pm_rc 9 a0 m5 <| pm_cI (X9_isWord a0 6 9 12 12 0 0 m5) fun x8 m7 => if x8 = 0 then (pm_rc 9 a0 m7 <| pm_cI (X9_isWord a0 23 9 16 5 0 0 m7) fun x10 m9 => if x10 = 0 then (pm_rc 9 a0 m9 <| pm_cI (X9_isWord a0 19 5 20 0 0 0 m9) fun x12 m11 => if x12 = 0 then (pm_rc 9 a0 m11 <| pm_cI (X9_isWord a0 1 7 1 9 14 0 m11) fun x14 m13 => if x14 = 0 then (X9_stepHere_j132 (-1) m13) else (X9_stepHere_j132 6 m13)) else (pm_oI 5 m11)) else (pm_oI 4 m9)) else (pm_oI 3 m7)) else (pm_oI 2 m5)) else (pm_oI 1 m3)) else (pm_oI 0 m1)
theorem zkX9_stepHere : pm_zOk zX9_stepHere 0 := ⟨rfl, tw_1688, tw_168, by decide +kernel, by decide⟩
set_option maxRecDepth 100000 in
set_option maxHeartbeats 4000000 in
theorem gX9_stepHere_j132 (hfl : l.flags = flags0) (t0 : Int32) (m : pmM) : pm_G l Γ zX9_stepHere (d + 4) 132 [pmU] [.int t0] m (X9_stepHere_j132 t0 m) := by
  unfold X9_stepHere_j132
  exact pm_iret rfl dX9_stepHere_132
set_option maxRecDepth 100000 in
set_option maxHeartbeats 4000000 in
theorem kcX9_stepHere (hfl : l.flags = flags0) (a0 : Nat) (m : pmM) : pm_C l Γ zX9_stepHere (d + 4) [.ref a0] m (X9_stepHere a0 m) := by
  refine pm_enter (ls := [.ref a0]) hfl (by decide +kernel) rfl (Nat.le_of_ble_eq_true rfl) rfl (Nat.le_of_ble_eq_true rfl) ?_
  unfold X9_stepHere
  refine pm_aload_n dX9_stepHere_0 rfl rfl ?_
  refine pm_bipush (v := 19) dX9_stepHere_1 kb_19 ?_
  refine pm_bipush (v := 20) dX9_stepHere_3 kb_20 ?_
  refine pm_bipush (v := 18) dX9_stepHere_5 kb_18 ?_
  refine pm_bipush (v := 9) dX9_stepHere_7 kb_9 ?_
  refine pm_bipush (v := 11) dX9_stepHere_9 kb_11 ?_
  refine pm_iconst (v := 5) dX9_stepHere_11 ki_5 ?_
  refine pm_rcv (fun hb9 hc9 => ?_)
  refine pm_kI rfl (pm_V (y := zX9_stepHere) (z := zX9_isWord) (As := [.int 19, .int 20, .int 18, .int 9, .int 11, .int 5]) zkX9_isWord pm_q9 (by decide) tw_1583 tw_1585 tw_107 dX9_stepHere_12 rfl rfl (Nat.le_of_ble_eq_true rfl) hb9 hc9) (kcX9_isWord hfl a0 19 20 18 9 11 5 m) (fun x2 m1 => ?_)
  refine pm_if_eq (tgt := 20) dX9_stepHere_15 rfl ?_ ?_
  · refine pm_aload_n dX9_stepHere_20 rfl rfl ?_
    refine pm_bipush (v := 18) dX9_stepHere_21 kb_18 ?_
    refine pm_bipush (v := 21) dX9_stepHere_23 kb_21 ?_
    refine pm_bipush (v := 14) dX9_stepHere_25 kb_14 ?_
    refine pm_iconst (v := 0) dX9_stepHere_27 ki_0 ?_
    refine pm_iconst (v := 0) dX9_stepHere_28 ki_0 ?_
    refine pm_iconst (v := 0) dX9_stepHere_29 ki_0 ?_
    refine pm_rcv (fun hb9 hc9 => ?_)
    refine pm_kI rfl (pm_V (y := zX9_stepHere) (z := zX9_isWord) (As := [.int 18, .int 21, .int 14, .int 0, .int 0, .int 0]) zkX9_isWord pm_q9 (by decide) tw_1583 tw_1585 tw_107 dX9_stepHere_30 rfl rfl (Nat.le_of_ble_eq_true rfl) hb9 hc9) (kcX9_isWord hfl a0 18 21 14 0 0 0 m1) (fun x4 m3 => ?_)
    refine pm_if_eq (tgt := 38) dX9_stepHere_33 rfl ?_ ?_
    · refine pm_aload_n dX9_stepHere_38 rfl rfl ?_
      refine pm_iconst (v := 2) dX9_stepHere_39 ki_2 ?_
      refine pm_iconst (v := 5) dX9_stepHere_40 ki_5 ?_
      refine pm_bipush (v := 7) dX9_stepHere_41 kb_7 ?_
      refine pm_bipush (v := 9) dX9_stepHere_43 kb_9 ?_
      refine pm_bipush (v := 14) dX9_stepHere_45 kb_14 ?_
      refine pm_iconst (v := 0) dX9_stepHere_47 ki_0 ?_
      refine pm_rcv (fun hb9 hc9 => ?_)
      refine pm_kI rfl (pm_V (y := zX9_stepHere) (z := zX9_isWord) (As := [.int 2, .int 5, .int 7, .int 9, .int 14, .int 0]) zkX9_isWord pm_q9 (by decide) tw_1583 tw_1585 tw_107 dX9_stepHere_48 rfl rfl (Nat.le_of_ble_eq_true rfl) hb9 hc9) (kcX9_isWord hfl a0 2 5 7 9 14 0 m3) (fun x6 m5 => ?_)
      refine pm_if_eq (tgt := 56) dX9_stepHere_51 rfl ?_ ?_
      · refine pm_aload_n dX9_stepHere_56 rfl rfl ?_
        refine pm_bipush (v := 6) dX9_stepHere_57 kb_6 ?_
        refine pm_bipush (v := 9) dX9_stepHere_59 kb_9 ?_
        refine pm_bipush (v := 12) dX9_stepHere_61 kb_12 ?_
        refine pm_bipush (v := 12) dX9_stepHere_63 kb_12 ?_
        refine pm_iconst (v := 0) dX9_stepHere_65 ki_0 ?_
        refine pm_iconst (v := 0) dX9_stepHere_66 ki_0 ?_
        refine pm_rcv (fun hb9 hc9 => ?_)
        refine pm_kI rfl (pm_V (y := zX9_stepHere) (z := zX9_isWord) (As := [.int 6, .int 9, .int 12, .int 12, .int 0, .int 0]) zkX9_isWord pm_q9 (by decide) tw_1583 tw_1585 tw_107 dX9_stepHere_67 rfl rfl (Nat.le_of_ble_eq_true rfl) hb9 hc9) (kcX9_isWord hfl a0 6 9 12 12 0 0 m5) (fun x8 m7 => ?_)
        refine pm_if_eq (tgt := 75) dX9_stepHere_70 rfl ?_ ?_
        · refine pm_aload_n dX9_stepHere_75 rfl rfl ?_
          refine pm_bipush (v := 23) dX9_stepHere_76 kb_23 ?_
          refine pm_bipush (v := 9) dX9_stepHere_78 kb_9 ?_
          refine pm_bipush (v := 16) dX9_stepHere_80 kb_16 ?_
          refine pm_iconst (v := 5) dX9_stepHere_82 ki_5 ?_
          refine pm_iconst (v := 0) dX9_stepHere_83 ki_0 ?_
          refine pm_iconst (v := 0) dX9_stepHere_84 ki_0 ?_
          refine pm_rcv (fun hb9 hc9 => ?_)
          refine pm_kI rfl (pm_V (y := zX9_stepHere) (z := zX9_isWord) (As := [.int 23, .int 9, .int 16, .int 5, .int 0, .int 0]) zkX9_isWord pm_q9 (by decide) tw_1583 tw_1585 tw_107 dX9_stepHere_85 rfl rfl (Nat.le_of_ble_eq_true rfl) hb9 hc9) (kcX9_isWord hfl a0 23 9 16 5 0 0 m7) (fun x10 m9 => ?_)
          refine pm_if_eq (tgt := 93) dX9_stepHere_88 rfl ?_ ?_
          · refine pm_aload_n dX9_stepHere_93 rfl rfl ?_
            refine pm_bipush (v := 19) dX9_stepHere_94 kb_19 ?_
            refine pm_iconst (v := 5) dX9_stepHere_96 ki_5 ?_
            refine pm_bipush (v := 20) dX9_stepHere_97 kb_20 ?_
            refine pm_iconst (v := 0) dX9_stepHere_99 ki_0 ?_
            refine pm_iconst (v := 0) dX9_stepHere_100 ki_0 ?_
            refine pm_iconst (v := 0) dX9_stepHere_101 ki_0 ?_
            refine pm_rcv (fun hb9 hc9 => ?_)
            refine pm_kI rfl (pm_V (y := zX9_stepHere) (z := zX9_isWord) (As := [.int 19, .int 5, .int 20, .int 0, .int 0, .int 0]) zkX9_isWord pm_q9 (by decide) tw_1583 tw_1585 tw_107 dX9_stepHere_102 rfl rfl (Nat.le_of_ble_eq_true rfl) hb9 hc9) (kcX9_isWord hfl a0 19 5 20 0 0 0 m9) (fun x12 m11 => ?_)
            refine pm_if_eq (tgt := 110) dX9_stepHere_105 rfl ?_ ?_
            · refine pm_aload_n dX9_stepHere_110 rfl rfl ?_
              refine pm_iconst (v := 1) dX9_stepHere_111 ki_1 ?_
              refine pm_bipush (v := 7) dX9_stepHere_112 kb_7 ?_
              refine pm_iconst (v := 1) dX9_stepHere_114 ki_1 ?_
              refine pm_bipush (v := 9) dX9_stepHere_115 kb_9 ?_
              refine pm_bipush (v := 14) dX9_stepHere_117 kb_14 ?_
              refine pm_iconst (v := 0) dX9_stepHere_119 ki_0 ?_
              refine pm_rcv (fun hb9 hc9 => ?_)
              refine pm_kI rfl (pm_V (y := zX9_stepHere) (z := zX9_isWord) (As := [.int 1, .int 7, .int 1, .int 9, .int 14, .int 0]) zkX9_isWord pm_q9 (by decide) tw_1583 tw_1585 tw_107 dX9_stepHere_120 rfl rfl (Nat.le_of_ble_eq_true rfl) hb9 hc9) (kcX9_isWord hfl a0 1 7 1 9 14 0 m11) (fun x14 m13 => ?_)
              refine pm_if_eq (tgt := 131) dX9_stepHere_123 rfl ?_ ?_
              · refine pm_iconst (v := (-1)) dX9_stepHere_131 ki_n1 ?_
                refine pm_drop (ls2 := [pmU]) (Nat.le_refl _) (pm_le_spec (pm_le_u (pm_le_n))) ?_
                exact gX9_stepHere_j132 hfl (-1) m13
              · refine pm_bipush (v := 6) dX9_stepHere_126 kb_6 ?_
                refine pm_goto (tgt := 132) dX9_stepHere_128 rfl ?_
                refine pm_drop (ls2 := [pmU]) (Nat.le_refl _) (pm_le_spec (pm_le_u (pm_le_n))) ?_
                exact gX9_stepHere_j132 hfl 6 m13
            · refine pm_iconst (v := 5) dX9_stepHere_108 ki_5 ?_
              exact pm_iret rfl dX9_stepHere_109
          · refine pm_iconst (v := 4) dX9_stepHere_91 ki_4 ?_
            exact pm_iret rfl dX9_stepHere_92
        · refine pm_iconst (v := 3) dX9_stepHere_73 ki_3 ?_
          exact pm_iret rfl dX9_stepHere_74
      · refine pm_iconst (v := 2) dX9_stepHere_54 ki_2 ?_
        exact pm_iret rfl dX9_stepHere_55
    · refine pm_iconst (v := 1) dX9_stepHere_36 ki_1 ?_
      exact pm_iret rfl dX9_stepHere_37
  · refine pm_iconst (v := 0) dX9_stepHere_18 ki_0 ?_
    exact pm_iret rfl dX9_stepHere_19
end GEN18
