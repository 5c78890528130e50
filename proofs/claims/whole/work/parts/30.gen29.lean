section GEN29
variable {l : Launch} {Γ : pmG} {d : Nat}
-- StruckPageLaw.line(LStruckPage;II[J)I
def L_line (a0 : Nat) (a1 : Int32) (a2 : Int32) (a3 : Nat) (m : pmM) : pmR := pm_rc 8 a0 m <| pm_cIH (X8_line a0 a1 a2 m) (h := fun k9 m9 => if k9 = 0 then (pm_oI 1 m9) else if k9 = 1 then (pm_oI 2 m9) else none) fun x2 m1 => pm_stL a3 0 x2.toInt64 m1 fun m3 => pm_oI 0 m3
set_option maxRecDepth 100000 in
set_option maxHeartbeats 4000000 in
theorem kcL_line (hfl : l.flags = flags0) (a0 : Nat) (a1 : Int32) (a2 : Int32) (a3 : Nat) (m : pmM) : pm_C l Γ zL_line (d + 4) [.ref a0, .int a1, .int a2, .ref a3] m (L_line a0 a1 a2 a3 m) := by
  refine pm_enterH (ls := [.ref a0, .int a1, .int a2, .ref a3, pmU]) hfl (by decide +kernel) (by decide) (Nat.le_of_ble_eq_true rfl) rfl (Nat.le_of_ble_eq_true rfl) ?_
  unfold L_line
  refine pm_aload_n dL_line_0 rfl rfl ?_
  refine pm_iconst (v := 0) dL_line_1 ki_0 ?_
  refine pm_aload_n dL_line_2 rfl rfl ?_
  refine pm_iload_n dL_line_3 rfl rfl ?_
  refine pm_iload_n dL_line_4 rfl rfl ?_
  refine pm_rcv (fun hb9 hc9 => ?_)
  refine pm_kIH (d := d + 3) (pm_V (y := zL_line) (z := zX8_line) (As := [.int a1, .int a2]) zkX8_line pm_q8 (by decide) tw_1092 tw_1093 tw_1094 dL_line_5 rfl rfl (Nat.le_of_ble_eq_true rfl) hb9 hc9) (kcX8_line (d := d + 0) hfl a0 a1 a2 m) ?_ (fun x2 m1 => ?_)
  · intro k9 m9
    by_cases e0 : k9 = 0
    · subst e0
      refine Or.inr ⟨[], [(0, 10, 17, 13)], 0, 10, 13, 31, 4, 2, rfl, (by intro q hq; cases hq), by decide, by decide, by decide, tw_1091, tw_1103, Or.inl ⟨rfl, dL_line_13⟩, Nat.le_of_ble_eq_true rfl, rfl, ?_⟩
      refine pm_eqls (ls2 := [.ref a0, .int a1, .int a2, .ref a3, pmU]) rfl ?_
      rw [if_pos rfl]
      refine pm_iconst (v := 1) dL_line_15 ki_1 ?_
      exact pm_iret rfl dL_line_16
    by_cases e1 : k9 = 1
    · subst e1
      refine Or.inr ⟨[(0, 10, 13, 31)], [], 0, 10, 17, 13, 4, 2, rfl, (by intro q hq; rw [List.mem_singleton.mp hq]; exact ⟨rfl, by decide, tw_1091⟩), by decide, by decide, by decide, tw_675, tw_690, Or.inl ⟨rfl, dL_line_17⟩, Nat.le_of_ble_eq_true rfl, rfl, ?_⟩
      refine pm_eqls (ls2 := [.ref a0, .int a1, .int a2, .ref a3, pmU]) rfl ?_
      rw [if_neg (by decide)]
      rw [if_pos rfl]
      refine pm_iconst (v := 2) dL_line_19 ki_2 ?_
      exact pm_iret rfl dL_line_20
    exact Or.inl (by simp [e0, e1])
  refine pm_i2l dL_line_8 ?_
  refine pm_last (y := zL_line) dL_line_9 (fun m3 => ?_)
  refine pm_goto (tgt := 21) dL_line_10 rfl ?_
  refine pm_iconst (v := 0) dL_line_21 ki_0 ?_
  exact pm_iret rfl dL_line_22
-- StruckPageLaw.word(LStruckPage;III[J)I
def L_word (a0 : Nat) (a1 : Int32) (a2 : Int32) (a3 : Int32) (a4 : Nat) (m : pmM) : pmR := pm_rc 8 a0 m <| pm_cIH (X8_word a0 a1 a2 a3 m) (h := fun k9 m9 => if k9 = 0 then (pm_oI 1 m9) else if k9 = 1 then (pm_oI 2 m9) else none) fun x2 m1 => pm_stL a4 0 x2.toInt64 m1 fun m3 => pm_oI 0 m3
set_option maxRecDepth 100000 in
set_option maxHeartbeats 4000000 in
theorem kcL_word (hfl : l.flags = flags0) (a0 : Nat) (a1 : Int32) (a2 : Int32) (a3 : Int32) (a4 : Nat) (m : pmM) : pm_C l Γ zL_word (d + 3) [.ref a0, .int a1, .int a2, .int a3, .ref a4] m (L_word a0 a1 a2 a3 a4 m) := by
  refine pm_enterH (ls := [.ref a0, .int a1, .int a2, .int a3, .ref a4, pmU]) hfl (by decide +kernel) (by decide) (Nat.le_of_ble_eq_true rfl) rfl (Nat.le_of_ble_eq_true rfl) ?_
  unfold L_word
  refine pm_aload dL_word_0 rfl ?_
  refine pm_iconst (v := 0) dL_word_2 ki_0 ?_
  refine pm_aload_n dL_word_3 rfl rfl ?_
  refine pm_iload_n dL_word_4 rfl rfl ?_
  refine pm_iload_n dL_word_5 rfl rfl ?_
  refine pm_iload_n dL_word_6 rfl rfl ?_
  refine pm_rcv (fun hb9 hc9 => ?_)
  refine pm_kIH (d := d + 2) (pm_V (y := zL_word) (z := zX8_word) (As := [.int a1, .int a2, .int a3]) zkX8_word pm_q8 (by decide) tw_1128 tw_1129 tw_1130 dL_word_7 rfl rfl (Nat.le_of_ble_eq_true rfl) hb9 hc9) (kcX8_word (d := d + 0) hfl a0 a1 a2 a3 m) ?_ (fun x2 m1 => ?_)
  · intro k9 m9
    by_cases e0 : k9 = 0
    · subst e0
      refine Or.inr ⟨[], [(0, 12, 19, 13)], 0, 12, 15, 31, 5, 2, rfl, (by intro q hq; cases hq), by decide, by decide, by decide, tw_1091, tw_1103, Or.inl ⟨rfl, dL_word_15⟩, Nat.le_of_ble_eq_true rfl, rfl, ?_⟩
      refine pm_eqls (ls2 := [.ref a0, .int a1, .int a2, .int a3, .ref a4, pmU]) rfl ?_
      rw [if_pos rfl]
      refine pm_iconst (v := 1) dL_word_17 ki_1 ?_
      exact pm_iret rfl dL_word_18
    by_cases e1 : k9 = 1
    · subst e1
      refine Or.inr ⟨[(0, 12, 15, 31)], [], 0, 12, 19, 13, 5, 2, rfl, (by intro q hq; rw [List.mem_singleton.mp hq]; exact ⟨rfl, by decide, tw_1091⟩), by decide, by decide, by decide, tw_675, tw_690, Or.inl ⟨rfl, dL_word_19⟩, Nat.le_of_ble_eq_true rfl, rfl, ?_⟩
      refine pm_eqls (ls2 := [.ref a0, .int a1, .int a2, .int a3, .ref a4, pmU]) rfl ?_
      rw [if_neg (by decide)]
      rw [if_pos rfl]
      refine pm_iconst (v := 2) dL_word_21 ki_2 ?_
      exact pm_iret rfl dL_word_22
    exact Or.inl (by simp [e0, e1])
  refine pm_i2l dL_word_10 ?_
  refine pm_last (y := zL_word) dL_word_11 (fun m3 => ?_)
  refine pm_goto (tgt := 23) dL_word_12 rfl ?_
  refine pm_iconst (v := 0) dL_word_23 ki_0 ?_
  exact pm_iret rfl dL_word_24
-- StruckPageLaw.reads(LStruckPage;I[J)I
def L_reads (a0 : Nat) (a1 : Int32) (a2 : Nat) (m : pmM) : pmR := pm_rc 8 a0 m <| pm_cIH (X8_reads a0 a1 m) (h := fun k9 m9 => if k9 = 1 then (pm_oI 1 m9) else none) fun x2 m1 => pm_stL a2 0 x2.toInt64 m1 fun m3 => pm_oI 0 m3
set_option maxRecDepth 100000 in
set_option maxHeartbeats 4000000 in
theorem kcL_reads (hfl : l.flags = flags0) (a0 : Nat) (a1 : Int32) (a2 : Nat) (m : pmM) : pm_C l Γ zL_reads (d + 3) [.ref a0, .int a1, .ref a2] m (L_reads a0 a1 a2 m) := by
  refine pm_enterH (ls := [.ref a0, .int a1, .ref a2, pmU]) hfl (by decide +kernel) (by decide) (Nat.le_of_ble_eq_true rfl) rfl (Nat.le_of_ble_eq_true rfl) ?_
  unfold L_reads
  refine pm_aload_n dL_reads_0 rfl rfl ?_
  refine pm_iconst (v := 0) dL_reads_1 ki_0 ?_
  refine pm_aload_n dL_reads_2 rfl rfl ?_
  refine pm_iload_n dL_reads_3 rfl rfl ?_
  refine pm_rcv (fun hb9 hc9 => ?_)
  refine pm_kIH (d := d + 2) (pm_V (y := zL_reads) (z := zX8_reads) (As := [.int a1]) zkX8_reads pm_q8 (by decide) tw_1143 tw_1144 tw_1145 dL_reads_4 rfl rfl (Nat.le_of_ble_eq_true rfl) hb9 hc9) (kcX8_reads (d := d + 0) hfl a0 a1 m) ?_ (fun x2 m1 => ?_)
  · intro k9 m9
    by_cases e1 : k9 = 1
    · subst e1
      refine Or.inr ⟨[], [], 0, 9, 12, 13, 3, 1, rfl, (by intro q hq; cases hq), by decide, by decide, by decide, tw_675, tw_690, Or.inr ⟨rfl, 3, rfl, dL_reads_12⟩, Nat.le_of_ble_eq_true rfl, rfl, ?_⟩
      refine pm_eqls (ls2 := [.ref a0, .int a1, .ref a2, pmU]) rfl ?_
      rw [if_pos rfl]
      refine pm_iconst (v := 1) dL_reads_13 ki_1 ?_
      exact pm_iret rfl dL_reads_14
    exact Or.inl (by simp [e1])
  refine pm_i2l dL_reads_7 ?_
  refine pm_last (y := zL_reads) dL_reads_8 (fun m3 => ?_)
  refine pm_goto (tgt := 15) dL_reads_9 rfl ?_
  refine pm_iconst (v := 0) dL_reads_15 ki_0 ?_
  exact pm_iret rfl dL_reads_16
-- StruckPageLaw.cell(LStruckPage;I[J)I
def L_cell (a0 : Nat) (a1 : Int32) (a2 : Nat) (m : pmM) : pmR := pm_rc 8 a0 m <| pm_cIH (X8_cell a0 a1 m) (h := fun k9 m9 => if k9 = 1 then (pm_oI 1 m9) else none) fun x2 m1 => pm_stL a2 0 x2.toInt64 m1 fun m3 => pm_oI 0 m3
set_option maxRecDepth 100000 in
set_option maxHeartbeats 4000000 in
theorem kcL_cell (hfl : l.flags = flags0) (a0 : Nat) (a1 : Int32) (a2 : Nat) (m : pmM) : pm_C l Γ zL_cell (d + 2) [.ref a0, .int a1, .ref a2] m (L_cell a0 a1 a2 m) := by
  refine pm_enterH (ls := [.ref a0, .int a1, .ref a2, pmU]) hfl (by decide +kernel) (by decide) (Nat.le_of_ble_eq_true rfl) rfl (Nat.le_of_ble_eq_true rfl) ?_
  unfold L_cell
  refine pm_aload_n dL_cell_0 rfl rfl ?_
  refine pm_iconst (v := 0) dL_cell_1 ki_0 ?_
  refine pm_aload_n dL_cell_2 rfl rfl ?_
  refine pm_iload_n dL_cell_3 rfl rfl ?_
  refine pm_rcv (fun hb9 hc9 => ?_)
  refine pm_kIH (d := d + 1) (pm_V (y := zL_cell) (z := zX8_cell) (As := [.int a1]) zkX8_cell pm_q8 (by decide) tw_1150 tw_1151 tw_1152 dL_cell_4 rfl rfl (Nat.le_of_ble_eq_true rfl) hb9 hc9) (kcX8_cell (d := d + 0) hfl a0 a1 m) ?_ (fun x2 m1 => ?_)
  · intro k9 m9
    by_cases e1 : k9 = 1
    · subst e1
      refine Or.inr ⟨[], [], 0, 9, 12, 13, 3, 1, rfl, (by intro q hq; cases hq), by decide, by decide, by decide, tw_675, tw_690, Or.inr ⟨rfl, 3, rfl, dL_cell_12⟩, Nat.le_of_ble_eq_true rfl, rfl, ?_⟩
      refine pm_eqls (ls2 := [.ref a0, .int a1, .ref a2, pmU]) rfl ?_
      rw [if_pos rfl]
      refine pm_iconst (v := 1) dL_cell_13 ki_1 ?_
      exact pm_iret rfl dL_cell_14
    exact Or.inl (by simp [e1])
  refine pm_i2l dL_cell_7 ?_
  refine pm_last (y := zL_cell) dL_cell_8 (fun m3 => ?_)
  refine pm_goto (tgt := 15) dL_cell_9 rfl ?_
  refine pm_iconst (v := 0) dL_cell_15 ki_0 ?_
  exact pm_iret rfl dL_cell_16
-- StruckPageLaw.cost(LStruckPage;III[J)I
def L_cost (a0 : Nat) (a1 : Int32) (a2 : Int32) (a3 : Int32) (a4 : Nat) (m : pmM) : pmR := pm_rc 8 a0 m <| pm_cIH (X8_cost a0 a1 a2 a3 m) (h := fun k9 m9 => if k9 = 0 then (pm_oI 1 m9) else if k9 = 1 then (pm_oI 2 m9) else none) fun x2 m1 => pm_stL a4 0 x2.toInt64 m1 fun m3 => pm_oI 0 m3
set_option maxRecDepth 100000 in
set_option maxHeartbeats 4000000 in
theorem kcL_cost (hfl : l.flags = flags0) (a0 : Nat) (a1 : Int32) (a2 : Int32) (a3 : Int32) (a4 : Nat) (m : pmM) : pm_C l Γ zL_cost (d + 4) [.ref a0, .int a1, .int a2, .int a3, .ref a4] m (L_cost a0 a1 a2 a3 a4 m) := by
  refine pm_enterH (ls := [.ref a0, .int a1, .int a2, .int a3, .ref a4, pmU]) hfl (by decide +kernel) (by decide) (Nat.le_of_ble_eq_true rfl) rfl (Nat.le_of_ble_eq_true rfl) ?_
  unfold L_cost
  refine pm_aload dL_cost_0 rfl ?_
  refine pm_iconst (v := 0) dL_cost_2 ki_0 ?_
  refine pm_aload_n dL_cost_3 rfl rfl ?_
  refine pm_iload_n dL_cost_4 rfl rfl ?_
  refine pm_iload_n dL_cost_5 rfl rfl ?_
  refine pm_iload_n dL_cost_6 rfl rfl ?_
  refine pm_rcv (fun hb9 hc9 => ?_)
  refine pm_kIH (d := d + 3) (pm_V (y := zL_cost) (z := zX8_cost) (As := [.int a1, .int a2, .int a3]) zkX8_cost pm_q8 (by decide) tw_1157 tw_1158 tw_1159 dL_cost_7 rfl rfl (Nat.le_of_ble_eq_true rfl) hb9 hc9) (kcX8_cost (d := d + 0) hfl a0 a1 a2 a3 m) ?_ (fun x2 m1 => ?_)
  · intro k9 m9
    by_cases e0 : k9 = 0
    · subst e0
      refine Or.inr ⟨[], [(0, 12, 19, 13)], 0, 12, 15, 31, 5, 2, rfl, (by intro q hq; cases hq), by decide, by decide, by decide, tw_1091, tw_1103, Or.inl ⟨rfl, dL_cost_15⟩, Nat.le_of_ble_eq_true rfl, rfl, ?_⟩
      refine pm_eqls (ls2 := [.ref a0, .int a1, .int a2, .int a3, .ref a4, pmU]) rfl ?_
      rw [if_pos rfl]
      refine pm_iconst (v := 1) dL_cost_17 ki_1 ?_
      exact pm_iret rfl dL_cost_18
    by_cases e1 : k9 = 1
    · subst e1
      refine Or.inr ⟨[(0, 12, 15, 31)], [], 0, 12, 19, 13, 5, 2, rfl, (by intro q hq; rw [List.mem_singleton.mp hq]; exact ⟨rfl, by decide, tw_1091⟩), by decide, by decide, by decide, tw_675, tw_690, Or.inl ⟨rfl, dL_cost_19⟩, Nat.le_of_ble_eq_true rfl, rfl, ?_⟩
      refine pm_eqls (ls2 := [.ref a0, .int a1, .int a2, .int a3, .ref a4, pmU]) rfl ?_
      rw [if_neg (by decide)]
      rw [if_pos rfl]
      refine pm_iconst (v := 2) dL_cost_21 ki_2 ?_
      exact pm_iret rfl dL_cost_22
    exact Or.inl (by simp [e0, e1])
  refine pm_i2l dL_cost_10 ?_
  refine pm_last (y := zL_cost) dL_cost_11 (fun m3 => ?_)
  refine pm_goto (tgt := 23) dL_cost_12 rfl ?_
  refine pm_iconst (v := 0) dL_cost_23 ki_0 ?_
  exact pm_iret rfl dL_cost_24
-- StruckPageLaw.would(LStruckPage;IIIIIII[J)I
def L_would (a0 : Nat) (a1 : Int32) (a2 : Int32) (a3 : Int32) (a4 : Int32) (a5 : Int32) (a6 : Int32) (a7 : Int32) (a8 : Nat) (m : pmM) : pmR := pm_rc 8 a0 m <| pm_cIH (X8_would a0 a1 a2 a3 a4 a5 a6 a7 m) (h := fun k9 m9 => if k9 = 1 then (pm_oI 1 m9) else none) fun x2 m1 => pm_stL a8 0 x2.toInt64 m1 fun m3 => pm_oI 0 m3
set_option maxRecDepth 100000 in
set_option maxHeartbeats 4000000 in
theorem kcL_would (hfl : l.flags = flags0) (a0 : Nat) (a1 : Int32) (a2 : Int32) (a3 : Int32) (a4 : Int32) (a5 : Int32) (a6 : Int32) (a7 : Int32) (a8 : Nat) (m : pmM) : pm_C l Γ zL_would (d + 3) [.ref a0, .int a1, .int a2, .int a3, .int a4, .int a5, .int a6, .int a7, .ref a8] m (L_would a0 a1 a2 a3 a4 a5 a6 a7 a8 m) := by
  refine pm_enterH (ls := [.ref a0, .int a1, .int a2, .int a3, .int a4, .int a5, .int a6, .int a7, .ref a8, pmU]) hfl (by decide +kernel) (by decide) (Nat.le_of_ble_eq_true rfl) rfl (Nat.le_of_ble_eq_true rfl) ?_
  unfold L_would
  refine pm_aload dL_would_0 rfl ?_
  refine pm_iconst (v := 0) dL_would_2 ki_0 ?_
  refine pm_aload_n dL_would_3 rfl rfl ?_
  refine pm_iload_n dL_would_4 rfl rfl ?_
  refine pm_iload_n dL_would_5 rfl rfl ?_
  refine pm_iload_n dL_would_6 rfl rfl ?_
  refine pm_iload dL_would_7 rfl ?_
  refine pm_iload dL_would_9 rfl ?_
  refine pm_iload dL_would_11 rfl ?_
  refine pm_iload dL_would_13 rfl ?_
  refine pm_rcv (fun hb9 hc9 => ?_)
  refine pm_kIH (d := d + 2) (pm_V (y := zL_would) (z := zX8_would) (As := [.int a1, .int a2, .int a3, .int a4, .int a5, .int a6, .int a7]) zkX8_would pm_q8 (by decide) tw_1165 tw_1166 tw_1167 dL_would_15 rfl rfl (Nat.le_of_ble_eq_true rfl) hb9 hc9) (kcX8_would (d := d + 0) hfl a0 a1 a2 a3 a4 a5 a6 a7 m) ?_ (fun x2 m1 => ?_)
  · intro k9 m9
    by_cases e1 : k9 = 1
    · subst e1
      refine Or.inr ⟨[], [], 0, 20, 23, 13, 9, 2, rfl, (by intro q hq; cases hq), by decide, by decide, by decide, tw_675, tw_690, Or.inl ⟨rfl, dL_would_23⟩, Nat.le_of_ble_eq_true rfl, rfl, ?_⟩
      refine pm_eqls (ls2 := [.ref a0, .int a1, .int a2, .int a3, .int a4, .int a5, .int a6, .int a7, .ref a8, pmU]) rfl ?_
      rw [if_pos rfl]
      refine pm_iconst (v := 1) dL_would_25 ki_1 ?_
      exact pm_iret rfl dL_would_26
    exact Or.inl (by simp [e1])
  refine pm_i2l dL_would_18 ?_
  refine pm_last (y := zL_would) dL_would_19 (fun m3 => ?_)
  refine pm_goto (tgt := 27) dL_would_20 rfl ?_
  refine pm_iconst (v := 0) dL_would_27 ki_0 ?_
  exact pm_iret rfl dL_would_28
-- StruckPageLaw.ahead(LStruckPage;II[J)I
def L_ahead (a0 : Nat) (a1 : Int32) (a2 : Int32) (a3 : Nat) (m : pmM) : pmR := pm_rc 8 a0 m <| pm_cIH (X8_ahead a0 a1 a2 m) (h := fun k9 m9 => if k9 = 1 then (pm_oI 1 m9) else none) fun x2 m1 => pm_stL a3 0 x2.toInt64 m1 fun m3 => pm_oI 0 m3
set_option maxRecDepth 100000 in
set_option maxHeartbeats 4000000 in
theorem kcL_ahead (hfl : l.flags = flags0) (a0 : Nat) (a1 : Int32) (a2 : Int32) (a3 : Nat) (m : pmM) : pm_C l Γ zL_ahead (d + 5) [.ref a0, .int a1, .int a2, .ref a3] m (L_ahead a0 a1 a2 a3 m) := by
  refine pm_enterH (ls := [.ref a0, .int a1, .int a2, .ref a3, pmU]) hfl (by decide +kernel) (by decide) (Nat.le_of_ble_eq_true rfl) rfl (Nat.le_of_ble_eq_true rfl) ?_
  unfold L_ahead
  refine pm_aload_n dL_ahead_0 rfl rfl ?_
  refine pm_iconst (v := 0) dL_ahead_1 ki_0 ?_
  refine pm_aload_n dL_ahead_2 rfl rfl ?_
  refine pm_iload_n dL_ahead_3 rfl rfl ?_
  refine pm_iload_n dL_ahead_4 rfl rfl ?_
  refine pm_rcv (fun hb9 hc9 => ?_)
  refine pm_kIH (d := d + 4) (pm_V (y := zL_ahead) (z := zX8_ahead) (As := [.int a1, .int a2]) zkX8_ahead pm_q8 (by decide) tw_1173 tw_1174 tw_1175 dL_ahead_5 rfl rfl (Nat.le_of_ble_eq_true rfl) hb9 hc9) (kcX8_ahead (d := d + 0) hfl a0 a1 a2 m) ?_ (fun x2 m1 => ?_)
  · intro k9 m9
    by_cases e1 : k9 = 1
    · subst e1
      refine Or.inr ⟨[], [], 0, 10, 13, 13, 4, 2, rfl, (by intro q hq; cases hq), by decide, by decide, by decide, tw_675, tw_690, Or.inl ⟨rfl, dL_ahead_13⟩, Nat.le_of_ble_eq_true rfl, rfl, ?_⟩
      refine pm_eqls (ls2 := [.ref a0, .int a1, .int a2, .ref a3, pmU]) rfl ?_
      rw [if_pos rfl]
      refine pm_iconst (v := 1) dL_ahead_15 ki_1 ?_
      exact pm_iret rfl dL_ahead_16
    exact Or.inl (by simp [e1])
  refine pm_i2l dL_ahead_8 ?_
  refine pm_last (y := zL_ahead) dL_ahead_9 (fun m3 => ?_)
  refine pm_goto (tgt := 17) dL_ahead_10 rfl ?_
  refine pm_iconst (v := 0) dL_ahead_17 ki_0 ?_
  exact pm_iret rfl dL_ahead_18
-- StruckPageLaw.unlike(LStruckPage;I[J)I
def L_unlike (a0 : Nat) (a1 : Int32) (a2 : Nat) (m : pmM) : pmR := pm_rc 8 a0 m <| pm_cLH (X8_unlike a0 a1 m) (h := fun k9 m9 => if k9 = 1 then (pm_oI 1 m9) else none) fun x2 m1 => pm_stL a2 0 x2 m1 fun m3 => pm_oI 0 m3
set_option maxRecDepth 100000 in
set_option maxHeartbeats 4000000 in
theorem kcL_unlike (hfl : l.flags = flags0) (a0 : Nat) (a1 : Int32) (a2 : Nat) (m : pmM) : pm_C l Γ zL_unlike (d + 3) [.ref a0, .int a1, .ref a2] m (L_unlike a0 a1 a2 m) := by
  refine pm_enterH (ls := [.ref a0, .int a1, .ref a2, pmU]) hfl (by decide +kernel) (by decide) (Nat.le_of_ble_eq_true rfl) rfl (Nat.le_of_ble_eq_true rfl) ?_
  unfold L_unlike
  refine pm_aload_n dL_unlike_0 rfl rfl ?_
  refine pm_iconst (v := 0) dL_unlike_1 ki_0 ?_
  refine pm_aload_n dL_unlike_2 rfl rfl ?_
  refine pm_iload_n dL_unlike_3 rfl rfl ?_
  refine pm_rcv (fun hb9 hc9 => ?_)
  refine pm_kLH (d := d + 2) (pm_V (y := zL_unlike) (z := zX8_unlike) (As := [.int a1]) zkX8_unlike pm_q8 (by decide) tw_1181 tw_1182 tw_1183 dL_unlike_4 rfl rfl (Nat.le_of_ble_eq_true rfl) hb9 hc9) (kcX8_unlike (d := d + 0) hfl a0 a1 m) ?_ (fun x2 m1 => ?_)
  · intro k9 m9
    by_cases e1 : k9 = 1
    · subst e1
      refine Or.inr ⟨[], [], 0, 8, 11, 13, 3, 1, rfl, (by intro q hq; cases hq), by decide, by decide, by decide, tw_675, tw_690, Or.inr ⟨rfl, 3, rfl, dL_unlike_11⟩, Nat.le_of_ble_eq_true rfl, rfl, ?_⟩
      refine pm_eqls (ls2 := [.ref a0, .int a1, .ref a2, pmU]) rfl ?_
      rw [if_pos rfl]
      refine pm_iconst (v := 1) dL_unlike_12 ki_1 ?_
      exact pm_iret rfl dL_unlike_13
    exact Or.inl (by simp [e1])
  refine pm_last (y := zL_unlike) dL_unlike_7 (fun m3 => ?_)
  refine pm_goto (tgt := 14) dL_unlike_8 rfl ?_
  refine pm_iconst (v := 0) dL_unlike_14 ki_0 ?_
  exact pm_iret rfl dL_unlike_15
-- StruckPageLaw.forged(LStruckPage;I[J)I
def L_forged (a0 : Nat) (a1 : Int32) (a2 : Nat) (m : pmM) : pmR := pm_rc 8 a0 m <| pm_cIH (X8_forged a0 a1 m) (h := fun k9 m9 => if k9 = 1 then (pm_oI 1 m9) else none) fun x2 m1 => pm_stL a2 0 x2.toInt64 m1 fun m3 => pm_oI 0 m3
set_option maxRecDepth 100000 in
set_option maxHeartbeats 4000000 in
theorem kcL_forged (hfl : l.flags = flags0) (a0 : Nat) (a1 : Int32) (a2 : Nat) (m : pmM) : pm_C l Γ zL_forged (d + 5) [.ref a0, .int a1, .ref a2] m (L_forged a0 a1 a2 m) := by
  refine pm_enterH (ls := [.ref a0, .int a1, .ref a2, pmU]) hfl (by decide +kernel) (by decide) (Nat.le_of_ble_eq_true rfl) rfl (Nat.le_of_ble_eq_true rfl) ?_
  unfold L_forged
  refine pm_aload_n dL_forged_0 rfl rfl ?_
  refine pm_iconst (v := 0) dL_forged_1 ki_0 ?_
  refine pm_aload_n dL_forged_2 rfl rfl ?_
  refine pm_iload_n dL_forged_3 rfl rfl ?_
  refine pm_rcv (fun hb9 hc9 => ?_)
  refine pm_kIH (d := d + 4) (pm_V (y := zL_forged) (z := zX8_forged) (As := [.int a1]) zkX8_forged pm_q8 (by decide) tw_1196 tw_1197 tw_1198 dL_forged_4 rfl rfl (Nat.le_of_ble_eq_true rfl) hb9 hc9) (kcX8_forged (d := d + 0) hfl a0 a1 m) ?_ (fun x2 m1 => ?_)
  · intro k9 m9
    by_cases e1 : k9 = 1
    · subst e1
      refine Or.inr ⟨[], [], 0, 9, 12, 13, 3, 1, rfl, (by intro q hq; cases hq), by decide, by decide, by decide, tw_675, tw_690, Or.inr ⟨rfl, 3, rfl, dL_forged_12⟩, Nat.le_of_ble_eq_true rfl, rfl, ?_⟩
      refine pm_eqls (ls2 := [.ref a0, .int a1, .ref a2, pmU]) rfl ?_
      rw [if_pos rfl]
      refine pm_iconst (v := 1) dL_forged_13 ki_1 ?_
      exact pm_iret rfl dL_forged_14
    exact Or.inl (by simp [e1])
  refine pm_i2l dL_forged_7 ?_
  refine pm_last (y := zL_forged) dL_forged_8 (fun m3 => ?_)
  refine pm_goto (tgt := 15) dL_forged_9 rfl ?_
  refine pm_iconst (v := 0) dL_forged_15 ki_0 ?_
  exact pm_iret rfl dL_forged_16
-- StruckPageLaw.value(LStruckPage;I[J)I
def L_value (a0 : Nat) (a1 : Int32) (a2 : Nat) (m : pmM) : pmR := pm_rc 8 a0 m <| pm_cIH (X8_value a0 a1 m) (h := fun k9 m9 => if k9 = 0 then (pm_oI 1 m9) else none) fun x2 m1 => pm_stL a2 0 x2.toInt64 m1 fun m3 => pm_oI 0 m3
set_option maxRecDepth 100000 in
set_option maxHeartbeats 4000000 in
theorem kcL_value (hfl : l.flags = flags0) (a0 : Nat) (a1 : Int32) (a2 : Nat) (m : pmM) : pm_C l Γ zL_value (d + 3) [.ref a0, .int a1, .ref a2] m (L_value a0 a1 a2 m) := by
  refine pm_enterH (ls := [.ref a0, .int a1, .ref a2, pmU]) hfl (by decide +kernel) (by decide) (Nat.le_of_ble_eq_true rfl) rfl (Nat.le_of_ble_eq_true rfl) ?_
  unfold L_value
  refine pm_aload_n dL_value_0 rfl rfl ?_
  refine pm_iconst (v := 0) dL_value_1 ki_0 ?_
  refine pm_aload_n dL_value_2 rfl rfl ?_
  refine pm_iload_n dL_value_3 rfl rfl ?_
  refine pm_rcv (fun hb9 hc9 => ?_)
  refine pm_kIH (d := d + 2) (pm_V (y := zL_value) (z := zX8_value) (As := [.int a1]) zkX8_value pm_q8 (by decide) tw_1212 tw_1213 tw_1214 dL_value_4 rfl rfl (Nat.le_of_ble_eq_true rfl) hb9 hc9) (kcX8_value (d := d + 0) hfl a0 a1 m) ?_ (fun x2 m1 => ?_)
  · intro k9 m9
    by_cases e0 : k9 = 0
    · subst e0
      refine Or.inr ⟨[], [], 0, 9, 12, 31, 3, 1, rfl, (by intro q hq; cases hq), by decide, by decide, by decide, tw_1091, tw_1103, Or.inr ⟨rfl, 3, rfl, dL_value_12⟩, Nat.le_of_ble_eq_true rfl, rfl, ?_⟩
      refine pm_eqls (ls2 := [.ref a0, .int a1, .ref a2, pmU]) rfl ?_
      rw [if_pos rfl]
      refine pm_iconst (v := 1) dL_value_13 ki_1 ?_
      exact pm_iret rfl dL_value_14
    exact Or.inl (by simp [e0])
  refine pm_i2l dL_value_7 ?_
  refine pm_last (y := zL_value) dL_value_8 (fun m3 => ?_)
  refine pm_goto (tgt := 15) dL_value_9 rfl ?_
  refine pm_iconst (v := 0) dL_value_15 ki_0 ?_
  exact pm_iret rfl dL_value_16
-- StruckPageLaw.argument(LStruckPage;II[J)I
def L_argument (a0 : Nat) (a1 : Int32) (a2 : Int32) (a3 : Nat) (m : pmM) : pmR := pm_rc 8 a0 m <| pm_cIH (X8_argument a0 a1 a2 m) (h := fun k9 m9 => if k9 = 1 then (pm_oI 1 m9) else none) fun x2 m1 => pm_stL a3 0 x2.toInt64 m1 fun m3 => pm_oI 0 m3
set_option maxRecDepth 100000 in
set_option maxHeartbeats 4000000 in
theorem kcL_argument (hfl : l.flags = flags0) (a0 : Nat) (a1 : Int32) (a2 : Int32) (a3 : Nat) (m : pmM) : pm_C l Γ zL_argument (d + 4) [.ref a0, .int a1, .int a2, .ref a3] m (L_argument a0 a1 a2 a3 m) := by
  refine pm_enterH (ls := [.ref a0, .int a1, .int a2, .ref a3, pmU]) hfl (by decide +kernel) (by decide) (Nat.le_of_ble_eq_true rfl) rfl (Nat.le_of_ble_eq_true rfl) ?_
  unfold L_argument
  refine pm_aload_n dL_argument_0 rfl rfl ?_
  refine pm_iconst (v := 0) dL_argument_1 ki_0 ?_
  refine pm_aload_n dL_argument_2 rfl rfl ?_
  refine pm_iload_n dL_argument_3 rfl rfl ?_
  refine pm_iload_n dL_argument_4 rfl rfl ?_
  refine pm_rcv (fun hb9 hc9 => ?_)
  refine pm_kIH (d := d + 3) (pm_V (y := zL_argument) (z := zX8_argument) (As := [.int a1, .int a2]) zkX8_argument pm_q8 (by decide) tw_1225 tw_1226 tw_1227 dL_argument_5 rfl rfl (Nat.le_of_ble_eq_true rfl) hb9 hc9) (kcX8_argument (d := d + 0) hfl a0 a1 a2 m) ?_ (fun x2 m1 => ?_)
  · intro k9 m9
    by_cases e1 : k9 = 1
    · subst e1
      refine Or.inr ⟨[], [], 0, 10, 13, 13, 4, 2, rfl, (by intro q hq; cases hq), by decide, by decide, by decide, tw_675, tw_690, Or.inl ⟨rfl, dL_argument_13⟩, Nat.le_of_ble_eq_true rfl, rfl, ?_⟩
      refine pm_eqls (ls2 := [.ref a0, .int a1, .int a2, .ref a3, pmU]) rfl ?_
      rw [if_pos rfl]
      refine pm_iconst (v := 1) dL_argument_15 ki_1 ?_
      exact pm_iret rfl dL_argument_16
    exact Or.inl (by simp [e1])
  refine pm_i2l dL_argument_8 ?_
  refine pm_last (y := zL_argument) dL_argument_9 (fun m3 => ?_)
  refine pm_goto (tgt := 17) dL_argument_10 rfl ?_
  refine pm_iconst (v := 0) dL_argument_17 ki_0 ?_
  exact pm_iret rfl dL_argument_18
-- StruckPageLaw.common(LStruckPage;II[J)I
def L_common (a0 : Nat) (a1 : Int32) (a2 : Int32) (a3 : Nat) (m : pmM) : pmR := pm_rc 8 a0 m <| pm_cIH (X8_common a0 a1 a2 m) (h := fun k9 m9 => if k9 = 0 then (pm_oI 1 m9) else none) fun x2 m1 => pm_stL a3 0 x2.toInt64 m1 fun m3 => pm_oI 0 m3
set_option maxRecDepth 100000 in
set_option maxHeartbeats 4000000 in
theorem kcL_common (hfl : l.flags = flags0) (a0 : Nat) (a1 : Int32) (a2 : Int32) (a3 : Nat) (m : pmM) : pm_C l Γ zL_common (d + 5) [.ref a0, .int a1, .int a2, .ref a3] m (L_common a0 a1 a2 a3 m) := by
  refine pm_enterH (ls := [.ref a0, .int a1, .int a2, .ref a3, pmU]) hfl (by decide +kernel) (by decide) (Nat.le_of_ble_eq_true rfl) rfl (Nat.le_of_ble_eq_true rfl) ?_
  unfold L_common
  refine pm_aload_n dL_common_0 rfl rfl ?_
  refine pm_iconst (v := 0) dL_common_1 ki_0 ?_
  refine pm_aload_n dL_common_2 rfl rfl ?_
  refine pm_iload_n dL_common_3 rfl rfl ?_
  refine pm_iload_n dL_common_4 rfl rfl ?_
  refine pm_rcv (fun hb9 hc9 => ?_)
  refine pm_kIH (d := d + 4) (pm_V (y := zL_common) (z := zX8_common) (As := [.int a1, .int a2]) zkX8_common pm_q8 (by decide) tw_1240 tw_1241 tw_1242 dL_common_5 rfl rfl (Nat.le_of_ble_eq_true rfl) hb9 hc9) (kcX8_common (d := d + 0) hfl a0 a1 a2 m) ?_ (fun x2 m1 => ?_)
  · intro k9 m9
    by_cases e0 : k9 = 0
    · subst e0
      refine Or.inr ⟨[], [], 0, 10, 13, 31, 4, 2, rfl, (by intro q hq; cases hq), by decide, by decide, by decide, tw_1091, tw_1103, Or.inl ⟨rfl, dL_common_13⟩, Nat.le_of_ble_eq_true rfl, rfl, ?_⟩
      refine pm_eqls (ls2 := [.ref a0, .int a1, .int a2, .ref a3, pmU]) rfl ?_
      rw [if_pos rfl]
      refine pm_iconst (v := 1) dL_common_15 ki_1 ?_
      exact pm_iret rfl dL_common_16
    exact Or.inl (by simp [e0])
  refine pm_i2l dL_common_8 ?_
  refine pm_last (y := zL_common) dL_common_9 (fun m3 => ?_)
  refine pm_goto (tgt := 17) dL_common_10 rfl ?_
  refine pm_iconst (v := 0) dL_common_17 ki_0 ?_
  exact pm_iret rfl dL_common_18
-- StruckPageLaw.duel(LStruckPage;III[J)I
def L_duel (a0 : Nat) (a1 : Int32) (a2 : Int32) (a3 : Int32) (a4 : Nat) (m : pmM) : pmR := pm_rc 8 a0 m <| pm_cIH (X8_duel a0 a1 a2 a3 m) (h := fun k9 m9 => if k9 = 1 then (pm_oI 1 m9) else none) fun x2 m1 => pm_stL a4 0 x2.toInt64 m1 fun m3 => pm_oI 0 m3
set_option maxRecDepth 100000 in
set_option maxHeartbeats 4000000 in
theorem kcL_duel (hfl : l.flags = flags0) (a0 : Nat) (a1 : Int32) (a2 : Int32) (a3 : Int32) (a4 : Nat) (m : pmM) : pm_C l Γ zL_duel (d + 3) [.ref a0, .int a1, .int a2, .int a3, .ref a4] m (L_duel a0 a1 a2 a3 a4 m) := by
  refine pm_enterH (ls := [.ref a0, .int a1, .int a2, .int a3, .ref a4, pmU]) hfl (by decide +kernel) (by decide) (Nat.le_of_ble_eq_true rfl) rfl (Nat.le_of_ble_eq_true rfl) ?_
  unfold L_duel
  refine pm_aload dL_duel_0 rfl ?_
  refine pm_iconst (v := 0) dL_duel_2 ki_0 ?_
  refine pm_aload_n dL_duel_3 rfl rfl ?_
  refine pm_iload_n dL_duel_4 rfl rfl ?_
  refine pm_iload_n dL_duel_5 rfl rfl ?_
  refine pm_iload_n dL_duel_6 rfl rfl ?_
  refine pm_rcv (fun hb9 hc9 => ?_)
  refine pm_kIH (d := d + 2) (pm_V (y := zL_duel) (z := zX8_duel) (As := [.int a1, .int a2, .int a3]) zkX8_duel pm_q8 (by decide) tw_1256 tw_1257 tw_1258 dL_duel_7 rfl rfl (Nat.le_of_ble_eq_true rfl) hb9 hc9) (kcX8_duel (d := d + 0) hfl a0 a1 a2 a3 m) ?_ (fun x2 m1 => ?_)
  · intro k9 m9
    by_cases e1 : k9 = 1
    · subst e1
      refine Or.inr ⟨[], [], 0, 12, 15, 13, 5, 2, rfl, (by intro q hq; cases hq), by decide, by decide, by decide, tw_675, tw_690, Or.inl ⟨rfl, dL_duel_15⟩, Nat.le_of_ble_eq_true rfl, rfl, ?_⟩
      refine pm_eqls (ls2 := [.ref a0, .int a1, .int a2, .int a3, .ref a4, pmU]) rfl ?_
      rw [if_pos rfl]
      refine pm_iconst (v := 1) dL_duel_17 ki_1 ?_
      exact pm_iret rfl dL_duel_18
    exact Or.inl (by simp [e1])
  refine pm_i2l dL_duel_10 ?_
  refine pm_last (y := zL_duel) dL_duel_11 (fun m3 => ?_)
  refine pm_goto (tgt := 19) dL_duel_12 rfl ?_
  refine pm_iconst (v := 0) dL_duel_19 ki_0 ?_
  exact pm_iret rfl dL_duel_20
-- StruckPageLaw.chance(LStruckPage;IIII[J)I
def L_chance (a0 : Nat) (a1 : Int32) (a2 : Int32) (a3 : Int32) (a4 : Int32) (a5 : Nat) (m : pmM) : pmR := pm_rc 8 a0 m <| pm_cLH (X8_chance a0 a1 a2 a3 a4 m) (h := fun k9 m9 => if k9 = 1 then (pm_oI 1 m9) else none) fun x2 m1 => pm_stL a5 0 x2 m1 fun m3 => pm_oI 0 m3
set_option maxRecDepth 100000 in
set_option maxHeartbeats 4000000 in
theorem kcL_chance (hfl : l.flags = flags0) (a0 : Nat) (a1 : Int32) (a2 : Int32) (a3 : Int32) (a4 : Int32) (a5 : Nat) (m : pmM) : pm_C l Γ zL_chance (d + 2) [.ref a0, .int a1, .int a2, .int a3, .int a4, .ref a5] m (L_chance a0 a1 a2 a3 a4 a5 m) := by
  refine pm_enterH (ls := [.ref a0, .int a1, .int a2, .int a3, .int a4, .ref a5, pmU]) hfl (by decide +kernel) (by decide) (Nat.le_of_ble_eq_true rfl) rfl (Nat.le_of_ble_eq_true rfl) ?_
  unfold L_chance
  refine pm_aload dL_chance_0 rfl ?_
  refine pm_iconst (v := 0) dL_chance_2 ki_0 ?_
  refine pm_aload_n dL_chance_3 rfl rfl ?_
  refine pm_iload_n dL_chance_4 rfl rfl ?_
  refine pm_iload_n dL_chance_5 rfl rfl ?_
  refine pm_iload_n dL_chance_6 rfl rfl ?_
  refine pm_iload dL_chance_7 rfl ?_
  refine pm_rcv (fun hb9 hc9 => ?_)
  refine pm_kLH (d := d + 1) (pm_V (y := zL_chance) (z := zX8_chance) (As := [.int a1, .int a2, .int a3, .int a4]) zkX8_chance pm_q8 (by decide) tw_1269 tw_1270 tw_1271 dL_chance_9 rfl rfl (Nat.le_of_ble_eq_true rfl) hb9 hc9) (kcX8_chance (d := d + 0) hfl a0 a1 a2 a3 a4 m) ?_ (fun x2 m1 => ?_)
  · intro k9 m9
    by_cases e1 : k9 = 1
    · subst e1
      refine Or.inr ⟨[], [], 0, 13, 16, 13, 6, 2, rfl, (by intro q hq; cases hq), by decide, by decide, by decide, tw_675, tw_690, Or.inl ⟨rfl, dL_chance_16⟩, Nat.le_of_ble_eq_true rfl, rfl, ?_⟩
      refine pm_eqls (ls2 := [.ref a0, .int a1, .int a2, .int a3, .int a4, .ref a5, pmU]) rfl ?_
      rw [if_pos rfl]
      refine pm_iconst (v := 1) dL_chance_18 ki_1 ?_
      exact pm_iret rfl dL_chance_19
    exact Or.inl (by simp [e1])
  refine pm_last (y := zL_chance) dL_chance_12 (fun m3 => ?_)
  refine pm_goto (tgt := 20) dL_chance_13 rfl ?_
  refine pm_iconst (v := 0) dL_chance_20 ki_0 ?_
  exact pm_iret rfl dL_chance_21
-- StruckPageLaw.share(LStruckPage;III[J)I
def L_share (a0 : Nat) (a1 : Int32) (a2 : Int32) (a3 : Int32) (a4 : Nat) (m : pmM) : pmR := pm_rc 8 a0 m <| pm_cIH (X8_share a0 a1 a2 a3 m) (h := fun k9 m9 => if k9 = 0 then (pm_oI 1 m9) else if k9 = 1 then (pm_oI 2 m9) else none) fun x2 m1 => pm_stL a4 0 x2.toInt64 m1 fun m3 => pm_oI 0 m3
set_option maxRecDepth 100000 in
set_option maxHeartbeats 4000000 in
theorem kcL_share (hfl : l.flags = flags0) (a0 : Nat) (a1 : Int32) (a2 : Int32) (a3 : Int32) (a4 : Nat) (m : pmM) : pm_C l Γ zL_share (d + 4) [.ref a0, .int a1, .int a2, .int a3, .ref a4] m (L_share a0 a1 a2 a3 a4 m) := by
  refine pm_enterH (ls := [.ref a0, .int a1, .int a2, .int a3, .ref a4, pmU]) hfl (by decide +kernel) (by decide) (Nat.le_of_ble_eq_true rfl) rfl (Nat.le_of_ble_eq_true rfl) ?_
  unfold L_share
  refine pm_aload dL_share_0 rfl ?_
  refine pm_iconst (v := 0) dL_share_2 ki_0 ?_
  refine pm_aload_n dL_share_3 rfl rfl ?_
  refine pm_iload_n dL_share_4 rfl rfl ?_
  refine pm_iload_n dL_share_5 rfl rfl ?_
  refine pm_iload_n dL_share_6 rfl rfl ?_
  refine pm_rcv (fun hb9 hc9 => ?_)
  refine pm_kIH (d := d + 3) (pm_V (y := zL_share) (z := zX8_share) (As := [.int a1, .int a2, .int a3]) zkX8_share pm_q8 (by decide) tw_1280 tw_1281 tw_1282 dL_share_7 rfl rfl (Nat.le_of_ble_eq_true rfl) hb9 hc9) (kcX8_share (d := d + 0) hfl a0 a1 a2 a3 m) ?_ (fun x2 m1 => ?_)
  · intro k9 m9
    by_cases e0 : k9 = 0
    · subst e0
      refine Or.inr ⟨[], [(0, 12, 19, 13)], 0, 12, 15, 31, 5, 2, rfl, (by intro q hq; cases hq), by decide, by decide, by decide, tw_1091, tw_1103, Or.inl ⟨rfl, dL_share_15⟩, Nat.le_of_ble_eq_true rfl, rfl, ?_⟩
      refine pm_eqls (ls2 := [.ref a0, .int a1, .int a2, .int a3, .ref a4, pmU]) rfl ?_
      rw [if_pos rfl]
      refine pm_iconst (v := 1) dL_share_17 ki_1 ?_
      exact pm_iret rfl dL_share_18
    by_cases e1 : k9 = 1
    · subst e1
      refine Or.inr ⟨[(0, 12, 15, 31)], [], 0, 12, 19, 13, 5, 2, rfl, (by intro q hq; rw [List.mem_singleton.mp hq]; exact ⟨rfl, by decide, tw_1091⟩), by decide, by decide, by decide, tw_675, tw_690, Or.inl ⟨rfl, dL_share_19⟩, Nat.le_of_ble_eq_true rfl, rfl, ?_⟩
      refine pm_eqls (ls2 := [.ref a0, .int a1, .int a2, .int a3, .ref a4, pmU]) rfl ?_
      rw [if_neg (by decide)]
      rw [if_pos rfl]
      refine pm_iconst (v := 2) dL_share_21 ki_2 ?_
      exact pm_iret rfl dL_share_22
    exact Or.inl (by simp [e0, e1])
  refine pm_i2l dL_share_10 ?_
  refine pm_last (y := zL_share) dL_share_11 (fun m3 => ?_)
  refine pm_goto (tgt := 23) dL_share_12 rfl ?_
  refine pm_iconst (v := 0) dL_share_23 ki_0 ?_
  exact pm_iret rfl dL_share_24
-- StruckPageLaw.often(LStruckPage;I[J)I
def L_often (a0 : Nat) (a1 : Int32) (a2 : Nat) (m : pmM) : pmR := pm_rc 8 a0 m <| pm_cIH (X8_often a0 a1 m) (h := fun k9 m9 => if k9 = 1 then (pm_oI 1 m9) else none) fun x2 m1 => pm_stL a2 0 x2.toInt64 m1 fun m3 => pm_oI 0 m3
set_option maxRecDepth 100000 in
set_option maxHeartbeats 4000000 in
theorem kcL_often (hfl : l.flags = flags0) (a0 : Nat) (a1 : Int32) (a2 : Nat) (m : pmM) : pm_C l Γ zL_often (d + 4) [.ref a0, .int a1, .ref a2] m (L_often a0 a1 a2 m) := by
  refine pm_enterH (ls := [.ref a0, .int a1, .ref a2, pmU]) hfl (by decide +kernel) (by decide) (Nat.le_of_ble_eq_true rfl) rfl (Nat.le_of_ble_eq_true rfl) ?_
  unfold L_often
  refine pm_aload_n dL_often_0 rfl rfl ?_
  refine pm_iconst (v := 0) dL_often_1 ki_0 ?_
  refine pm_aload_n dL_often_2 rfl rfl ?_
  refine pm_iload_n dL_often_3 rfl rfl ?_
  refine pm_rcv (fun hb9 hc9 => ?_)
  refine pm_kIH (d := d + 3) (pm_V (y := zL_often) (z := zX8_often) (As := [.int a1]) zkX8_often pm_q8 (by decide) tw_1292 tw_1293 tw_1294 dL_often_4 rfl rfl (Nat.le_of_ble_eq_true rfl) hb9 hc9) (kcX8_often (d := d + 0) hfl a0 a1 m) ?_ (fun x2 m1 => ?_)
  · intro k9 m9
    by_cases e1 : k9 = 1
    · subst e1
      refine Or.inr ⟨[], [], 0, 9, 12, 13, 3, 1, rfl, (by intro q hq; cases hq), by decide, by decide, by decide, tw_675, tw_690, Or.inr ⟨rfl, 3, rfl, dL_often_12⟩, Nat.le_of_ble_eq_true rfl, rfl, ?_⟩
      refine pm_eqls (ls2 := [.ref a0, .int a1, .ref a2, pmU]) rfl ?_
      rw [if_pos rfl]
      refine pm_iconst (v := 1) dL_often_13 ki_1 ?_
      exact pm_iret rfl dL_often_14
    exact Or.inl (by simp [e1])
  refine pm_i2l dL_often_7 ?_
  refine pm_last (y := zL_often) dL_often_8 (fun m3 => ?_)
  refine pm_goto (tgt := 15) dL_often_9 rfl ?_
  refine pm_iconst (v := 0) dL_often_15 ki_0 ?_
  exact pm_iret rfl dL_often_16
-- StruckPageLaw.deeds(LStruckPage;I[J)I
def L_deeds (a0 : Nat) (a1 : Int32) (a2 : Nat) (m : pmM) : pmR := pm_rc 8 a0 m <| pm_cIH (X8_deeds a0 a1 m) (h := fun k9 m9 => if k9 = 1 then (pm_oI 1 m9) else none) fun x2 m1 => pm_stL a2 0 x2.toInt64 m1 fun m3 => pm_oI 0 m3
set_option maxRecDepth 100000 in
set_option maxHeartbeats 4000000 in
theorem kcL_deeds (hfl : l.flags = flags0) (a0 : Nat) (a1 : Int32) (a2 : Nat) (m : pmM) : pm_C l Γ zL_deeds (d + 4) [.ref a0, .int a1, .ref a2] m (L_deeds a0 a1 a2 m) := by
  refine pm_enterH (ls := [.ref a0, .int a1, .ref a2, pmU]) hfl (by decide +kernel) (by decide) (Nat.le_of_ble_eq_true rfl) rfl (Nat.le_of_ble_eq_true rfl) ?_
  unfold L_deeds
  refine pm_aload_n dL_deeds_0 rfl rfl ?_
  refine pm_iconst (v := 0) dL_deeds_1 ki_0 ?_
  refine pm_aload_n dL_deeds_2 rfl rfl ?_
  refine pm_iload_n dL_deeds_3 rfl rfl ?_
  refine pm_rcv (fun hb9 hc9 => ?_)
  refine pm_kIH (d := d + 3) (pm_V (y := zL_deeds) (z := zX8_deeds) (As := [.int a1]) zkX8_deeds pm_q8 (by decide) tw_1303 tw_1304 tw_1305 dL_deeds_4 rfl rfl (Nat.le_of_ble_eq_true rfl) hb9 hc9) (kcX8_deeds (d := d + 0) hfl a0 a1 m) ?_ (fun x2 m1 => ?_)
  · intro k9 m9
    by_cases e1 : k9 = 1
    · subst e1
      refine Or.inr ⟨[], [], 0, 9, 12, 13, 3, 1, rfl, (by intro q hq; cases hq), by decide, by decide, by decide, tw_675, tw_690, Or.inr ⟨rfl, 3, rfl, dL_deeds_12⟩, Nat.le_of_ble_eq_true rfl, rfl, ?_⟩
      refine pm_eqls (ls2 := [.ref a0, .int a1, .ref a2, pmU]) rfl ?_
      rw [if_pos rfl]
      refine pm_iconst (v := 1) dL_deeds_13 ki_1 ?_
      exact pm_iret rfl dL_deeds_14
    exact Or.inl (by simp [e1])
  refine pm_i2l dL_deeds_7 ?_
  refine pm_last (y := zL_deeds) dL_deeds_8 (fun m3 => ?_)
  refine pm_goto (tgt := 15) dL_deeds_9 rfl ?_
  refine pm_iconst (v := 0) dL_deeds_15 ki_0 ?_
  exact pm_iret rfl dL_deeds_16
-- StruckPageLaw.longest(LStruckPage;I[J)I
def L_longest (a0 : Nat) (a1 : Int32) (a2 : Nat) (m : pmM) : pmR := pm_rc 8 a0 m <| pm_cIH (X8_longest a0 a1 m) (h := fun k9 m9 => if k9 = 1 then (pm_oI 1 m9) else none) fun x2 m1 => pm_stL a2 0 x2.toInt64 m1 fun m3 => pm_oI 0 m3
set_option maxRecDepth 100000 in
set_option maxHeartbeats 4000000 in
theorem kcL_longest (hfl : l.flags = flags0) (a0 : Nat) (a1 : Int32) (a2 : Nat) (m : pmM) : pm_C l Γ zL_longest (d + 3) [.ref a0, .int a1, .ref a2] m (L_longest a0 a1 a2 m) := by
  refine pm_enterH (ls := [.ref a0, .int a1, .ref a2, pmU]) hfl (by decide +kernel) (by decide) (Nat.le_of_ble_eq_true rfl) rfl (Nat.le_of_ble_eq_true rfl) ?_
  unfold L_longest
  refine pm_aload_n dL_longest_0 rfl rfl ?_
  refine pm_iconst (v := 0) dL_longest_1 ki_0 ?_
  refine pm_aload_n dL_longest_2 rfl rfl ?_
  refine pm_iload_n dL_longest_3 rfl rfl ?_
  refine pm_rcv (fun hb9 hc9 => ?_)
  refine pm_kIH (d := d + 2) (pm_V (y := zL_longest) (z := zX8_longest) (As := [.int a1]) zkX8_longest pm_q8 (by decide) tw_1310 tw_1311 tw_1312 dL_longest_4 rfl rfl (Nat.le_of_ble_eq_true rfl) hb9 hc9) (kcX8_longest (d := d + 0) hfl a0 a1 m) ?_ (fun x2 m1 => ?_)
  · intro k9 m9
    by_cases e1 : k9 = 1
    · subst e1
      refine Or.inr ⟨[], [], 0, 9, 12, 13, 3, 1, rfl, (by intro q hq; cases hq), by decide, by decide, by decide, tw_675, tw_690, Or.inr ⟨rfl, 3, rfl, dL_longest_12⟩, Nat.le_of_ble_eq_true rfl, rfl, ?_⟩
      refine pm_eqls (ls2 := [.ref a0, .int a1, .ref a2, pmU]) rfl ?_
      rw [if_pos rfl]
      refine pm_iconst (v := 1) dL_longest_13 ki_1 ?_
      exact pm_iret rfl dL_longest_14
    exact Or.inl (by simp [e1])
  refine pm_i2l dL_longest_7 ?_
  refine pm_last (y := zL_longest) dL_longest_8 (fun m3 => ?_)
  refine pm_goto (tgt := 15) dL_longest_9 rfl ?_
  refine pm_iconst (v := 0) dL_longest_15 ki_0 ?_
  exact pm_iret rfl dL_longest_16
-- StruckPageLaw.hand(LStruckPage;IIII[J)I
def L_hand (a0 : Nat) (a1 : Int32) (a2 : Int32) (a3 : Int32) (a4 : Int32) (a5 : Nat) (m : pmM) : pmR := pm_rc 8 a0 m <| pm_cIH (X8_hand a0 a1 a2 a3 a4 m) (h := fun k9 m9 => if k9 = 1 then (pm_oI 1 m9) else none) fun x2 m1 => pm_stL a5 0 x2.toInt64 m1 fun m3 => pm_oI 0 m3
set_option maxRecDepth 100000 in
set_option maxHeartbeats 4000000 in
theorem kcL_hand (hfl : l.flags = flags0) (a0 : Nat) (a1 : Int32) (a2 : Int32) (a3 : Int32) (a4 : Int32) (a5 : Nat) (m : pmM) : pm_C l Γ zL_hand (d + 6) [.ref a0, .int a1, .int a2, .int a3, .int a4, .ref a5] m (L_hand a0 a1 a2 a3 a4 a5 m) := by
  refine pm_enterH (ls := [.ref a0, .int a1, .int a2, .int a3, .int a4, .ref a5, pmU]) hfl (by decide +kernel) (by decide) (Nat.le_of_ble_eq_true rfl) rfl (Nat.le_of_ble_eq_true rfl) ?_
  unfold L_hand
  refine pm_aload dL_hand_0 rfl ?_
  refine pm_iconst (v := 0) dL_hand_2 ki_0 ?_
  refine pm_aload_n dL_hand_3 rfl rfl ?_
  refine pm_iload_n dL_hand_4 rfl rfl ?_
  refine pm_iload_n dL_hand_5 rfl rfl ?_
  refine pm_iload_n dL_hand_6 rfl rfl ?_
  refine pm_iload dL_hand_7 rfl ?_
  refine pm_rcv (fun hb9 hc9 => ?_)
  refine pm_kIH (d := d + 5) (pm_V (y := zL_hand) (z := zX8_hand) (As := [.int a1, .int a2, .int a3, .int a4]) zkX8_hand pm_q8 (by decide) tw_1317 tw_1318 tw_1319 dL_hand_9 rfl rfl (Nat.le_of_ble_eq_true rfl) hb9 hc9) (kcX8_hand (d := d + 0) hfl a0 a1 a2 a3 a4 m) ?_ (fun x2 m1 => ?_)
  · intro k9 m9
    by_cases e1 : k9 = 1
    · subst e1
      refine Or.inr ⟨[], [], 0, 14, 17, 13, 6, 2, rfl, (by intro q hq; cases hq), by decide, by decide, by decide, tw_675, tw_690, Or.inl ⟨rfl, dL_hand_17⟩, Nat.le_of_ble_eq_true rfl, rfl, ?_⟩
      refine pm_eqls (ls2 := [.ref a0, .int a1, .int a2, .int a3, .int a4, .ref a5, pmU]) rfl ?_
      rw [if_pos rfl]
      refine pm_iconst (v := 1) dL_hand_19 ki_1 ?_
      exact pm_iret rfl dL_hand_20
    exact Or.inl (by simp [e1])
  refine pm_i2l dL_hand_12 ?_
  refine pm_last (y := zL_hand) dL_hand_13 (fun m3 => ?_)
  refine pm_goto (tgt := 21) dL_hand_14 rfl ?_
  refine pm_iconst (v := 0) dL_hand_21 ki_0 ?_
  exact pm_iret rfl dL_hand_22
-- StruckPageLaw.span(LStruckPage;IIIIII[J)I
def L_span (a0 : Nat) (a1 : Int32) (a2 : Int32) (a3 : Int32) (a4 : Int32) (a5 : Int32) (a6 : Int32) (a7 : Nat) (m : pmM) : pmR := pm_rc 8 a0 m <| pm_cIH (X8_span a0 a1 a2 a3 a4 a5 a6 m) (h := fun k9 m9 => if k9 = 1 then (pm_oI 1 m9) else none) fun x2 m1 => pm_stL a7 0 x2.toInt64 m1 fun m3 => pm_oI 0 m3
set_option maxRecDepth 100000 in
set_option maxHeartbeats 4000000 in
theorem kcL_span (hfl : l.flags = flags0) (a0 : Nat) (a1 : Int32) (a2 : Int32) (a3 : Int32) (a4 : Int32) (a5 : Int32) (a6 : Int32) (a7 : Nat) (m : pmM) : pm_C l Γ zL_span (d + 6) [.ref a0, .int a1, .int a2, .int a3, .int a4, .int a5, .int a6, .ref a7] m (L_span a0 a1 a2 a3 a4 a5 a6 a7 m) := by
  refine pm_enterH (ls := [.ref a0, .int a1, .int a2, .int a3, .int a4, .int a5, .int a6, .ref a7, pmU]) hfl (by decide +kernel) (by decide) (Nat.le_of_ble_eq_true rfl) rfl (Nat.le_of_ble_eq_true rfl) ?_
  unfold L_span
  refine pm_aload dL_span_0 rfl ?_
  refine pm_iconst (v := 0) dL_span_2 ki_0 ?_
  refine pm_aload_n dL_span_3 rfl rfl ?_
  refine pm_iload_n dL_span_4 rfl rfl ?_
  refine pm_iload_n dL_span_5 rfl rfl ?_
  refine pm_iload_n dL_span_6 rfl rfl ?_
  refine pm_iload dL_span_7 rfl ?_
  refine pm_iload dL_span_9 rfl ?_
  refine pm_iload dL_span_11 rfl ?_
  refine pm_rcv (fun hb9 hc9 => ?_)
  refine pm_kIH (d := d + 5) (pm_V (y := zL_span) (z := zX8_span) (As := [.int a1, .int a2, .int a3, .int a4, .int a5, .int a6]) zkX8_span pm_q8 (by decide) tw_1340 tw_1341 tw_1342 dL_span_13 rfl rfl (Nat.le_of_ble_eq_true rfl) hb9 hc9) (kcX8_span (d := d + 0) hfl a0 a1 a2 a3 a4 a5 a6 m) ?_ (fun x2 m1 => ?_)
  · intro k9 m9
    by_cases e1 : k9 = 1
    · subst e1
      refine Or.inr ⟨[], [], 0, 18, 21, 13, 8, 2, rfl, (by intro q hq; cases hq), by decide, by decide, by decide, tw_675, tw_690, Or.inl ⟨rfl, dL_span_21⟩, Nat.le_of_ble_eq_true rfl, rfl, ?_⟩
      refine pm_eqls (ls2 := [.ref a0, .int a1, .int a2, .int a3, .int a4, .int a5, .int a6, .ref a7, pmU]) rfl ?_
      rw [if_pos rfl]
      refine pm_iconst (v := 1) dL_span_23 ki_1 ?_
      exact pm_iret rfl dL_span_24
    exact Or.inl (by simp [e1])
  refine pm_i2l dL_span_16 ?_
  refine pm_last (y := zL_span) dL_span_17 (fun m3 => ?_)
  refine pm_goto (tgt := 25) dL_span_18 rfl ?_
  refine pm_iconst (v := 0) dL_span_25 ki_0 ?_
  exact pm_iret rfl dL_span_26
end GEN29
