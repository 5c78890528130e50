section GEN15
variable {l : Launch} {Γ : pmG} {d : Nat}
-- StruckPageModel.<init>()V
abbrev zX9_init : pmY := (⟨"StruckPageModel", "<init>", "()V"⟩, cX9_init, 1, none, [])
def X9_init (a0 : Nat) (m : pmM) : pmR := pm_pI 9 a0 3 (-1) m fun m1 => pm_na 100 600 m1 fun r2 m3 => pm_pR 9 a0 9 r2 m3 fun m4 => pm_na 100 2 m4 fun r5 m6 => pm_pR 9 a0 10 r5 m6 fun m7 => pm_na 100 4 m7 fun r8 m9 => pm_pR 9 a0 14 r8 m9 fun m10 => pm_na 100 6 m10 fun r11 m12 => pm_pR 9 a0 15 r11 m12 fun m13 => pm_na 100 6 m13 fun r14 m15 => pm_pR 9 a0 16 r14 m15 fun m16 => pm_nm 103 100 6 8 m16 fun r17 m18 => pm_pR 9 a0 17 r17 m18 fun m19 => pm_nm 103 100 6 8 m19 fun r20 m21 => pm_pR 9 a0 18 r20 m21 fun m22 => pm_nm 103 100 160 2 m22 fun r23 m24 => pm_pR 9 a0 21 r23 m24 fun m25 => pm_nm 103 100 160 2 m25 fun r26 m27 => pm_pR 9 a0 22 r26 m27 fun m28 => pm_na 100 160 m28 fun r29 m30 => pm_pR 9 a0 23 r29 m30 fun m31 => pm_na 100 7 m31 fun r32 m33 => pm_pR 9 a0 24 r32 m33 fun m34 => pm_na 100 12 m34 fun r35 m36 => pm_pR 9 a0 25 r35 m36 fun m37 => pm_na 100 12 m37 fun r38 m39 => pm_pR 9 a0 26 r38 m39 fun m40 => pm_nm 103 100 80 5 m40 fun r41 m42 => pm_pR 9 a0 27 r41 m42 fun m43 => pm_na 100 14 m43 fun r44 m45 => pm_pR 9 a0 29 r44 m45 fun m46 => pm_na 100 14 m46 fun r47 m48 => pm_pR 9 a0 30 r47 m48 fun m49 => pm_nm 103 100 16 14 m49 fun r50 m51 => pm_pR 9 a0 31 r50 m51 fun m52 => pm_nm 103 100 3 239 m52 fun r53 m54 => pm_pR 9 a0 32 r53 m54 fun m55 => pm_na 100 48 m55 fun r56 m57 => pm_pR 9 a0 40 r56 m57 fun m58 => pm_na 100 48 m58 fun r59 m60 => pm_pR 9 a0 41 r59 m60 fun m61 => pm_na 100 48 m61 fun r62 m63 => pm_pR 9 a0 42 r62 m63 fun m64 => pm_na 100 26 m64 fun r65 m66 => pm_pR 9 a0 43 r65 m66 fun m67 => pm_na 100 26 m67 fun r68 m69 => pm_pR 9 a0 44 r68 m69 fun m70 => pm_na 102 26 m70 fun r71 m72 => pm_pR 9 a0 45 r71 m72 fun m73 => pm_na 102 26 m73 fun r74 m75 => pm_pR 9 a0 46 r74 m75 fun m76 => pm_na 102 13 m76 fun r77 m78 => pm_pR 9 a0 47 r77 m78 fun m79 => pm_nm 104 102 13 16 m79 fun r80 m81 => pm_pR 9 a0 48 r80 m81 fun m82 => pm_na 100 9 m82 fun r83 m84 => pm_pR 9 a0 49 r83 m84 fun m85 => pm_na 101 16 m85 fun r86 m87 => pm_pR 9 a0 50 r86 m87 fun m88 => pm_nm 103 100 9 9 m88 fun r89 m90 => pm_pR 9 a0 51 r89 m90 fun m91 => pm_na 102 14 m91 fun r92 m93 => pm_pR 9 a0 52 r92 m93 fun m94 => pm_na 100 16 m94 fun r95 m96 => pm_pR 9 a0 53 r95 m96 fun m97 => pm_rc 9 a0 m97 <| pm_cV (X9_tellsNothing a0 m97) fun m98 => pm_rc 9 a0 m98 <| pm_cV (X9_beginsAnew a0 m98) fun m99 => pm_oV m99
theorem zkX9_init : pm_zOk zX9_init 0 := ⟨rfl, tw_1360, tw_168, by decide +kernel, by decide⟩
set_option maxRecDepth 100000 in
set_option maxHeartbeats 4000000 in
theorem kcX9_init (hfl : l.flags = flags0) (a0 : Nat) (m : pmM) : pm_C l Γ zX9_init (d + 2) [.ref a0] m (X9_init a0 m) := by
  refine pm_enter (ls := [.ref a0]) hfl (by decide +kernel) rfl (Nat.le_of_ble_eq_true rfl) rfl (Nat.le_of_ble_eq_true rfl) ?_
  unfold X9_init
  refine pm_aload_n dX9_init_0 rfl rfl ?_
  refine pm_oinit (y := zX9_init) tw_1361 tw_186 tw_187 dX9_init_1 (Nat.le_of_ble_eq_true rfl) ?_
  refine pm_aload_n dX9_init_4 rfl rfl ?_
  refine pm_iconst (v := (-1)) dX9_init_5 ki_n1 ?_
  refine fp_9_3 (y := zX9_init) (Or.inl tw_1380) dX9_init_6 (fun m1 => ?_)
  refine pm_aload_n dX9_init_9 rfl rfl ?_
  refine pm_sipush (v := 600) dX9_init_10 ks_600 ?_
  refine pm_newa (y := zX9_init) (atype := .int) (kd := 100) (by decide) tw_232 dX9_init_13 (fun r2 m3 => ?_)
  refine fp_9_9 (y := zX9_init) ⟨tw_1386, rfl⟩ dX9_init_15 (fun m4 => ?_)
  refine pm_aload_n dX9_init_18 rfl rfl ?_
  refine pm_iconst (v := 2) dX9_init_19 ki_2 ?_
  refine pm_newa (y := zX9_init) (atype := .int) (kd := 100) (by decide) tw_232 dX9_init_20 (fun r5 m6 => ?_)
  refine fp_9_10 (y := zX9_init) ⟨tw_1387, rfl⟩ dX9_init_22 (fun m7 => ?_)
  refine pm_aload_n dX9_init_25 rfl rfl ?_
  refine pm_iconst (v := 4) dX9_init_26 ki_4 ?_
  refine pm_newa (y := zX9_init) (atype := .int) (kd := 100) (by decide) tw_232 dX9_init_27 (fun r8 m9 => ?_)
  refine fp_9_14 (y := zX9_init) ⟨tw_1391, rfl⟩ dX9_init_29 (fun m10 => ?_)
  refine pm_aload_n dX9_init_32 rfl rfl ?_
  refine pm_bipush (v := 6) dX9_init_33 kb_6 ?_
  refine pm_newa (y := zX9_init) (atype := .int) (kd := 100) (by decide) tw_232 dX9_init_35 (fun r11 m12 => ?_)
  refine fp_9_15 (y := zX9_init) ⟨tw_1392, rfl⟩ dX9_init_37 (fun m13 => ?_)
  refine pm_aload_n dX9_init_40 rfl rfl ?_
  refine pm_bipush (v := 6) dX9_init_41 kb_6 ?_
  refine pm_newa (y := zX9_init) (atype := .int) (kd := 100) (by decide) tw_232 dX9_init_43 (fun r14 m15 => ?_)
  refine fp_9_16 (y := zX9_init) ⟨tw_1393, rfl⟩ dX9_init_45 (fun m16 => ?_)
  refine pm_aload_n dX9_init_48 rfl rfl ?_
  refine pm_bipush (v := 6) dX9_init_49 kb_6 ?_
  refine pm_bipush (v := 8) dX9_init_51 kb_8 ?_
  refine pm_multi (y := zX9_init) (kd := 103) (ik := 100) (ty := .int) (by decide) tw_1362 tw_1363 tw_232 dX9_init_53 (fun r17 m18 => ?_)
  refine fp_9_17 (y := zX9_init) ⟨tw_1394, rfl⟩ dX9_init_57 (fun m19 => ?_)
  refine pm_aload_n dX9_init_60 rfl rfl ?_
  refine pm_bipush (v := 6) dX9_init_61 kb_6 ?_
  refine pm_bipush (v := 8) dX9_init_63 kb_8 ?_
  refine pm_multi (y := zX9_init) (kd := 103) (ik := 100) (ty := .int) (by decide) tw_1362 tw_1363 tw_232 dX9_init_65 (fun r20 m21 => ?_)
  refine fp_9_18 (y := zX9_init) ⟨tw_1395, rfl⟩ dX9_init_69 (fun m22 => ?_)
  refine pm_aload_n dX9_init_72 rfl rfl ?_
  refine pm_sipush (v := 160) dX9_init_73 ks_160 ?_
  refine pm_iconst (v := 2) dX9_init_76 ki_2 ?_
  refine pm_multi (y := zX9_init) (kd := 103) (ik := 100) (ty := .int) (by decide) tw_1362 tw_1363 tw_232 dX9_init_77 (fun r23 m24 => ?_)
  refine fp_9_21 (y := zX9_init) ⟨tw_1398, rfl⟩ dX9_init_81 (fun m25 => ?_)
  refine pm_aload_n dX9_init_84 rfl rfl ?_
  refine pm_sipush (v := 160) dX9_init_85 ks_160 ?_
  refine pm_iconst (v := 2) dX9_init_88 ki_2 ?_
  refine pm_multi (y := zX9_init) (kd := 103) (ik := 100) (ty := .int) (by decide) tw_1362 tw_1363 tw_232 dX9_init_89 (fun r26 m27 => ?_)
  refine fp_9_22 (y := zX9_init) ⟨tw_1399, rfl⟩ dX9_init_93 (fun m28 => ?_)
  refine pm_aload_n dX9_init_96 rfl rfl ?_
  refine pm_sipush (v := 160) dX9_init_97 ks_160 ?_
  refine pm_newa (y := zX9_init) (atype := .int) (kd := 100) (by decide) tw_232 dX9_init_100 (fun r29 m30 => ?_)
  refine fp_9_23 (y := zX9_init) ⟨tw_1400, rfl⟩ dX9_init_102 (fun m31 => ?_)
  refine pm_aload_n dX9_init_105 rfl rfl ?_
  refine pm_bipush (v := 7) dX9_init_106 kb_7 ?_
  refine pm_newa (y := zX9_init) (atype := .int) (kd := 100) (by decide) tw_232 dX9_init_108 (fun r32 m33 => ?_)
  refine fp_9_24 (y := zX9_init) ⟨tw_1401, rfl⟩ dX9_init_110 (fun m34 => ?_)
  refine pm_aload_n dX9_init_113 rfl rfl ?_
  refine pm_bipush (v := 12) dX9_init_114 kb_12 ?_
  refine pm_newa (y := zX9_init) (atype := .int) (kd := 100) (by decide) tw_232 dX9_init_116 (fun r35 m36 => ?_)
  refine fp_9_25 (y := zX9_init) ⟨tw_1402, rfl⟩ dX9_init_118 (fun m37 => ?_)
  refine pm_aload_n dX9_init_121 rfl rfl ?_
  refine pm_bipush (v := 12) dX9_init_122 kb_12 ?_
  refine pm_newa (y := zX9_init) (atype := .int) (kd := 100) (by decide) tw_232 dX9_init_124 (fun r38 m39 => ?_)
  refine fp_9_26 (y := zX9_init) ⟨tw_1403, rfl⟩ dX9_init_126 (fun m40 => ?_)
  refine pm_aload_n dX9_init_129 rfl rfl ?_
  refine pm_bipush (v := 80) dX9_init_130 kb_80 ?_
  refine pm_iconst (v := 5) dX9_init_132 ki_5 ?_
  refine pm_multi (y := zX9_init) (kd := 103) (ik := 100) (ty := .int) (by decide) tw_1362 tw_1363 tw_232 dX9_init_133 (fun r41 m42 => ?_)
  refine fp_9_27 (y := zX9_init) ⟨tw_1404, rfl⟩ dX9_init_137 (fun m43 => ?_)
  refine pm_aload_n dX9_init_140 rfl rfl ?_
  refine pm_bipush (v := 14) dX9_init_141 kb_14 ?_
  refine pm_newa (y := zX9_init) (atype := .int) (kd := 100) (by decide) tw_232 dX9_init_143 (fun r44 m45 => ?_)
  refine fp_9_29 (y := zX9_init) ⟨tw_1406, rfl⟩ dX9_init_145 (fun m46 => ?_)
  refine pm_aload_n dX9_init_148 rfl rfl ?_
  refine pm_bipush (v := 14) dX9_init_149 kb_14 ?_
  refine pm_newa (y := zX9_init) (atype := .int) (kd := 100) (by decide) tw_232 dX9_init_151 (fun r47 m48 => ?_)
  refine fp_9_30 (y := zX9_init) ⟨tw_1407, rfl⟩ dX9_init_153 (fun m49 => ?_)
  refine pm_aload_n dX9_init_156 rfl rfl ?_
  refine pm_bipush (v := 16) dX9_init_157 kb_16 ?_
  refine pm_bipush (v := 14) dX9_init_159 kb_14 ?_
  refine pm_multi (y := zX9_init) (kd := 103) (ik := 100) (ty := .int) (by decide) tw_1362 tw_1363 tw_232 dX9_init_161 (fun r50 m51 => ?_)
  refine fp_9_31 (y := zX9_init) ⟨tw_1408, rfl⟩ dX9_init_165 (fun m52 => ?_)
  refine pm_aload_n dX9_init_168 rfl rfl ?_
  refine pm_iconst (v := 3) dX9_init_169 ki_3 ?_
  refine pm_sipush (v := 239) dX9_init_170 ks_239 ?_
  refine pm_multi (y := zX9_init) (kd := 103) (ik := 100) (ty := .int) (by decide) tw_1362 tw_1363 tw_232 dX9_init_173 (fun r53 m54 => ?_)
  refine fp_9_32 (y := zX9_init) ⟨tw_1409, rfl⟩ dX9_init_177 (fun m55 => ?_)
  refine pm_aload_n dX9_init_180 rfl rfl ?_
  refine pm_bipush (v := 48) dX9_init_181 kb_48 ?_
  refine pm_newa (y := zX9_init) (atype := .int) (kd := 100) (by decide) tw_232 dX9_init_183 (fun r56 m57 => ?_)
  refine fp_9_40 (y := zX9_init) ⟨tw_1417, rfl⟩ dX9_init_185 (fun m58 => ?_)
  refine pm_aload_n dX9_init_188 rfl rfl ?_
  refine pm_bipush (v := 48) dX9_init_189 kb_48 ?_
  refine pm_newa (y := zX9_init) (atype := .int) (kd := 100) (by decide) tw_232 dX9_init_191 (fun r59 m60 => ?_)
  refine fp_9_41 (y := zX9_init) ⟨tw_1418, rfl⟩ dX9_init_193 (fun m61 => ?_)
  refine pm_aload_n dX9_init_196 rfl rfl ?_
  refine pm_bipush (v := 48) dX9_init_197 kb_48 ?_
  refine pm_newa (y := zX9_init) (atype := .int) (kd := 100) (by decide) tw_232 dX9_init_199 (fun r62 m63 => ?_)
  refine fp_9_42 (y := zX9_init) ⟨tw_1419, rfl⟩ dX9_init_201 (fun m64 => ?_)
  refine pm_aload_n dX9_init_204 rfl rfl ?_
  refine pm_bipush (v := 26) dX9_init_205 kb_26 ?_
  refine pm_newa (y := zX9_init) (atype := .int) (kd := 100) (by decide) tw_232 dX9_init_207 (fun r65 m66 => ?_)
  refine fp_9_43 (y := zX9_init) ⟨tw_1420, rfl⟩ dX9_init_209 (fun m67 => ?_)
  refine pm_aload_n dX9_init_212 rfl rfl ?_
  refine pm_bipush (v := 26) dX9_init_213 kb_26 ?_
  refine pm_newa (y := zX9_init) (atype := .int) (kd := 100) (by decide) tw_232 dX9_init_215 (fun r68 m69 => ?_)
  refine fp_9_44 (y := zX9_init) ⟨tw_1421, rfl⟩ dX9_init_217 (fun m70 => ?_)
  refine pm_aload_n dX9_init_220 rfl rfl ?_
  refine pm_bipush (v := 26) dX9_init_221 kb_26 ?_
  refine pm_newa (y := zX9_init) (atype := .long) (kd := 102) (by decide) tw_439 dX9_init_223 (fun r71 m72 => ?_)
  refine fp_9_45 (y := zX9_init) ⟨tw_1422, rfl⟩ dX9_init_225 (fun m73 => ?_)
  refine pm_aload_n dX9_init_228 rfl rfl ?_
  refine pm_bipush (v := 26) dX9_init_229 kb_26 ?_
  refine pm_newa (y := zX9_init) (atype := .long) (kd := 102) (by decide) tw_439 dX9_init_231 (fun r74 m75 => ?_)
  refine fp_9_46 (y := zX9_init) ⟨tw_1423, rfl⟩ dX9_init_233 (fun m76 => ?_)
  refine pm_aload_n dX9_init_236 rfl rfl ?_
  refine pm_bipush (v := 13) dX9_init_237 kb_13 ?_
  refine pm_newa (y := zX9_init) (atype := .long) (kd := 102) (by decide) tw_439 dX9_init_239 (fun r77 m78 => ?_)
  refine fp_9_47 (y := zX9_init) ⟨tw_1424, rfl⟩ dX9_init_241 (fun m79 => ?_)
  refine pm_aload_n dX9_init_244 rfl rfl ?_
  refine pm_bipush (v := 13) dX9_init_245 kb_13 ?_
  refine pm_bipush (v := 16) dX9_init_247 kb_16 ?_
  refine pm_multi (y := zX9_init) (kd := 104) (ik := 102) (ty := .long) (by decide) tw_1364 tw_1365 tw_439 dX9_init_249 (fun r80 m81 => ?_)
  refine fp_9_48 (y := zX9_init) ⟨tw_1425, rfl⟩ dX9_init_253 (fun m82 => ?_)
  refine pm_aload_n dX9_init_256 rfl rfl ?_
  refine pm_bipush (v := 9) dX9_init_257 kb_9 ?_
  refine pm_newa (y := zX9_init) (atype := .int) (kd := 100) (by decide) tw_232 dX9_init_259 (fun r83 m84 => ?_)
  refine fp_9_49 (y := zX9_init) ⟨tw_1426, rfl⟩ dX9_init_261 (fun m85 => ?_)
  refine pm_aload_n dX9_init_264 rfl rfl ?_
  refine pm_bipush (v := 16) dX9_init_265 kb_16 ?_
  refine pm_newa (y := zX9_init) (atype := .boolean) (kd := 101) (by decide) tw_1543 dX9_init_267 (fun r86 m87 => ?_)
  refine fp_9_50 (y := zX9_init) ⟨tw_1427, rfl⟩ dX9_init_269 (fun m88 => ?_)
  refine pm_aload_n dX9_init_272 rfl rfl ?_
  refine pm_bipush (v := 9) dX9_init_273 kb_9 ?_
  refine pm_bipush (v := 9) dX9_init_275 kb_9 ?_
  refine pm_multi (y := zX9_init) (kd := 103) (ik := 100) (ty := .int) (by decide) tw_1362 tw_1363 tw_232 dX9_init_277 (fun r89 m90 => ?_)
  refine fp_9_51 (y := zX9_init) ⟨tw_1428, rfl⟩ dX9_init_281 (fun m91 => ?_)
  refine pm_aload_n dX9_init_284 rfl rfl ?_
  refine pm_bipush (v := 14) dX9_init_285 kb_14 ?_
  refine pm_newa (y := zX9_init) (atype := .long) (kd := 102) (by decide) tw_439 dX9_init_287 (fun r92 m93 => ?_)
  refine fp_9_52 (y := zX9_init) ⟨tw_1429, rfl⟩ dX9_init_289 (fun m94 => ?_)
  refine pm_aload_n dX9_init_292 rfl rfl ?_
  refine pm_bipush (v := 16) dX9_init_293 kb_16 ?_
  refine pm_newa (y := zX9_init) (atype := .int) (kd := 100) (by decide) tw_232 dX9_init_295 (fun r95 m96 => ?_)
  refine fp_9_53 (y := zX9_init) ⟨tw_1430, rfl⟩ dX9_init_297 (fun m97 => ?_)
  refine pm_aload_n dX9_init_300 rfl rfl ?_
  refine pm_rcv (fun hb9 hc9 => ?_)
  refine pm_kV rfl (pm_V (y := zX9_init) (z := zX9_tellsNothing) (As := []) zkX9_tellsNothing pm_q9 (by decide) tw_1366 tw_1368 tw_99 dX9_init_301 rfl rfl (Nat.le_of_ble_eq_true rfl) hb9 hc9) (kcX9_tellsNothing hfl a0 m97) (fun m98 => ?_)
  refine pm_aload_n dX9_init_304 rfl rfl ?_
  refine pm_rcv (fun hb9 hc9 => ?_)
  refine pm_kV rfl (pm_V (y := zX9_init) (z := zX9_beginsAnew) (As := []) zkX9_beginsAnew pm_q9 (by decide) tw_1370 tw_1372 tw_100 dX9_init_305 rfl rfl (Nat.le_of_ble_eq_true rfl) hb9 hc9) (kcX9_beginsAnew hfl a0 m98) (fun m99 => ?_)
  exact pm_vret rfl dX9_init_308
-- StruckPageModel.thrown()I
abbrev zX9_thrown : pmY := (⟨"StruckPageModel", "thrown", "()I"⟩, cX9_thrown, 1, some .int, [])
def X9_thrown (a0 : Nat) (m : pmM) : pmR := pm_gI 9 a0 0 m fun x1 => pm_oI x1 m
theorem zkX9_thrown : pm_zOk zX9_thrown 0 := ⟨rfl, tw_1547, tw_168, by decide +kernel, by decide⟩
set_option maxRecDepth 100000 in
set_option maxHeartbeats 4000000 in
theorem kcX9_thrown (hfl : l.flags = flags0) (a0 : Nat) (m : pmM) : pm_C l Γ zX9_thrown (d + 0) [.ref a0] m (X9_thrown a0 m) := by
  refine pm_enter (ls := [.ref a0]) hfl (by decide +kernel) rfl (Nat.le_of_ble_eq_true rfl) rfl (Nat.le_of_ble_eq_true rfl) ?_
  unfold X9_thrown
  refine pm_aload_n dX9_thrown_0 rfl rfl ?_
  refine fg_9_0 (y := zX9_thrown) (Or.inl tw_1377) dX9_thrown_1 (fun x1 => ?_)
  exact pm_iret rfl dX9_thrown_4
-- StruckPageModel.bad(ZII)Z
abbrev zX9_bad : pmY := (⟨"StruckPageModel", "bad", "(ZII)Z"⟩, cX9_bad, 4, some .boolean, [])
def X9_bad_j38 (t0 : Int32) (m : pmM) : pmR := pm_oI (vp_nar .boolean t0) m
def X9_bad_j26 (l0 : Nat) (m : pmM) : pmR := pm_gI 9 l0 0 m fun x1 => if x1 = 0 then (X9_bad_j38 0 m) else (X9_bad_j38 1 m)
def X9_bad (a0 : Nat) (a1 : Int32) (a2 : Int32) (a3 : Int32) (m : pmM) : pmR := if a1 = 0 then (X9_bad_j26 a0 m) else (pm_gI 9 a0 0 m fun x2 => if x2 = 0 then (pm_pI 9 a0 0 a2 m fun m3 => pm_gR 9 a0 10 m3 fun r4 => pm_ld 100 r4 a3 m3 fun x5 => pm_st 100 r4 a3 (x5 + 1) m3 fun m6 => X9_bad_j26 a0 m6) else (X9_bad_j26 a0 m))
theorem zkX9_bad : pm_zOk zX9_bad 3 := ⟨rfl, tw_1562, tw_168, by decide +kernel, by decide⟩
set_option maxRecDepth 100000 in
set_option maxHeartbeats 4000000 in
theorem gX9_bad_j38 (hfl : l.flags = flags0) (t0 : Int32) (m : pmM) : pm_G l Γ zX9_bad (d + 0) 38 [pmU, pmU, pmU, pmU] [.int t0] m (X9_bad_j38 t0 m) := by
  unfold X9_bad_j38
  exact pm_nret (ty := .boolean) (w := vp_nar .boolean t0) rfl (by decide) rfl dX9_bad_38
set_option maxRecDepth 100000 in
set_option maxHeartbeats 4000000 in
theorem gX9_bad_j26 (hfl : l.flags = flags0) (l0 : Nat) (m : pmM) : pm_G l Γ zX9_bad (d + 0) 26 [.ref l0, pmU, pmU, pmU] [] m (X9_bad_j26 l0 m) := by
  unfold X9_bad_j26
  refine pm_aload_n dX9_bad_26 rfl rfl ?_
  refine fg_9_0 (y := zX9_bad) (Or.inl tw_1377) dX9_bad_27 (fun x1 => ?_)
  refine pm_if_eq (tgt := 37) dX9_bad_30 rfl ?_ ?_
  · refine pm_iconst (v := 0) dX9_bad_37 ki_0 ?_
    refine pm_drop (ls2 := [pmU, pmU, pmU, pmU]) (Nat.le_refl _) (pm_le_spec (pm_le_u (pm_le_u (pm_le_u (pm_le_u (pm_le_n)))))) ?_
    exact gX9_bad_j38 hfl 0 m
  · refine pm_iconst (v := 1) dX9_bad_33 ki_1 ?_
    refine pm_goto (tgt := 38) dX9_bad_34 rfl ?_
    refine pm_drop (ls2 := [pmU, pmU, pmU, pmU]) (Nat.le_refl _) (pm_le_spec (pm_le_u (pm_le_u (pm_le_u (pm_le_u (pm_le_n)))))) ?_
    exact gX9_bad_j38 hfl 1 m
set_option maxRecDepth 100000 in
set_option maxHeartbeats 4000000 in
theorem kcX9_bad (hfl : l.flags = flags0) (a0 : Nat) (a1 : Int32) (a2 : Int32) (a3 : Int32) (m : pmM) : pm_C l Γ zX9_bad (d + 0) [.ref a0, .int a1, .int a2, .int a3] m (X9_bad a0 a1 a2 a3 m) := by
  refine pm_enter (ls := [.ref a0, .int a1, .int a2, .int a3]) hfl (by decide +kernel) rfl (Nat.le_of_ble_eq_true rfl) rfl (Nat.le_of_ble_eq_true rfl) ?_
  unfold X9_bad
  refine pm_iload_n dX9_bad_0 rfl rfl ?_
  refine pm_if_eq (tgt := 26) dX9_bad_1 rfl ?_ ?_
  · refine pm_drop (ls2 := [.ref a0, pmU, pmU, pmU]) (Nat.le_refl _) (pm_le_spec (pm_le_v (pm_le_u (pm_le_u (pm_le_u (pm_le_n)))))) ?_
    exact gX9_bad_j26 hfl a0 m
  · refine pm_aload_n dX9_bad_4 rfl rfl ?_
    refine fg_9_0 (y := zX9_bad) (Or.inl tw_1377) dX9_bad_5 (fun x2 => ?_)
    refine pm_if_ne (tgt := 26) dX9_bad_8 rfl ?_ ?_
    · refine pm_drop (ls2 := [.ref a0, pmU, pmU, pmU]) (Nat.le_refl _) (pm_le_spec (pm_le_v (pm_le_u (pm_le_u (pm_le_u (pm_le_n)))))) ?_
      exact gX9_bad_j26 hfl a0 m
    · refine pm_aload_n dX9_bad_11 rfl rfl ?_
      refine pm_iload_n dX9_bad_12 rfl rfl ?_
      refine fp_9_0 (y := zX9_bad) (Or.inl tw_1377) dX9_bad_13 (fun m3 => ?_)
      refine pm_aload_n dX9_bad_16 rfl rfl ?_
      refine fg_9_10 (y := zX9_bad) (Or.inl tw_1387) dX9_bad_17 (fun r4 => ?_)
      refine pm_iload_n dX9_bad_20 rfl rfl ?_
      refine pm_dup2 dX9_bad_21 rfl rfl ?_
      refine pm_iald (y := zX9_bad) dX9_bad_22 (fun x5 => ?_)
      refine pm_iconst (v := 1) dX9_bad_23 ki_1 ?_
      refine pm_iadd dX9_bad_24 ?_
      refine pm_iast (y := zX9_bad) dX9_bad_25 (fun m6 => ?_)
      refine pm_drop (ls2 := [.ref a0, pmU, pmU, pmU]) (Nat.le_refl _) (pm_le_spec (pm_le_v (pm_le_u (pm_le_u (pm_le_u (pm_le_n)))))) ?_
      exact gX9_bad_j26 hfl a0 m6
-- StruckPageModel.in(III)Z
abbrev zX9_in : pmY := (⟨"StruckPageModel", "in", "(III)Z"⟩, cX9_in, 3, some .boolean, [])
def X9_in_j15 (t0 : Int32) (m : pmM) : pmR := pm_oI (vp_nar .boolean t0) m
def X9_in_j14 (m : pmM) : pmR := X9_in_j15 0 m
def X9_in (a0 : Int32) (a1 : Int32) (a2 : Int32) (m : pmM) : pmR := if a0 < a1 then (X9_in_j14 m) else (if a2 < a0 then (X9_in_j14 m) else (X9_in_j15 1 m))
theorem zkX9_in : pm_zOk zX9_in 3 := ⟨rfl, tw_1558, tw_168, by decide +kernel, by decide⟩
set_option maxRecDepth 100000 in
set_option maxHeartbeats 4000000 in
theorem gX9_in_j15 (hfl : l.flags = flags0) (t0 : Int32) (m : pmM) : pm_G l Γ zX9_in (d + 0) 15 [pmU, pmU, pmU] [.int t0] m (X9_in_j15 t0 m) := by
  unfold X9_in_j15
  exact pm_nret (ty := .boolean) (w := vp_nar .boolean t0) rfl (by decide) rfl dX9_in_15
set_option maxRecDepth 100000 in
set_option maxHeartbeats 4000000 in
theorem gX9_in_j14 (hfl : l.flags = flags0) (m : pmM) : pm_G l Γ zX9_in (d + 0) 14 [pmU, pmU, pmU] [] m (X9_in_j14 m) := by
  unfold X9_in_j14
  refine pm_iconst (v := 0) dX9_in_14 ki_0 ?_
  exact gX9_in_j15 hfl 0 m
set_option maxRecDepth 100000 in
set_option maxHeartbeats 4000000 in
theorem kcX9_in (hfl : l.flags = flags0) (a0 : Int32) (a1 : Int32) (a2 : Int32) (m : pmM) : pm_C l Γ zX9_in (d + 0) [.int a0, .int a1, .int a2] m (X9_in a0 a1 a2 m) := by
  refine pm_enter (ls := [.int a0, .int a1, .int a2]) hfl (by decide +kernel) rfl (Nat.le_of_ble_eq_true rfl) rfl (Nat.le_of_ble_eq_true rfl) ?_
  unfold X9_in
  refine pm_iload_n dX9_in_0 rfl rfl ?_
  refine pm_iload_n dX9_in_1 rfl rfl ?_
  refine pm_icmp_lt (tgt := 14) dX9_in_2 rfl ?_ ?_
  · refine pm_drop (ls2 := [pmU, pmU, pmU]) (Nat.le_refl _) (pm_le_spec (pm_le_u (pm_le_u (pm_le_u (pm_le_n))))) ?_
    exact gX9_in_j14 hfl m
  · refine pm_iload_n dX9_in_5 rfl rfl ?_
    refine pm_iload_n dX9_in_6 rfl rfl ?_
    refine pm_icmp_gt (tgt := 14) dX9_in_7 rfl ?_ ?_
    · refine pm_drop (ls2 := [pmU, pmU, pmU]) (Nat.le_refl _) (pm_le_spec (pm_le_u (pm_le_u (pm_le_u (pm_le_n))))) ?_
      exact gX9_in_j14 hfl m
    · refine pm_iconst (v := 1) dX9_in_10 ki_1 ?_
      refine pm_goto (tgt := 15) dX9_in_11 rfl ?_
      refine pm_drop (ls2 := [pmU, pmU, pmU]) (Nat.le_refl _) (pm_le_spec (pm_le_u (pm_le_u (pm_le_u (pm_le_n))))) ?_
      exact gX9_in_j15 hfl 1 m
-- StruckPageModel.less(II)I
abbrev zX9_less : pmY := (⟨"StruckPageModel", "less", "(II)I"⟩, cX9_less, 2, some .int, [])
def X9_less_j10 (t0 : Int32) (m : pmM) : pmR := pm_oI t0 m
def X9_less (a0 : Int32) (a1 : Int32) (m : pmM) : pmR := if a1 ≤ a0 then (X9_less_j10 a1 m) else (X9_less_j10 a0 m)
theorem zkX9_less : pm_zOk zX9_less 2 := ⟨rfl, tw_1735, tw_168, by decide +kernel, by decide⟩
set_option maxRecDepth 100000 in
set_option maxHeartbeats 4000000 in
theorem gX9_less_j10 (hfl : l.flags = flags0) (t0 : Int32) (m : pmM) : pm_G l Γ zX9_less (d + 0) 10 [pmU, pmU] [.int t0] m (X9_less_j10 t0 m) := by
  unfold X9_less_j10
  exact pm_iret rfl dX9_less_10
set_option maxRecDepth 100000 in
set_option maxHeartbeats 4000000 in
theorem kcX9_less (hfl : l.flags = flags0) (a0 : Int32) (a1 : Int32) (m : pmM) : pm_C l Γ zX9_less (d + 0) [.int a0, .int a1] m (X9_less a0 a1 m) := by
  refine pm_enter (ls := [.int a0, .int a1]) hfl (by decide +kernel) rfl (Nat.le_of_ble_eq_true rfl) rfl (Nat.le_of_ble_eq_true rfl) ?_
  unfold X9_less
  refine pm_iload_n dX9_less_0 rfl rfl ?_
  refine pm_iload_n dX9_less_1 rfl rfl ?_
  refine pm_icmp_ge (tgt := 9) dX9_less_2 rfl ?_ ?_
  · refine pm_iload_n dX9_less_9 rfl rfl ?_
    refine pm_drop (ls2 := [pmU, pmU]) (Nat.le_refl _) (pm_le_spec (pm_le_u (pm_le_u (pm_le_n)))) ?_
    exact gX9_less_j10 hfl a1 m
  · refine pm_iload_n dX9_less_5 rfl rfl ?_
    refine pm_goto (tgt := 10) dX9_less_6 rfl ?_
    refine pm_drop (ls2 := [pmU, pmU]) (Nat.le_refl _) (pm_le_spec (pm_le_u (pm_le_u (pm_le_n)))) ?_
    exact gX9_less_j10 hfl a0 m
-- StruckPageModel.more(II)I
abbrev zX9_more : pmY := (⟨"StruckPageModel", "more", "(II)I"⟩, cX9_more, 2, some .int, [])
def X9_more_j10 (t0 : Int32) (m : pmM) : pmR := pm_oI t0 m
def X9_more (a0 : Int32) (a1 : Int32) (m : pmM) : pmR := if a0 ≤ a1 then (X9_more_j10 a1 m) else (X9_more_j10 a0 m)
theorem zkX9_more : pm_zOk zX9_more 2 := ⟨rfl, tw_1738, tw_168, by decide +kernel, by decide⟩
set_option maxRecDepth 100000 in
set_option maxHeartbeats 4000000 in
theorem gX9_more_j10 (hfl : l.flags = flags0) (t0 : Int32) (m : pmM) : pm_G l Γ zX9_more (d + 0) 10 [pmU, pmU] [.int t0] m (X9_more_j10 t0 m) := by
  unfold X9_more_j10
  exact pm_iret rfl dX9_more_10
set_option maxRecDepth 100000 in
set_option maxHeartbeats 4000000 in
theorem kcX9_more (hfl : l.flags = flags0) (a0 : Int32) (a1 : Int32) (m : pmM) : pm_C l Γ zX9_more (d + 0) [.int a0, .int a1] m (X9_more a0 a1 m) := by
  refine pm_enter (ls := [.int a0, .int a1]) hfl (by decide +kernel) rfl (Nat.le_of_ble_eq_true rfl) rfl (Nat.le_of_ble_eq_true rfl) ?_
  unfold X9_more
  refine pm_iload_n dX9_more_0 rfl rfl ?_
  refine pm_iload_n dX9_more_1 rfl rfl ?_
  refine pm_icmp_le (tgt := 9) dX9_more_2 rfl ?_ ?_
  · refine pm_iload_n dX9_more_9 rfl rfl ?_
    refine pm_drop (ls2 := [pmU, pmU]) (Nat.le_refl _) (pm_le_spec (pm_le_u (pm_le_u (pm_le_n)))) ?_
    exact gX9_more_j10 hfl a1 m
  · refine pm_iload_n dX9_more_5 rfl rfl ?_
    refine pm_goto (tgt := 10) dX9_more_6 rfl ?_
    refine pm_drop (ls2 := [pmU, pmU]) (Nat.le_refl _) (pm_le_spec (pm_le_u (pm_le_u (pm_le_n)))) ?_
    exact gX9_more_j10 hfl a0 m
-- StruckPageModel.has(II)Z
abbrev zX9_has : pmY := (⟨"StruckPageModel", "has", "(II)Z"⟩, cX9_has, 2, some .boolean, [])
def X9_has_j14 (t0 : Int32) (m : pmM) : pmR := pm_oI (vp_nar .boolean t0) m
def X9_has (a0 : Int32) (a1 : Int32) (m : pmM) : pmR := if ((a0 >>> (a1 &&& 31)) &&& 1) = 1 then (X9_has_j14 1 m) else (X9_has_j14 0 m)
theorem zkX9_has : pm_zOk zX9_has 2 := ⟨rfl, tw_1761, tw_168, by decide +kernel, by decide⟩
set_option maxRecDepth 100000 in
set_option maxHeartbeats 4000000 in
theorem gX9_has_j14 (hfl : l.flags = flags0) (t0 : Int32) (m : pmM) : pm_G l Γ zX9_has (d + 0) 14 [pmU, pmU] [.int t0] m (X9_has_j14 t0 m) := by
  unfold X9_has_j14
  exact pm_nret (ty := .boolean) (w := vp_nar .boolean t0) rfl (by decide) rfl dX9_has_14
set_option maxRecDepth 100000 in
set_option maxHeartbeats 4000000 in
theorem kcX9_has (hfl : l.flags = flags0) (a0 : Int32) (a1 : Int32) (m : pmM) : pm_C l Γ zX9_has (d + 0) [.int a0, .int a1] m (X9_has a0 a1 m) := by
  refine pm_enter (ls := [.int a0, .int a1]) hfl (by decide +kernel) rfl (Nat.le_of_ble_eq_true rfl) rfl (Nat.le_of_ble_eq_true rfl) ?_
  unfold X9_has
  refine pm_iload_n dX9_has_0 rfl rfl ?_
  refine pm_iload_n dX9_has_1 rfl rfl ?_
  refine pm_ishr dX9_has_2 ?_
  refine pm_iconst (v := 1) dX9_has_3 ki_1 ?_
  refine pm_iand dX9_has_4 ?_
  refine pm_iconst (v := 1) dX9_has_5 ki_1 ?_
  refine pm_icmp_ne (tgt := 13) dX9_has_6 rfl ?_ ?_
  · refine pm_iconst (v := 0) dX9_has_13 ki_0 ?_
    refine pm_drop (ls2 := [pmU, pmU]) (Nat.le_refl _) (pm_le_spec (pm_le_u (pm_le_u (pm_le_n)))) ?_
    exact gX9_has_j14 hfl 0 m
  · refine pm_iconst (v := 1) dX9_has_9 ki_1 ?_
    refine pm_goto (tgt := 14) dX9_has_10 rfl ?_
    refine pm_drop (ls2 := [pmU, pmU]) (Nat.le_refl _) (pm_le_spec (pm_le_u (pm_le_u (pm_le_n)))) ?_
    exact gX9_has_j14 hfl 1 m
-- StruckPageModel.feed(IIIII)I
abbrev zX9_feed : pmY := (⟨"StruckPageModel", "feed", "(IIIII)I"⟩, cX9_feed, 8, some .int, [])
def X9_feed_j76 (again23 : (Int32 × pmM) → pmR) (l0 : Nat) (l1 : Int32) (l2 : Int32) (l3 : Int32) (l4 : Int32) (l5 : Int32) (l6 : Int32) (t0 : Int32) (m : pmM) : pmR := pm_gR 9 l0 9 m fun r4 => pm_gI 9 l0 1 m fun x5 => if (4 : Int32) = 0 then none else pm_st 100 r4 x5 ((t0 >>> (((24 : Int32) - ((8 : Int32) * (l6 - l6 / 4 * 4))) &&& 31)) &&& 255) m fun m6 => pm_gI 9 l0 1 m6 fun x7 => pm_pI 9 l0 1 (x7 + 1) m6 fun m8 => pm_bI (l6 + 1) fun x9 => again23 (x9, m8)
def X9_feed_L23 (l0 : Nat) (l1 : Int32) (l2 : Int32) (l3 : Int32) (l4 : Int32) (l5 : Int32) (again23 : (Int32 × pmM) → pmR) (s23 : Int32 × pmM) : pmR := if (20 : Int32) ≤ s23.1 then (pm_gI 9 l0 1 s23.2 fun x3 => pm_oI x3 s23.2) else (if (4 : Int32) ≤ s23.1 then (if (8 : Int32) ≤ s23.1 then (if (12 : Int32) ≤ s23.1 then (if (16 : Int32) ≤ s23.1 then (X9_feed_j76 again23 l0 l1 l2 l3 l4 l5 s23.1 l5 s23.2) else (X9_feed_j76 again23 l0 l1 l2 l3 l4 l5 s23.1 l4 s23.2)) else (X9_feed_j76 again23 l0 l1 l2 l3 l4 l5 s23.1 l3 s23.2)) else (X9_feed_j76 again23 l0 l1 l2 l3 l4 l5 s23.1 l2 s23.2)) else (X9_feed_j76 again23 l0 l1 l2 l3 l4 l5 s23.1 l1 s23.2))
def X9_feed (a0 : Nat) (a1 : Int32) (a2 : Int32) (a3 : Int32) (a4 : Int32) (a5 : Int32) (m : pmM) : pmR := pm_pI 9 a0 0 0 m fun m1 => pm_gI 9 a0 1 m1 fun x2 => if (x2 + 20) ≤ 600 then (pm_lp pm_N (X9_feed_L23 a0 a1 a2 a3 a4 a5) (0, m1)) else (pm_oI (-1) m1)
theorem zkX9_feed : pm_zOk zX9_feed 5 := ⟨rfl, tw_1551, tw_168, by decide +kernel, by decide⟩
set_option maxRecDepth 100000 in
set_option maxHeartbeats 4000000 in
theorem gX9_feed_j76 (hfl : l.flags = flags0) (again23 : (Int32 × pmM) → pmR) (l0 : Nat) (l1 : Int32) (l2 : Int32) (l3 : Int32) (l4 : Int32) (l5 : Int32) (l6 : Int32) (t0 : Int32) (m : pmM) (hag23 : ∀ s : Int32 × pmM, pm_G l Γ zX9_feed (d + 0) 23 [.ref l0, .int l1, .int l2, .int l3, .int l4, .int l5, .int s.1, pmU] [] s.2 (again23 s)) : pm_G l Γ zX9_feed (d + 0) 76 [.ref l0, .int l1, .int l2, .int l3, .int l4, .int l5, .int l6, pmU] [.int t0] m (X9_feed_j76 again23 l0 l1 l2 l3 l4 l5 l6 t0 m) := by
  unfold X9_feed_j76
  refine pm_istore (ls2 := [.ref l0, .int l1, .int l2, .int l3, .int l4, .int l5, .int l6, .int t0]) dX9_feed_76 rfl (Nat.le_of_ble_eq_true rfl) rfl ?_
  refine pm_aload_n dX9_feed_78 rfl rfl ?_
  refine fg_9_9 (y := zX9_feed) (Or.inl tw_1386) dX9_feed_79 (fun r4 => ?_)
  refine pm_aload_n dX9_feed_82 rfl rfl ?_
  refine fg_9_1 (y := zX9_feed) (Or.inl tw_1378) dX9_feed_83 (fun x5 => ?_)
  refine pm_iload dX9_feed_86 rfl ?_
  refine pm_bipush (v := 24) dX9_feed_88 kb_24 ?_
  refine pm_bipush (v := 8) dX9_feed_90 kb_8 ?_
  refine pm_iload dX9_feed_92 rfl ?_
  refine pm_iconst (v := 4) dX9_feed_94 ki_4 ?_
  refine pm_irem dX9_feed_95 ?_
  refine pm_imul dX9_feed_96 ?_
  refine pm_isub dX9_feed_97 ?_
  refine pm_ishr dX9_feed_98 ?_
  refine pm_sipush (v := 255) dX9_feed_99 ks_255 ?_
  refine pm_iand dX9_feed_102 ?_
  refine pm_iast (y := zX9_feed) dX9_feed_103 (fun m6 => ?_)
  refine pm_aload_n dX9_feed_104 rfl rfl ?_
  refine pm_dup dX9_feed_105 rfl ?_
  refine fg_9_1 (y := zX9_feed) (Or.inl tw_1378) dX9_feed_106 (fun x7 => ?_)
  refine pm_iconst (v := 1) dX9_feed_109 ki_1 ?_
  refine pm_iadd dX9_feed_110 ?_
  refine fp_9_1 (y := zX9_feed) (Or.inl tw_1378) dX9_feed_111 (fun m8 => ?_)
  refine pm_iincn (y := zX9_feed) dX9_feed_114 rfl ki_1 rfl (Nat.le_of_ble_eq_true rfl) (fun x9 => ?_)
  refine pm_eqls (ls2 := [.ref l0, .int l1, .int l2, .int l3, .int l4, .int l5, .int x9, .int t0]) rfl ?_
  refine pm_goto (tgt := 23) dX9_feed_117 rfl ?_
  refine pm_drop (ls2 := [.ref l0, .int l1, .int l2, .int l3, .int l4, .int l5, .int x9, pmU]) (Nat.le_refl _) (pm_le_spec (pm_le_v (pm_le_v (pm_le_v (pm_le_v (pm_le_v (pm_le_v (pm_le_v (pm_le_u (pm_le_n)))))))))) ?_
  exact hag23 (x9, m8)
set_option maxRecDepth 100000 in
set_option maxHeartbeats 4000000 in
theorem gX9_feed_L23 (hfl : l.flags = flags0) (l0 : Nat) (l1 : Int32) (l2 : Int32) (l3 : Int32) (l4 : Int32) (l5 : Int32) : ∀ (n : Nat) (s : Int32 × pmM), pm_G l Γ zX9_feed (d + 0) 23 [.ref l0, .int l1, .int l2, .int l3, .int l4, .int l5, .int s.1, pmU] [] s.2 (pm_lp n (X9_feed_L23 l0 l1 l2 l3 l4 l5) s) :=
  pm_loop (lsf := fun s : Int32 × pmM => [.ref l0, .int l1, .int l2, .int l3, .int l4, .int l5, .int s.1, pmU]) (mf := fun s : Int32 × pmM => s.2) (fun again23 hag23 s23 => by
    unfold X9_feed_L23
    refine pm_iload dX9_feed_23 rfl ?_
    refine pm_bipush (v := 20) dX9_feed_25 kb_20 ?_
    refine pm_icmp_ge (tgt := 120) dX9_feed_27 rfl ?_ ?_
    · refine pm_aload_n dX9_feed_120 rfl rfl ?_
      refine fg_9_1 (y := zX9_feed) (Or.inl tw_1378) dX9_feed_121 (fun x3 => ?_)
      exact pm_iret rfl dX9_feed_124
    · refine pm_iload dX9_feed_30 rfl ?_
      refine pm_iconst (v := 4) dX9_feed_32 ki_4 ?_
      refine pm_icmp_ge (tgt := 40) dX9_feed_33 rfl ?_ ?_
      · refine pm_iload dX9_feed_40 rfl ?_
        refine pm_bipush (v := 8) dX9_feed_42 kb_8 ?_
        refine pm_icmp_ge (tgt := 51) dX9_feed_44 rfl ?_ ?_
        · refine pm_iload dX9_feed_51 rfl ?_
          refine pm_bipush (v := 12) dX9_feed_53 kb_12 ?_
          refine pm_icmp_ge (tgt := 62) dX9_feed_55 rfl ?_ ?_
          · refine pm_iload dX9_feed_62 rfl ?_
            refine pm_bipush (v := 16) dX9_feed_64 kb_16 ?_
            refine pm_icmp_ge (tgt := 74) dX9_feed_66 rfl ?_ ?_
            · refine pm_iload dX9_feed_74 rfl ?_
              exact gX9_feed_j76 hfl again23 l0 l1 l2 l3 l4 l5 s23.1 l5 s23.2 hag23
            · refine pm_iload dX9_feed_69 rfl ?_
              refine pm_goto (tgt := 76) dX9_feed_71 rfl ?_
              exact gX9_feed_j76 hfl again23 l0 l1 l2 l3 l4 l5 s23.1 l4 s23.2 hag23
          · refine pm_iload_n dX9_feed_58 rfl rfl ?_
            refine pm_goto (tgt := 76) dX9_feed_59 rfl ?_
            exact gX9_feed_j76 hfl again23 l0 l1 l2 l3 l4 l5 s23.1 l3 s23.2 hag23
        · refine pm_iload_n dX9_feed_47 rfl rfl ?_
          refine pm_goto (tgt := 76) dX9_feed_48 rfl ?_
          exact gX9_feed_j76 hfl again23 l0 l1 l2 l3 l4 l5 s23.1 l2 s23.2 hag23
      · refine pm_iload_n dX9_feed_36 rfl rfl ?_
        refine pm_goto (tgt := 76) dX9_feed_37 rfl ?_
        exact gX9_feed_j76 hfl again23 l0 l1 l2 l3 l4 l5 s23.1 l1 s23.2 hag23)
set_option maxRecDepth 100000 in
set_option maxHeartbeats 4000000 in
theorem kcX9_feed (hfl : l.flags = flags0) (a0 : Nat) (a1 : Int32) (a2 : Int32) (a3 : Int32) (a4 : Int32) (a5 : Int32) (m : pmM) : pm_C l Γ zX9_feed (d + 0) [.ref a0, .int a1, .int a2, .int a3, .int a4, .int a5] m (X9_feed a0 a1 a2 a3 a4 a5 m) := by
  refine pm_enter (ls := [.ref a0, .int a1, .int a2, .int a3, .int a4, .int a5, pmU, pmU]) hfl (by decide +kernel) rfl (Nat.le_of_ble_eq_true rfl) rfl (Nat.le_of_ble_eq_true rfl) ?_
  unfold X9_feed
  refine pm_aload_n dX9_feed_0 rfl rfl ?_
  refine pm_iconst (v := 0) dX9_feed_1 ki_0 ?_
  refine fp_9_0 (y := zX9_feed) (Or.inl tw_1377) dX9_feed_2 (fun m1 => ?_)
  refine pm_aload_n dX9_feed_5 rfl rfl ?_
  refine fg_9_1 (y := zX9_feed) (Or.inl tw_1378) dX9_feed_6 (fun x2 => ?_)
  refine pm_bipush (v := 20) dX9_feed_9 kb_20 ?_
  refine pm_iadd dX9_feed_11 ?_
  refine pm_sipush (v := 600) dX9_feed_12 ks_600 ?_
  refine pm_icmp_le (tgt := 20) dX9_feed_15 rfl ?_ ?_
  · refine pm_iconst (v := 0) dX9_feed_20 ki_0 ?_
    refine pm_istore (ls2 := [.ref a0, .int a1, .int a2, .int a3, .int a4, .int a5, .int 0, pmU]) dX9_feed_21 rfl (Nat.le_of_ble_eq_true rfl) rfl ?_
    exact gX9_feed_L23 hfl a0 a1 a2 a3 a4 a5 pm_N (0, m1)
  · refine pm_iconst (v := (-1)) dX9_feed_18 ki_n1 ?_
    exact pm_iret rfl dX9_feed_19
-- StruckPageModel.byteAt(I)I
abbrev zX9_byteAt : pmY := (⟨"StruckPageModel", "byteAt", "(I)I"⟩, cX9_byteAt, 2, some .int, [])
def X9_byteAt_j18 (t0 : Int32) (m : pmM) : pmR := pm_oI t0 m
def X9_byteAt (a0 : Nat) (a1 : Int32) (m : pmM) : pmR := pm_gI 9 a0 2 m fun x1 => if a1 < x1 then (pm_gR 9 a0 9 m fun r2 => pm_ld 100 r2 a1 m fun x3 => X9_byteAt_j18 x3 m) else (X9_byteAt_j18 (-1) m)
theorem zkX9_byteAt : pm_zOk zX9_byteAt 1 := ⟨rfl, tw_1574, tw_168, by decide +kernel, by decide⟩
set_option maxRecDepth 100000 in
set_option maxHeartbeats 4000000 in
theorem gX9_byteAt_j18 (hfl : l.flags = flags0) (t0 : Int32) (m : pmM) : pm_G l Γ zX9_byteAt (d + 0) 18 [pmU, pmU] [.int t0] m (X9_byteAt_j18 t0 m) := by
  unfold X9_byteAt_j18
  exact pm_iret rfl dX9_byteAt_18
set_option maxRecDepth 100000 in
set_option maxHeartbeats 4000000 in
theorem kcX9_byteAt (hfl : l.flags = flags0) (a0 : Nat) (a1 : Int32) (m : pmM) : pm_C l Γ zX9_byteAt (d + 0) [.ref a0, .int a1] m (X9_byteAt a0 a1 m) := by
  refine pm_enter (ls := [.ref a0, .int a1]) hfl (by decide +kernel) rfl (Nat.le_of_ble_eq_true rfl) rfl (Nat.le_of_ble_eq_true rfl) ?_
  unfold X9_byteAt
  refine pm_iload_n dX9_byteAt_0 rfl rfl ?_
  refine pm_aload_n dX9_byteAt_1 rfl rfl ?_
  refine fg_9_2 (y := zX9_byteAt) (Or.inl tw_1379) dX9_byteAt_2 (fun x1 => ?_)
  refine pm_icmp_lt (tgt := 12) dX9_byteAt_5 rfl ?_ ?_
  · refine pm_aload_n dX9_byteAt_12 rfl rfl ?_
    refine fg_9_9 (y := zX9_byteAt) (Or.inl tw_1386) dX9_byteAt_13 (fun r2 => ?_)
    refine pm_iload_n dX9_byteAt_16 rfl rfl ?_
    refine pm_iald (y := zX9_byteAt) dX9_byteAt_17 (fun x3 => ?_)
    refine pm_drop (ls2 := [pmU, pmU]) (Nat.le_refl _) (pm_le_spec (pm_le_u (pm_le_u (pm_le_n)))) ?_
    exact gX9_byteAt_j18 hfl x3 m
  · refine pm_iconst (v := (-1)) dX9_byteAt_8 ki_n1 ?_
    refine pm_goto (tgt := 18) dX9_byteAt_9 rfl ?_
    refine pm_drop (ls2 := [pmU, pmU]) (Nat.le_refl _) (pm_le_spec (pm_le_u (pm_le_u (pm_le_n)))) ?_
    exact gX9_byteAt_j18 hfl (-1) m
-- StruckPageModel.blanks()V
abbrev zX9_blanks : pmY := (⟨"StruckPageModel", "blanks", "()V"⟩, cX9_blanks, 1, none, [])
def X9_blanks_L0 (l0 : Nat) (again0 : (pmM) → pmR) (s0 : pmM) : pmR := pm_gI 9 l0 4 s0 fun x1 => pm_rc 9 l0 s0 <| pm_cI (X9_byteAt l0 x1 s0) fun x3 m2 => if x3 = 32 then (pm_gI 9 l0 4 m2 fun x4 => pm_pI 9 l0 4 (x4 + 1) m2 fun m5 => again0 m5) else (pm_oV m2)
def X9_blanks (a0 : Nat) (m : pmM) : pmR := pm_lp pm_N (X9_blanks_L0 a0) m
theorem zkX9_blanks : pm_zOk zX9_blanks 0 := ⟨rfl, tw_1570, tw_168, by decide +kernel, by decide⟩
set_option maxRecDepth 100000 in
set_option maxHeartbeats 4000000 in
theorem gX9_blanks_L0 (hfl : l.flags = flags0) (l0 : Nat) : ∀ (n : Nat) (s : pmM), pm_G l Γ zX9_blanks (d + 1) 0 [.ref l0] [] s (pm_lp n (X9_blanks_L0 l0) s) :=
  pm_loop (lsf := fun s : pmM => [.ref l0]) (mf := fun s : pmM => s) (fun again0 hag0 s0 => by
    unfold X9_blanks_L0
    refine pm_aload_n dX9_blanks_0 rfl rfl ?_
    refine pm_aload_n dX9_blanks_1 rfl rfl ?_
    refine fg_9_4 (y := zX9_blanks) (Or.inl tw_1381) dX9_blanks_2 (fun x1 => ?_)
    refine pm_rcv (fun hb9 hc9 => ?_)
    refine pm_kI rfl (pm_V (y := zX9_blanks) (z := zX9_byteAt) (As := [.int x1]) zkX9_byteAt pm_q9 (by decide) tw_1571 tw_1573 tw_104 dX9_blanks_5 rfl rfl (Nat.le_of_ble_eq_true rfl) hb9 hc9) (kcX9_byteAt hfl l0 x1 s0) (fun x3 m2 => ?_)
    refine pm_bipush (v := 32) dX9_blanks_8 kb_32 ?_
    refine pm_icmp_ne (tgt := 26) dX9_blanks_10 rfl ?_ ?_
    · exact pm_vret rfl dX9_blanks_26
    · refine pm_aload_n dX9_blanks_13 rfl rfl ?_
      refine pm_dup dX9_blanks_14 rfl ?_
      refine fg_9_4 (y := zX9_blanks) (Or.inl tw_1381) dX9_blanks_15 (fun x4 => ?_)
      refine pm_iconst (v := 1) dX9_blanks_18 ki_1 ?_
      refine pm_iadd dX9_blanks_19 ?_
      refine fp_9_4 (y := zX9_blanks) (Or.inl tw_1381) dX9_blanks_20 (fun m5 => ?_)
      refine pm_goto (tgt := 0) dX9_blanks_23 rfl ?_
      exact hag0 m5)
set_option maxRecDepth 100000 in
set_option maxHeartbeats 4000000 in
theorem kcX9_blanks (hfl : l.flags = flags0) (a0 : Nat) (m : pmM) : pm_C l Γ zX9_blanks (d + 1) [.ref a0] m (X9_blanks a0 m) := by
  refine pm_enter (ls := [.ref a0]) hfl (by decide +kernel) rfl (Nat.le_of_ble_eq_true rfl) rfl (Nat.le_of_ble_eq_true rfl) ?_
  unfold X9_blanks
  exact gX9_blanks_L0 hfl a0 pm_N m
-- StruckPageModel.wrong(II)V
abbrev zX9_wrong : pmY := (⟨"StruckPageModel", "wrong", "(II)V"⟩, cX9_wrong, 3, none, [])
def X9_wrong_j17 (m : pmM) : pmR := pm_oV m
def X9_wrong (a0 : Nat) (a1 : Int32) (a2 : Int32) (m : pmM) : pmR := pm_gI 9 a0 5 m fun x1 => if x1 = 0 then (pm_pI 9 a0 5 a1 m fun m2 => pm_pI 9 a0 6 a2 m2 fun m3 => X9_wrong_j17 m3) else (X9_wrong_j17 m)
theorem zkX9_wrong : pm_zOk zX9_wrong 2 := ⟨rfl, tw_1600, tw_168, by decide +kernel, by decide⟩
set_option maxRecDepth 100000 in
set_option maxHeartbeats 4000000 in
theorem gX9_wrong_j17 (hfl : l.flags = flags0) (m : pmM) : pm_G l Γ zX9_wrong (d + 0) 17 [pmU, pmU, pmU] [] m (X9_wrong_j17 m) := by
  unfold X9_wrong_j17
  exact pm_vret rfl dX9_wrong_17
set_option maxRecDepth 100000 in
set_option maxHeartbeats 4000000 in
theorem kcX9_wrong (hfl : l.flags = flags0) (a0 : Nat) (a1 : Int32) (a2 : Int32) (m : pmM) : pm_C l Γ zX9_wrong (d + 0) [.ref a0, .int a1, .int a2] m (X9_wrong a0 a1 a2 m) := by
  refine pm_enter (ls := [.ref a0, .int a1, .int a2]) hfl (by decide +kernel) rfl (Nat.le_of_ble_eq_true rfl) rfl (Nat.le_of_ble_eq_true rfl) ?_
  unfold X9_wrong
  refine pm_aload_n dX9_wrong_0 rfl rfl ?_
  refine fg_9_5 (y := zX9_wrong) (Or.inl tw_1382) dX9_wrong_1 (fun x1 => ?_)
  refine pm_if_ne (tgt := 17) dX9_wrong_4 rfl ?_ ?_
  · refine pm_drop (ls2 := [pmU, pmU, pmU]) (Nat.le_refl _) (pm_le_spec (pm_le_u (pm_le_u (pm_le_u (pm_le_n))))) ?_
    exact gX9_wrong_j17 hfl m
  · refine pm_aload_n dX9_wrong_7 rfl rfl ?_
    refine pm_iload_n dX9_wrong_8 rfl rfl ?_
    refine fp_9_5 (y := zX9_wrong) (Or.inl tw_1382) dX9_wrong_9 (fun m2 => ?_)
    refine pm_aload_n dX9_wrong_12 rfl rfl ?_
    refine pm_iload_n dX9_wrong_13 rfl rfl ?_
    refine fp_9_6 (y := zX9_wrong) (Or.inl tw_1383) dX9_wrong_14 (fun m3 => ?_)
    refine pm_drop (ls2 := [pmU, pmU, pmU]) (Nat.le_refl _) (pm_le_spec (pm_le_u (pm_le_u (pm_le_u (pm_le_n))))) ?_
    exact gX9_wrong_j17 hfl m3
-- StruckPageModel.isDigit(I)Z
abbrev zX9_isDigit : pmY := (⟨"StruckPageModel", "isDigit", "(I)Z"⟩, cX9_isDigit, 1, some .boolean, [])
def X9_isDigit_j17 (t0 : Int32) (m : pmM) : pmR := pm_oI (vp_nar .boolean t0) m
def X9_isDigit_j16 (m : pmM) : pmR := X9_isDigit_j17 0 m
def X9_isDigit (a0 : Int32) (m : pmM) : pmR := if a0 < 48 then (X9_isDigit_j16 m) else (if (57 : Int32) < a0 then (X9_isDigit_j16 m) else (X9_isDigit_j17 1 m))
theorem zkX9_isDigit : pm_zOk zX9_isDigit 1 := ⟨rfl, tw_1619, tw_168, by decide +kernel, by decide⟩
set_option maxRecDepth 100000 in
set_option maxHeartbeats 4000000 in
theorem gX9_isDigit_j17 (hfl : l.flags = flags0) (t0 : Int32) (m : pmM) : pm_G l Γ zX9_isDigit (d + 0) 17 [pmU] [.int t0] m (X9_isDigit_j17 t0 m) := by
  unfold X9_isDigit_j17
  exact pm_nret (ty := .boolean) (w := vp_nar .boolean t0) rfl (by decide) rfl dX9_isDigit_17
set_option maxRecDepth 100000 in
set_option maxHeartbeats 4000000 in
theorem gX9_isDigit_j16 (hfl : l.flags = flags0) (m : pmM) : pm_G l Γ zX9_isDigit (d + 0) 16 [pmU] [] m (X9_isDigit_j16 m) := by
  unfold X9_isDigit_j16
  refine pm_iconst (v := 0) dX9_isDigit_16 ki_0 ?_
  exact gX9_isDigit_j17 hfl 0 m
set_option maxRecDepth 100000 in
set_option maxHeartbeats 4000000 in
theorem kcX9_isDigit (hfl : l.flags = flags0) (a0 : Int32) (m : pmM) : pm_C l Γ zX9_isDigit (d + 0) [.int a0] m (X9_isDigit a0 m) := by
  refine pm_enter (ls := [.int a0]) hfl (by decide +kernel) rfl (Nat.le_of_ble_eq_true rfl) rfl (Nat.le_of_ble_eq_true rfl) ?_
  unfold X9_isDigit
  refine pm_iload_n dX9_isDigit_0 rfl rfl ?_
  refine pm_bipush (v := 48) dX9_isDigit_1 kb_48 ?_
  refine pm_icmp_lt (tgt := 16) dX9_isDigit_3 rfl ?_ ?_
  · refine pm_drop (ls2 := [pmU]) (Nat.le_refl _) (pm_le_spec (pm_le_u (pm_le_n))) ?_
    exact gX9_isDigit_j16 hfl m
  · refine pm_iload_n dX9_isDigit_6 rfl rfl ?_
    refine pm_bipush (v := 57) dX9_isDigit_7 kb_57 ?_
    refine pm_icmp_gt (tgt := 16) dX9_isDigit_9 rfl ?_ ?_
    · refine pm_drop (ls2 := [pmU]) (Nat.le_refl _) (pm_le_spec (pm_le_u (pm_le_n))) ?_
      exact gX9_isDigit_j16 hfl m
    · refine pm_iconst (v := 1) dX9_isDigit_12 ki_1 ?_
      refine pm_goto (tgt := 17) dX9_isDigit_13 rfl ?_
      refine pm_drop (ls2 := [pmU]) (Nat.le_refl _) (pm_le_spec (pm_le_u (pm_le_n))) ?_
      exact gX9_isDigit_j17 hfl 1 m
-- StruckPageModel.isSmall(I)Z
abbrev zX9_isSmall : pmY := (⟨"StruckPageModel", "isSmall", "(I)Z"⟩, cX9_isSmall, 1, some .boolean, [])
def X9_isSmall_j17 (t0 : Int32) (m : pmM) : pmR := pm_oI (vp_nar .boolean t0) m
def X9_isSmall_j16 (m : pmM) : pmR := X9_isSmall_j17 0 m
def X9_isSmall (a0 : Int32) (m : pmM) : pmR := if a0 < 97 then (X9_isSmall_j16 m) else (if (122 : Int32) < a0 then (X9_isSmall_j16 m) else (X9_isSmall_j17 1 m))
theorem zkX9_isSmall : pm_zOk zX9_isSmall 1 := ⟨rfl, tw_1593, tw_168, by decide +kernel, by decide⟩
set_option maxRecDepth 100000 in
set_option maxHeartbeats 4000000 in
theorem gX9_isSmall_j17 (hfl : l.flags = flags0) (t0 : Int32) (m : pmM) : pm_G l Γ zX9_isSmall (d + 0) 17 [pmU] [.int t0] m (X9_isSmall_j17 t0 m) := by
  unfold X9_isSmall_j17
  exact pm_nret (ty := .boolean) (w := vp_nar .boolean t0) rfl (by decide) rfl dX9_isSmall_17
set_option maxRecDepth 100000 in
set_option maxHeartbeats 4000000 in
theorem gX9_isSmall_j16 (hfl : l.flags = flags0) (m : pmM) : pm_G l Γ zX9_isSmall (d + 0) 16 [pmU] [] m (X9_isSmall_j16 m) := by
  unfold X9_isSmall_j16
  refine pm_iconst (v := 0) dX9_isSmall_16 ki_0 ?_
  exact gX9_isSmall_j17 hfl 0 m
set_option maxRecDepth 100000 in
set_option maxHeartbeats 4000000 in
theorem kcX9_isSmall (hfl : l.flags = flags0) (a0 : Int32) (m : pmM) : pm_C l Γ zX9_isSmall (d + 0) [.int a0] m (X9_isSmall a0 m) := by
  refine pm_enter (ls := [.int a0]) hfl (by decide +kernel) rfl (Nat.le_of_ble_eq_true rfl) rfl (Nat.le_of_ble_eq_true rfl) ?_
  unfold X9_isSmall
  refine pm_iload_n dX9_isSmall_0 rfl rfl ?_
  refine pm_bipush (v := 97) dX9_isSmall_1 kb_97 ?_
  refine pm_icmp_lt (tgt := 16) dX9_isSmall_3 rfl ?_ ?_
  · refine pm_drop (ls2 := [pmU]) (Nat.le_refl _) (pm_le_spec (pm_le_u (pm_le_n))) ?_
    exact gX9_isSmall_j16 hfl m
  · refine pm_iload_n dX9_isSmall_6 rfl rfl ?_
    refine pm_bipush (v := 122) dX9_isSmall_7 kb_122 ?_
    refine pm_icmp_gt (tgt := 16) dX9_isSmall_9 rfl ?_ ?_
    · refine pm_drop (ls2 := [pmU]) (Nat.le_refl _) (pm_le_spec (pm_le_u (pm_le_n))) ?_
      exact gX9_isSmall_j16 hfl m
    · refine pm_iconst (v := 1) dX9_isSmall_12 ki_1 ?_
      refine pm_goto (tgt := 17) dX9_isSmall_13 rfl ?_
      refine pm_drop (ls2 := [pmU]) (Nat.le_refl _) (pm_le_spec (pm_le_u (pm_le_n))) ?_
      exact gX9_isSmall_j17 hfl 1 m
-- StruckPageModel.number(II)I
abbrev zX9_number : pmY := (⟨"StruckPageModel", "number", "(II)I"⟩, cX9_number, 5, some .int, [])
def X9_number_j135 (t0 : Int32) (m : pmM) : pmR := pm_oI t0 m
def X9_number_j122 (l0 : Nat) (l4 : Int32) (m : pmM) : pmR := pm_gI 9 l0 5 m fun x16 => if x16 = 0 then (X9_number_j135 l4 m) else (X9_number_j135 0 m)
def X9_number_j91 (again44 : (Int32 × pmM) → pmR) (l0 : Nat) (l1 : Int32) (l2 : Int32) (l3 : Int32) (t0 : Int32) (m : pmM) : pmR := pm_gI 9 l0 4 m fun x22 => pm_pI 9 l0 4 (x22 + 1) m fun m23 => again44 (t0, m23)
def X9_number_L44 (l0 : Nat) (l1 : Int32) (l2 : Int32) (l3 : Int32) (again44 : (Int32 × pmM) → pmR) (s44 : Int32 × pmM) : pmR := pm_gI 9 l0 4 s44.2 fun x9 => pm_rc 9 l0 s44.2 <| pm_cI (X9_byteAt l0 x9 s44.2) fun x11 m10 => pm_cI (X9_isDigit x11 m10) fun x13 m12 => if x13 = 0 then (pm_cI (X9_in s44.1 l1 l2 m12) fun x15 m14 => if x15 = 0 then (pm_rc 9 l0 m14 <| pm_cV (X9_wrong l0 2 l3 m14) fun m17 => X9_number_j122 l0 s44.1 m17) else (X9_number_j122 l0 s44.1 m14)) else (pm_gI 9 l0 4 m12 fun x18 => pm_rc 9 l0 m12 <| pm_cI (X9_byteAt l0 x18 m12) fun x20 m19 => pm_bI ((((10 : Int32) * s44.1) + x20) - 48) fun x21 => if x21 ≤ 100000 then (X9_number_j91 again44 l0 l1 l2 l3 x21 m19) else (X9_number_j91 again44 l0 l1 l2 l3 100000 m19))
def X9_number (a0 : Nat) (a1 : Int32) (a2 : Int32) (m : pmM) : pmR := pm_gI 9 a0 5 m fun x1 => if x1 = 0 then (pm_rc 9 a0 m <| pm_cV (X9_blanks a0 m) fun m2 => pm_gI 9 a0 4 m2 fun x3 => pm_gI 9 a0 4 m2 fun x4 => pm_rc 9 a0 m2 <| pm_cI (X9_byteAt a0 x4 m2) fun x6 m5 => pm_cI (X9_isDigit x6 m5) fun x8 m7 => if x8 = 0 then (pm_gI 9 a0 4 m7 fun x24 => pm_rc 9 a0 m7 <| pm_cV (X9_wrong a0 1 x24 m7) fun m25 => pm_lp pm_N (X9_number_L44 a0 a1 a2 x3) (0, m25)) else (pm_lp pm_N (X9_number_L44 a0 a1 a2 x3) (0, m7))) else (pm_oI 0 m)
theorem zkX9_number : pm_zOk zX9_number 2 := ⟨rfl, tw_1616, tw_168, by decide +kernel, by decide⟩
set_option maxRecDepth 100000 in
set_option maxHeartbeats 4000000 in
theorem gX9_number_j135 (hfl : l.flags = flags0) (t0 : Int32) (m : pmM) : pm_G l Γ zX9_number (d + 2) 135 [pmU, pmU, pmU, pmU, pmU] [.int t0] m (X9_number_j135 t0 m) := by
  unfold X9_number_j135
  exact pm_iret rfl dX9_number_135
set_option maxRecDepth 100000 in
set_option maxHeartbeats 4000000 in
theorem gX9_number_j122 (hfl : l.flags = flags0) (l0 : Nat) (l4 : Int32) (m : pmM) : pm_G l Γ zX9_number (d + 2) 122 [.ref l0, pmU, pmU, pmU, .int l4] [] m (X9_number_j122 l0 l4 m) := by
  unfold X9_number_j122
  refine pm_aload_n dX9_number_122 rfl rfl ?_
  refine fg_9_5 (y := zX9_number) (Or.inl tw_1382) dX9_number_123 (fun x16 => ?_)
  refine pm_if_ne (tgt := 134) dX9_number_126 rfl ?_ ?_
  · refine pm_iconst (v := 0) dX9_number_134 ki_0 ?_
    refine pm_drop (ls2 := [pmU, pmU, pmU, pmU, pmU]) (Nat.le_refl _) (pm_le_spec (pm_le_u (pm_le_u (pm_le_u (pm_le_u (pm_le_u (pm_le_n))))))) ?_
    exact gX9_number_j135 hfl 0 m
  · refine pm_iload dX9_number_129 rfl ?_
    refine pm_goto (tgt := 135) dX9_number_131 rfl ?_
    refine pm_drop (ls2 := [pmU, pmU, pmU, pmU, pmU]) (Nat.le_refl _) (pm_le_spec (pm_le_u (pm_le_u (pm_le_u (pm_le_u (pm_le_u (pm_le_n))))))) ?_
    exact gX9_number_j135 hfl l4 m
set_option maxRecDepth 100000 in
set_option maxHeartbeats 4000000 in
theorem gX9_number_j91 (hfl : l.flags = flags0) (again44 : (Int32 × pmM) → pmR) (l0 : Nat) (l1 : Int32) (l2 : Int32) (l3 : Int32) (t0 : Int32) (m : pmM) (hag44 : ∀ s : Int32 × pmM, pm_G l Γ zX9_number (d + 2) 44 [.ref l0, .int l1, .int l2, .int l3, .int s.1] [] s.2 (again44 s)) : pm_G l Γ zX9_number (d + 2) 91 [.ref l0, .int l1, .int l2, .int l3, pmU] [.int t0] m (X9_number_j91 again44 l0 l1 l2 l3 t0 m) := by
  unfold X9_number_j91
  refine pm_istore (ls2 := [.ref l0, .int l1, .int l2, .int l3, .int t0]) dX9_number_91 rfl (Nat.le_of_ble_eq_true rfl) rfl ?_
  refine pm_aload_n dX9_number_93 rfl rfl ?_
  refine pm_dup dX9_number_94 rfl ?_
  refine fg_9_4 (y := zX9_number) (Or.inl tw_1381) dX9_number_95 (fun x22 => ?_)
  refine pm_iconst (v := 1) dX9_number_98 ki_1 ?_
  refine pm_iadd dX9_number_99 ?_
  refine fp_9_4 (y := zX9_number) (Or.inl tw_1381) dX9_number_100 (fun m23 => ?_)
  refine pm_goto (tgt := 44) dX9_number_103 rfl ?_
  exact hag44 (t0, m23)
set_option maxRecDepth 100000 in
set_option maxHeartbeats 4000000 in
theorem gX9_number_L44 (hfl : l.flags = flags0) (l0 : Nat) (l1 : Int32) (l2 : Int32) (l3 : Int32) : ∀ (n : Nat) (s : Int32 × pmM), pm_G l Γ zX9_number (d + 2) 44 [.ref l0, .int l1, .int l2, .int l3, .int s.1] [] s.2 (pm_lp n (X9_number_L44 l0 l1 l2 l3) s) :=
  pm_loop (lsf := fun s : Int32 × pmM => [.ref l0, .int l1, .int l2, .int l3, .int s.1]) (mf := fun s : Int32 × pmM => s.2) (fun again44 hag44 s44 => by
    unfold X9_number_L44
    refine pm_aload_n dX9_number_44 rfl rfl ?_
    refine pm_aload_n dX9_number_45 rfl rfl ?_
    refine fg_9_4 (y := zX9_number) (Or.inl tw_1381) dX9_number_46 (fun x9 => ?_)
    refine pm_rcv (fun hb9 hc9 => ?_)
    refine pm_kI rfl (pm_V (y := zX9_number) (z := zX9_byteAt) (As := [.int x9]) zkX9_byteAt pm_q9 (by decide) tw_1571 tw_1573 tw_104 dX9_number_49 rfl rfl (Nat.le_of_ble_eq_true rfl) hb9 hc9) (kcX9_byteAt hfl l0 x9 s44.2) (fun x11 m10 => ?_)
    refine pm_kI rfl (pm_S (y := zX9_number) (z := zX9_isDigit) (As := [.int x11]) zkX9_isDigit tw_1617 tw_1618 dX9_number_52 rfl rfl (Nat.le_of_ble_eq_true rfl)) (kcX9_isDigit hfl x11 m10) (fun x13 m12 => ?_)
    refine pm_if_eq (tgt := 106) dX9_number_55 rfl ?_ ?_
    · refine pm_iload dX9_number_106 rfl ?_
      refine pm_iload_n dX9_number_108 rfl rfl ?_
      refine pm_iload_n dX9_number_109 rfl rfl ?_
      refine pm_kI rfl (pm_S (y := zX9_number) (z := zX9_in) (As := [.int s44.1, .int l1, .int l2]) zkX9_in tw_1556 tw_1557 dX9_number_110 rfl rfl (Nat.le_of_ble_eq_true rfl)) (kcX9_in hfl s44.1 l1 l2 m12) (fun x15 m14 => ?_)
      refine pm_if_ne (tgt := 122) dX9_number_113 rfl ?_ ?_
      · refine pm_drop (ls2 := [.ref l0, pmU, pmU, pmU, .int s44.1]) (Nat.le_refl _) (pm_le_spec (pm_le_v (pm_le_u (pm_le_u (pm_le_u (pm_le_v (pm_le_n))))))) ?_
        exact gX9_number_j122 hfl l0 s44.1 m14
      · refine pm_aload_n dX9_number_116 rfl rfl ?_
        refine pm_iconst (v := 2) dX9_number_117 ki_2 ?_
        refine pm_iload_n dX9_number_118 rfl rfl ?_
        refine pm_rcv (fun hb9 hc9 => ?_)
        refine pm_kV rfl (pm_V (y := zX9_number) (z := zX9_wrong) (As := [.int 2, .int l3]) zkX9_wrong pm_q9 (by decide) tw_1597 tw_1599 tw_109 dX9_number_119 rfl rfl (Nat.le_of_ble_eq_true rfl) hb9 hc9) (kcX9_wrong hfl l0 2 l3 m14) (fun m17 => ?_)
        refine pm_drop (ls2 := [.ref l0, pmU, pmU, pmU, .int s44.1]) (Nat.le_refl _) (pm_le_spec (pm_le_v (pm_le_u (pm_le_u (pm_le_u (pm_le_v (pm_le_n))))))) ?_
        exact gX9_number_j122 hfl l0 s44.1 m17
    · refine pm_bipush (v := 10) dX9_number_58 kb_10 ?_
      refine pm_iload dX9_number_60 rfl ?_
      refine pm_imul dX9_number_62 ?_
      refine pm_aload_n dX9_number_63 rfl rfl ?_
      refine pm_aload_n dX9_number_64 rfl rfl ?_
      refine fg_9_4 (y := zX9_number) (Or.inl tw_1381) dX9_number_65 (fun x18 => ?_)
      refine pm_rcv (fun hb9 hc9 => ?_)
      refine pm_kI rfl (pm_V (y := zX9_number) (z := zX9_byteAt) (As := [.int x18]) zkX9_byteAt pm_q9 (by decide) tw_1571 tw_1573 tw_104 dX9_number_68 rfl rfl (Nat.le_of_ble_eq_true rfl) hb9 hc9) (kcX9_byteAt hfl l0 x18 m12) (fun x20 m19 => ?_)
      refine pm_iadd dX9_number_71 ?_
      refine pm_bipush (v := 48) dX9_number_72 kb_48 ?_
      refine pm_isub dX9_number_74 ?_
      refine pm_bIn (fun x21 => ?_)
      refine pm_istore (ls2 := [.ref l0, .int l1, .int l2, .int l3, .int x21]) dX9_number_75 rfl (Nat.le_of_ble_eq_true rfl) rfl ?_
      refine pm_iload dX9_number_77 rfl ?_
      refine pm_ldc (y := zX9_number) dX9_number_79 tw_1620 ?_
      refine pm_icmp_le (tgt := 89) dX9_number_81 rfl ?_ ?_
      · refine pm_iload dX9_number_89 rfl ?_
        refine pm_drop (ls2 := [.ref l0, .int l1, .int l2, .int l3, pmU]) (Nat.le_refl _) (pm_le_spec (pm_le_v (pm_le_v (pm_le_v (pm_le_v (pm_le_u (pm_le_n))))))) ?_
        exact gX9_number_j91 hfl again44 l0 l1 l2 l3 x21 m19 hag44
      · refine pm_ldc (y := zX9_number) dX9_number_84 tw_1620 ?_
        refine pm_goto (tgt := 91) dX9_number_86 rfl ?_
        refine pm_drop (ls2 := [.ref l0, .int l1, .int l2, .int l3, pmU]) (Nat.le_refl _) (pm_le_spec (pm_le_v (pm_le_v (pm_le_v (pm_le_v (pm_le_u (pm_le_n))))))) ?_
        exact gX9_number_j91 hfl again44 l0 l1 l2 l3 100000 m19 hag44)
set_option maxRecDepth 100000 in
set_option maxHeartbeats 4000000 in
theorem kcX9_number (hfl : l.flags = flags0) (a0 : Nat) (a1 : Int32) (a2 : Int32) (m : pmM) : pm_C l Γ zX9_number (d + 2) [.ref a0, .int a1, .int a2] m (X9_number a0 a1 a2 m) := by
  refine pm_enter (ls := [.ref a0, .int a1, .int a2, pmU, pmU]) hfl (by decide +kernel) rfl (Nat.le_of_ble_eq_true rfl) rfl (Nat.le_of_ble_eq_true rfl) ?_
  unfold X9_number
  refine pm_aload_n dX9_number_0 rfl rfl ?_
  refine fg_9_5 (y := zX9_number) (Or.inl tw_1382) dX9_number_1 (fun x1 => ?_)
  refine pm_if_eq (tgt := 9) dX9_number_4 rfl ?_ ?_
  · refine pm_aload_n dX9_number_9 rfl rfl ?_
    refine pm_rcv (fun hb9 hc9 => ?_)
    refine pm_kV rfl (pm_V (y := zX9_number) (z := zX9_blanks) (As := []) zkX9_blanks pm_q9 (by decide) tw_1567 tw_1569 tw_103 dX9_number_10 rfl rfl (Nat.le_of_ble_eq_true rfl) hb9 hc9) (kcX9_blanks hfl a0 m) (fun m2 => ?_)
    refine pm_aload_n dX9_number_13 rfl rfl ?_
    refine fg_9_4 (y := zX9_number) (Or.inl tw_1381) dX9_number_14 (fun x3 => ?_)
    refine pm_istore_n (ls2 := [.ref a0, .int a1, .int a2, .int x3, pmU]) dX9_number_17 rfl rfl (Nat.le_of_ble_eq_true rfl) rfl ?_
    refine pm_iconst (v := 0) dX9_number_18 ki_0 ?_
    refine pm_istore (ls2 := [.ref a0, .int a1, .int a2, .int x3, .int 0]) dX9_number_19 rfl (Nat.le_of_ble_eq_true rfl) rfl ?_
    refine pm_aload_n dX9_number_21 rfl rfl ?_
    refine pm_aload_n dX9_number_22 rfl rfl ?_
    refine fg_9_4 (y := zX9_number) (Or.inl tw_1381) dX9_number_23 (fun x4 => ?_)
    refine pm_rcv (fun hb9 hc9 => ?_)
    refine pm_kI rfl (pm_V (y := zX9_number) (z := zX9_byteAt) (As := [.int x4]) zkX9_byteAt pm_q9 (by decide) tw_1571 tw_1573 tw_104 dX9_number_26 rfl rfl (Nat.le_of_ble_eq_true rfl) hb9 hc9) (kcX9_byteAt hfl a0 x4 m2) (fun x6 m5 => ?_)
    refine pm_kI rfl (pm_S (y := zX9_number) (z := zX9_isDigit) (As := [.int x6]) zkX9_isDigit tw_1617 tw_1618 dX9_number_29 rfl rfl (Nat.le_of_ble_eq_true rfl)) (kcX9_isDigit hfl x6 m5) (fun x8 m7 => ?_)
    refine pm_if_ne (tgt := 44) dX9_number_32 rfl ?_ ?_
    · exact gX9_number_L44 hfl a0 a1 a2 x3 pm_N (0, m7)
    · refine pm_aload_n dX9_number_35 rfl rfl ?_
      refine pm_iconst (v := 1) dX9_number_36 ki_1 ?_
      refine pm_aload_n dX9_number_37 rfl rfl ?_
      refine fg_9_4 (y := zX9_number) (Or.inl tw_1381) dX9_number_38 (fun x24 => ?_)
      refine pm_rcv (fun hb9 hc9 => ?_)
      refine pm_kV rfl (pm_V (y := zX9_number) (z := zX9_wrong) (As := [.int 1, .int x24]) zkX9_wrong pm_q9 (by decide) tw_1597 tw_1599 tw_109 dX9_number_41 rfl rfl (Nat.le_of_ble_eq_true rfl) hb9 hc9) (kcX9_wrong hfl a0 1 x24 m7) (fun m25 => ?_)
      exact gX9_number_L44 hfl a0 a1 a2 x3 pm_N (0, m25)
  · refine pm_iconst (v := 0) dX9_number_7 ki_0 ?_
    exact pm_iret rfl dX9_number_8
end GEN15
