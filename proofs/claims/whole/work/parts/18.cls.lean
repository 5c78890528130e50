/-! what is known of the classes; what a throw rests on -/
theorem pm_w0 : ∀ w ∈ u_ws RX0 TX0 9, w ∈ pm_tbl := pm_inL [373, 375, 377, 379, 381, 383, 385, 387, 389] (by decide +kernel) (by decide +kernel)
theorem pm_k0 : pm_kn 0 (RX0, TX0, 9) tyX0 := ⟨rfl, pm_w0, nmX0, tyX0_ok, by decide⟩
theorem pm_kd0 : ∀ j, j < 9 → defaultValue (tyX0 j) = if pm_fr 0 j = true then .null else .int 0 := by decide +kernel
theorem pm_w1 : ∀ w ∈ u_ws RX1 TX1 4, w ∈ pm_tbl := pm_inL [285, 287, 289, 291] (by decide +kernel) (by decide +kernel)
theorem pm_k1 : pm_kn 1 (RX1, TX1, 4) tyX1 := ⟨rfl, pm_w1, nmX1, tyX1_ok, by decide⟩
theorem pm_kd1 : ∀ j, j < 4 → defaultValue (tyX1 j) = if pm_fr 1 j = true then .null else .int 0 := by decide +kernel
theorem pm_w2 : ∀ w ∈ u_ws RX2 TX2 6, w ∈ pm_tbl := pm_inL [253, 255, 257, 259, 261, 263] (by decide +kernel) (by decide +kernel)
theorem pm_k2 : pm_kn 2 (RX2, TX2, 6) tyX2 := ⟨rfl, pm_w2, nmX2, tyX2_ok, by decide⟩
theorem pm_kd2 : ∀ j, j < 6 → defaultValue (tyX2 j) = if pm_fr 2 j = true then .null else .int 0 := by decide +kernel
theorem pm_w3 : ∀ w ∈ u_ws RX3 TX3 2, w ∈ pm_tbl := pm_inL [307, 309] (by decide +kernel) (by decide +kernel)
theorem pm_k3 : pm_kn 3 (RX3, TX3, 2) tyX3 := ⟨rfl, pm_w3, nmX3, tyX3_ok, by decide⟩
theorem pm_kd3 : ∀ j, j < 2 → defaultValue (tyX3 j) = if pm_fr 3 j = true then .null else .int 0 := by decide +kernel
theorem pm_w4 : ∀ w ∈ u_ws RX4 TX4 6, w ∈ pm_tbl := pm_inL [425, 427, 429, 431, 433, 435] (by decide +kernel) (by decide +kernel)
theorem pm_k4 : pm_kn 4 (RX4, TX4, 6) tyX4 := ⟨rfl, pm_w4, nmX4, tyX4_ok, by decide⟩
theorem pm_kd4 : ∀ j, j < 6 → defaultValue (tyX4 j) = if pm_fr 4 j = true then .null else .int 0 := by decide +kernel
theorem pm_w5 : ∀ w ∈ u_ws RX5 TX5 4, w ∈ pm_tbl := pm_inL [404, 406, 408, 410] (by decide +kernel) (by decide +kernel)
theorem pm_k5 : pm_kn 5 (RX5, TX5, 4) tyX5 := ⟨rfl, pm_w5, nmX5, tyX5_ok, by decide⟩
theorem pm_kd5 : ∀ j, j < 4 → defaultValue (tyX5 j) = if pm_fr 5 j = true then .null else .int 0 := by decide +kernel
theorem pm_w6 : ∀ w ∈ u_ws RX6 TX6 10, w ∈ pm_tbl := pm_inL [331, 333, 335, 337, 339, 341, 343, 345, 347, 349] (by decide +kernel) (by decide +kernel)
theorem pm_k6 : pm_kn 6 (RX6, TX6, 10) tyX6 := ⟨rfl, pm_w6, nmX6, tyX6_ok, by decide⟩
theorem pm_kd6 : ∀ j, j < 10 → defaultValue (tyX6 j) = if pm_fr 6 j = true then .null else .int 0 := by decide +kernel
theorem pm_w7 : ∀ w ∈ u_ws RX7 TX7 8, w ∈ pm_tbl := pm_inL [213, 215, 217, 219, 221, 223, 225, 227] (by decide +kernel) (by decide +kernel)
theorem pm_k7 : pm_kn 7 (RX7, TX7, 8) tyX7 := ⟨rfl, pm_w7, nmX7, tyX7_ok, by decide⟩
theorem pm_kd7 : ∀ j, j < 8 → defaultValue (tyX7 j) = if pm_fr 7 j = true then .null else .int 0 := by decide +kernel
theorem pm_w8 : ∀ w ∈ u_ws RX8 TX8 15, w ∈ pm_tbl := pm_inL [454, 456, 458, 460, 462, 464, 466, 468, 470, 472, 474, 476, 478, 480, 482] (by decide +kernel) (by decide +kernel)
theorem pm_k8 : pm_kn 8 (RX8, TX8, 15) tyX8 := ⟨rfl, pm_w8, nmX8, tyX8_ok, by decide⟩
theorem pm_kd8 : ∀ j, j < 15 → defaultValue (tyX8 j) = if pm_fr 8 j = true then .null else .int 0 := by decide +kernel
theorem pm_w9 : ∀ w ∈ u_ws RX9 TX9 55, w ∈ pm_tbl := pm_inL [1421, 1423, 1425, 1427, 1429, 1431, 1433, 1435, 1437, 1439, 1441, 1443, 1445, 1447, 1449, 1451, 1453, 1455, 1457, 1459, 1461, 1463, 1465, 1467, 1469, 1471, 1473, 1475, 1477, 1479, 1481, 1483, 1485, 1487, 1489, 1491, 1493, 1495, 1497, 1499, 1501, 1503, 1505, 1507, 1509, 1511, 1513, 1515, 1517, 1519, 1521, 1523, 1525, 1527, 1529] (by decide +kernel) (by decide +kernel)
theorem pm_k9 : pm_kn 9 (RX9, TX9, 55) tyX9 := ⟨rfl, pm_w9, nmX9, tyX9_ok, by decide⟩
theorem pm_kd9 : ∀ j, j < 55 → defaultValue (tyX9 j) = if pm_fr 9 j = true then .null else .int 0 := by decide +kernel
def pm_b13 : ByteArray := ⟨#[0x2a, 0x2b, 0xb7, 0x00, 0x0d, 0xb1]⟩
/-- what NoSuchElementException(String) rests on: its own call of the constructor above is entry 13 -/
def pm_atN (own : String) (ic : Nat) : List Cond := (Bundle.throwableAtoms ++ Bundle.throwableSAtoms ++ Bundle.passSAtoms "java/util/NoSuchElementException" "java/lang/RuntimeException" 13 pm_b13 ++ Bundle.chainSAtoms "java/lang/RuntimeException" ["java/lang/Exception"] ++
  ([.methodLink own ic (Bundle.initS "java/util/NoSuchElementException"), .instantiable "java/util/NoSuchElementException" 6, .castable "java/util/NoSuchElementException" "java/util/NoSuchElementException", .selects "java/util/NoSuchElementException" Bundle.tFill0 Bundle.tFill0, .selects "java/util/NoSuchElementException" Bundle.tFill Bundle.tFill,
   .lays "java/util/NoSuchElementException" Bundle.tN "cause" "Ljava/lang/Throwable;", .lays "java/util/NoSuchElementException" Bundle.tN "stackTrace" Bundle.steD, .lays "java/util/NoSuchElementException" Bundle.tN "suppressedExceptions" Bundle.listD, .lays "java/util/NoSuchElementException" Bundle.tN "detailMessage" "Ljava/lang/String;",
   .fieldLink Bundle.tN 198 Bundle.tN "backtrace" "Ljava/lang/Object;", .lays Bundle.tN Bundle.tN "backtrace" "Ljava/lang/Object;", .lays "java/util/NoSuchElementException" Bundle.tN "backtrace" "Ljava/lang/Object;"] : List Cond)).filter vx_no
def pm_xOkN (own text : String) (ik is ic : Nat) : Prop := Cond.classLink own ik "java/util/NoSuchElementException" ∈ pm_tbl ∧ Cond.initialized "java/util/NoSuchElementException" ∈ pm_tbl ∧ (own, is, text) ∈ pm_msgs ∧ (∀ w ∈ pm_atN own ic, w ∈ pm_tbl ∨ (w ∈ pm_nest ∧ w.onTables = true)) ∧ (Cond.classLink own ik "java/util/NoSuchElementException" :: Cond.initialized "java/util/NoSuchElementException" :: pm_atN own ic).all vx_ot = true
theorem pm_xw {L : List Cond} (ps : List Nat) (hp : L = ps.filterMap (fun i => lw_tbl[i]?)) (h : L.all (fun w => goodWord w || (pm_isN w && w.onTables)) = true) : ∀ w ∈ L, w ∈ pm_tbl ∨ (w ∈ pm_nest ∧ w.onTables = true) := by
  intro w hw
  have h1 := List.all_eq_true.mp h w hw
  rw [hp] at hw
  obtain ⟨i, -, hi⟩ := List.mem_filterMap.mp hw
  have hm := List.mem_of_getElem? hi
  simp only [Bool.or_eq_true, Bool.and_eq_true] at h1
  rcases h1 with q | q
  · exact Or.inl (List.mem_filter.mpr ⟨hm, q⟩)
  · exact Or.inr ⟨List.mem_filter.mpr ⟨hm, q.1⟩, q.2⟩
theorem px_355 : pm_xOk "StruckPage" (pm_exn 1) "out of what the document allows" 353 355 357 := ⟨by decide +kernel, tw_688, tw_170, by decide +kernel, pm_xw [167, 710, 719, 722, 725, 727, 711, 712, 184, 185, 713, 718, 723, 743, 700, 744, 702, 745, 704, 714, 716, 706, 739, 740, 742, 706, 730, 731, 732, 733, 692, 733, 734, 735, 736, 694, 736, 737, 738, 739, 696, 729, 689, 690, 697, 698, 699, 701, 703, 705, 709, 708, 707] (by decide +kernel) (by decide +kernel), by decide +kernel⟩
theorem px_362 : pm_xOkN "StruckPage" "no such line" 360 362 364 := ⟨tw_1101, tw_177, by decide +kernel, pm_xw [167, 710, 719, 722, 725, 727, 711, 712, 184, 185, 713, 718, 723, 743, 700, 744, 702, 745, 704, 714, 716, 706, 739, 740, 742, 706, 1112, 1113, 1114, 733, 692, 733, 734, 735, 736, 694, 736, 737, 738, 739, 696, 1111, 1102, 1103, 1104, 721, 1105, 1106, 1107, 1108, 709, 708, 1109] (by decide +kernel) (by decide +kernel), by decide +kernel⟩
theorem px_368 : pm_xOkN "StruckPage" "no such word" 360 368 364 := ⟨tw_1101, tw_177, by decide +kernel, pm_xw [167, 710, 719, 722, 725, 727, 711, 712, 184, 185, 713, 718, 723, 743, 700, 744, 702, 745, 704, 714, 716, 706, 739, 740, 742, 706, 1112, 1113, 1114, 733, 692, 733, 734, 735, 736, 694, 736, 737, 738, 739, 696, 1111, 1102, 1103, 1104, 721, 1105, 1106, 1107, 1108, 709, 708, 1109] (by decide +kernel) (by decide +kernel), by decide +kernel⟩
