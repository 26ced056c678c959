/-! ===== by program: classes, methods ===== -/
theorem cw_0 : ev_cw (RJ0, TJ0, 4) := by
  have h : u_ws RJ0 TJ0 4 = [601, 603, 605, 607].filterMap (fun i => lw_tbl[i]?) := by decide +kernel
  have h2 : (u_ws RJ0 TJ0 4).all ev_gd = true := by decide +kernel
  intro w hw
  refine ⟨?_, List.all_eq_true.mp h2 w hw⟩
  have hw2 : w ∈ u_ws RJ0 TJ0 4 := hw
  rw [h] at hw2
  obtain ⟨i, -, hi⟩ := List.mem_filterMap.mp hw2
  exact List.mem_of_getElem? hi
theorem ap_0 : ev_ap (RJ0, TJ0, 4) := ⟨tyJ0, tyJ0_ok, nmJ0⟩
theorem nw_0 : ∀ j, j < 4 → defaultValue (tyJ0 j) = vp_V [.null, .int 0, .int 0, .int 0] j := by decide +kernel
theorem cw_1 : ev_cw (RJ4, TJ4, 4) := by
  have h : u_ws RJ4 TJ4 4 = [302, 304, 306, 308].filterMap (fun i => lw_tbl[i]?) := by decide +kernel
  have h2 : (u_ws RJ4 TJ4 4).all ev_gd = true := by decide +kernel
  intro w hw
  refine ⟨?_, List.all_eq_true.mp h2 w hw⟩
  have hw2 : w ∈ u_ws RJ4 TJ4 4 := hw
  rw [h] at hw2
  obtain ⟨i, -, hi⟩ := List.mem_filterMap.mp hw2
  exact List.mem_of_getElem? hi
theorem ap_1 : ev_ap (RJ4, TJ4, 4) := ⟨tyJ4, tyJ4_ok, nmJ4⟩
theorem nw_1 : ∀ j, j < 4 → defaultValue (tyJ4 j) = vp_V [.null, .int 0, .int 0, .int 0] j := by decide +kernel
theorem cw_2 : ev_cw (RJ6, TJ6, 1) := by
  have h : u_ws RJ6 TJ6 1 = [1621].filterMap (fun i => lw_tbl[i]?) := by decide +kernel
  have h2 : (u_ws RJ6 TJ6 1).all ev_gd = true := by decide +kernel
  intro w hw
  refine ⟨?_, List.all_eq_true.mp h2 w hw⟩
  have hw2 : w ∈ u_ws RJ6 TJ6 1 := hw
  rw [h] at hw2
  obtain ⟨i, -, hi⟩ := List.mem_filterMap.mp hw2
  exact List.mem_of_getElem? hi
theorem ap_2 : ev_ap (RJ6, TJ6, 1) := ⟨tyJ6, tyJ6_ok, nmJ6⟩
theorem nw_2 : ∀ j, j < 1 → defaultValue (tyJ6 j) = vp_V [.int 0] j := by decide +kernel
theorem cw_3 : ev_cw (RJx35411, TJx35411, 4) := by
  have h : u_ws RJx35411 TJx35411 4 = [1448, 1450, 1452, 1454].filterMap (fun i => lw_tbl[i]?) := by decide +kernel
  have h2 : (u_ws RJx35411 TJx35411 4).all ev_gd = true := by decide +kernel
  intro w hw
  refine ⟨?_, List.all_eq_true.mp h2 w hw⟩
  have hw2 : w ∈ u_ws RJx35411 TJx35411 4 := hw
  rw [h] at hw2
  obtain ⟨i, -, hi⟩ := List.mem_filterMap.mp hw2
  exact List.mem_of_getElem? hi
theorem ap_3 : ev_ap (RJx35411, TJx35411, 4) := ⟨tyJx35411, tyJx35411_ok, nmJx35411⟩
theorem nw_3 : ∀ j, j < 4 → defaultValue (tyJx35411 j) = vp_V [.int 0, .int 0, .int 0, .null] j := by decide +kernel
theorem cw_4 : ev_cw (RJx4a65c, TJx4a65c, 3) := by
  have h : u_ws RJx4a65c TJx4a65c 3 = [1218, 1214, 1216].filterMap (fun i => lw_tbl[i]?) := by decide +kernel
  have h2 : (u_ws RJx4a65c TJx4a65c 3).all ev_gd = true := by decide +kernel
  intro w hw
  refine ⟨?_, List.all_eq_true.mp h2 w hw⟩
  have hw2 : w ∈ u_ws RJx4a65c TJx4a65c 3 := hw
  rw [h] at hw2
  obtain ⟨i, -, hi⟩ := List.mem_filterMap.mp hw2
  exact List.mem_of_getElem? hi
theorem ap_4 : ev_ap (RJx4a65c, TJx4a65c, 3) := ⟨tyJx4a65c, tyJx4a65c_ok, nmJx4a65c⟩
theorem nw_4 : ∀ j, j < 3 → defaultValue (tyJx4a65c j) = vp_V [.int 0, .null, .int 0] j := by decide +kernel
theorem cw_5 : ev_cw (RX0, TX0, 6) := by
  have h : u_ws RX0 TX0 6 = [107, 109, 111, 113, 115, 117].filterMap (fun i => lw_tbl[i]?) := by decide +kernel
  have h2 : (u_ws RX0 TX0 6).all ev_gd = true := by decide +kernel
  intro w hw
  refine ⟨?_, List.all_eq_true.mp h2 w hw⟩
  have hw2 : w ∈ u_ws RX0 TX0 6 := hw
  rw [h] at hw2
  obtain ⟨i, -, hi⟩ := List.mem_filterMap.mp hw2
  exact List.mem_of_getElem? hi
theorem ap_5 : ev_ap (RX0, TX0, 6) := ⟨tyX0, tyX0_ok, nmX0⟩
theorem nw_5 : ∀ j, j < 6 → defaultValue (tyX0 j) = vp_V [.null, .null, .null, .null, .null, .int 0] j := by decide +kernel
theorem cw_6 : ev_cw (RX1, TX1, 3) := by
  have h : u_ws RX1 TX1 3 = [210, 212, 214].filterMap (fun i => lw_tbl[i]?) := by decide +kernel
  have h2 : (u_ws RX1 TX1 3).all ev_gd = true := by decide +kernel
  intro w hw
  refine ⟨?_, List.all_eq_true.mp h2 w hw⟩
  have hw2 : w ∈ u_ws RX1 TX1 3 := hw
  rw [h] at hw2
  obtain ⟨i, -, hi⟩ := List.mem_filterMap.mp hw2
  exact List.mem_of_getElem? hi
theorem ap_6 : ev_ap (RX1, TX1, 3) := ⟨tyX1, tyX1_ok, nmX1⟩
theorem nw_6 : ∀ j, j < 3 → defaultValue (tyX1 j) = vp_V [.null, .int 0, .int 0] j := by decide +kernel
theorem cw_7 : ev_cw (RX2, TX2, 7) := by
  have h : u_ws RX2 TX2 7 = [141, 143, 145, 147, 149, 151, 153].filterMap (fun i => lw_tbl[i]?) := by decide +kernel
  have h2 : (u_ws RX2 TX2 7).all ev_gd = true := by decide +kernel
  intro w hw
  refine ⟨?_, List.all_eq_true.mp h2 w hw⟩
  have hw2 : w ∈ u_ws RX2 TX2 7 := hw
  rw [h] at hw2
  obtain ⟨i, -, hi⟩ := List.mem_filterMap.mp hw2
  exact List.mem_of_getElem? hi
theorem ap_7 : ev_ap (RX2, TX2, 7) := ⟨tyX2, tyX2_ok, nmX2⟩
theorem nw_7 : ∀ j, j < 7 → defaultValue (tyX2 j) = vp_V [.null, .null, .int 0, .int 0, .int 0, .int 0, .int 0] j := by decide +kernel
theorem cw_8 : ev_cw (RX3, TX3, 2) := by
  have h : u_ws RX3 TX3 2 = [192, 194].filterMap (fun i => lw_tbl[i]?) := by decide +kernel
  have h2 : (u_ws RX3 TX3 2).all ev_gd = true := by decide +kernel
  intro w hw
  refine ⟨?_, List.all_eq_true.mp h2 w hw⟩
  have hw2 : w ∈ u_ws RX3 TX3 2 := hw
  rw [h] at hw2
  obtain ⟨i, -, hi⟩ := List.mem_filterMap.mp hw2
  exact List.mem_of_getElem? hi
theorem ap_8 : ev_ap (RX3, TX3, 2) := ⟨tyX3, tyX3_ok, nmX3⟩
theorem nw_8 : ∀ j, j < 2 → defaultValue (tyX3 j) = vp_V [.null, .null] j := by decide +kernel
theorem cw_9 : ev_cw (RX4, TX4, 6) := by
  have h : u_ws RX4 TX4 6 = [175, 177, 179, 181, 183, 185].filterMap (fun i => lw_tbl[i]?) := by decide +kernel
  have h2 : (u_ws RX4 TX4 6).all ev_gd = true := by decide +kernel
  intro w hw
  refine ⟨?_, List.all_eq_true.mp h2 w hw⟩
  have hw2 : w ∈ u_ws RX4 TX4 6 := hw
  rw [h] at hw2
  obtain ⟨i, -, hi⟩ := List.mem_filterMap.mp hw2
  exact List.mem_of_getElem? hi
theorem ap_9 : ev_ap (RX4, TX4, 6) := ⟨tyX4, tyX4_ok, nmX4⟩
theorem nw_9 : ∀ j, j < 6 → defaultValue (tyX4 j) = vp_V [.null, .int 0, .int 0, .int 0, .int 0, .int 0] j := by decide +kernel
theorem cw_10 : ev_cw (RX5, TX5, 7) := by
  have h : u_ws RX5 TX5 7 = [224, 226, 228, 230, 232, 234, 236].filterMap (fun i => lw_tbl[i]?) := by decide +kernel
  have h2 : (u_ws RX5 TX5 7).all ev_gd = true := by decide +kernel
  intro w hw
  refine ⟨?_, List.all_eq_true.mp h2 w hw⟩
  have hw2 : w ∈ u_ws RX5 TX5 7 := hw
  rw [h] at hw2
  obtain ⟨i, -, hi⟩ := List.mem_filterMap.mp hw2
  exact List.mem_of_getElem? hi
theorem ap_10 : ev_ap (RX5, TX5, 7) := ⟨tyX5, tyX5_ok, nmX5⟩
theorem nw_10 : ∀ j, j < 7 → defaultValue (tyX5 j) = vp_V [.null, .null, .null, .null, .null, .int 0, .int 0] j := by decide +kernel
theorem cw_11 : ev_cw (RX6, TX6, 2) := by
  have h : u_ws RX6 TX6 2 = [813, 815].filterMap (fun i => lw_tbl[i]?) := by decide +kernel
  have h2 : (u_ws RX6 TX6 2).all ev_gd = true := by decide +kernel
  intro w hw
  refine ⟨?_, List.all_eq_true.mp h2 w hw⟩
  have hw2 : w ∈ u_ws RX6 TX6 2 := hw
  rw [h] at hw2
  obtain ⟨i, -, hi⟩ := List.mem_filterMap.mp hw2
  exact List.mem_of_getElem? hi
theorem ap_11 : ev_ap (RX6, TX6, 2) := ⟨tyX6, tyX6_ok, nmX6⟩
theorem nw_11 : ∀ j, j < 2 → defaultValue (tyX6 j) = vp_V [.long 0, .null] j := by decide +kernel
theorem cw_12 : ev_cw (RX7, TX7, 9) := by
  have h : u_ws RX7 TX7 9 = [1239, 1241, 1243, 1245, 1247, 1249, 1251, 1253, 1255].filterMap (fun i => lw_tbl[i]?) := by decide +kernel
  have h2 : (u_ws RX7 TX7 9).all ev_gd = true := by decide +kernel
  intro w hw
  refine ⟨?_, List.all_eq_true.mp h2 w hw⟩
  have hw2 : w ∈ u_ws RX7 TX7 9 := hw
  rw [h] at hw2
  obtain ⟨i, -, hi⟩ := List.mem_filterMap.mp hw2
  exact List.mem_of_getElem? hi
theorem ap_12 : ev_ap (RX7, TX7, 9) := ⟨tyX7, tyX7_ok, nmX7⟩
theorem nw_12 : ∀ j, j < 9 → defaultValue (tyX7 j) = vp_V [.null, .int 0, .int 0, .int 0, .int 0, .int 0, .int 0, .int 0, .int 0] j := by decide +kernel
theorem cw_13 : ev_cw (RX8, TX8, 5) := by
  have h : u_ws RX8 TX8 5 = [1265, 1267, 1269, 1271, 1273].filterMap (fun i => lw_tbl[i]?) := by decide +kernel
  have h2 : (u_ws RX8 TX8 5).all ev_gd = true := by decide +kernel
  intro w hw
  refine ⟨?_, List.all_eq_true.mp h2 w hw⟩
  have hw2 : w ∈ u_ws RX8 TX8 5 := hw
  rw [h] at hw2
  obtain ⟨i, -, hi⟩ := List.mem_filterMap.mp hw2
  exact List.mem_of_getElem? hi
theorem ap_13 : ev_ap (RX8, TX8, 5) := ⟨tyX8, tyX8_ok, nmX8⟩
theorem nw_13 : ∀ j, j < 5 → defaultValue (tyX8 j) = vp_V [.int 0, .int 0, .int 0, .null, .null] j := by decide +kernel
abbrev x_J0_coder_7d493 : ev_I := (yJ0_coder_7d493, cJ0_coder_7d493, 1, (some .byte), [], 0)
abbrev x_J1_canEncode_fc78d : ev_I := (yJ1_canEncode_fc78d, cJ1_canEncode_fc78d, 1, (some .boolean), [], 0)
abbrev x_J2_coderFromArrayLen_85cad : ev_I := (yJ2_coderFromArrayLen_85cad, cJ2_coderFromArrayLen_85cad, 2, (some .byte), [], 0)
abbrev x_J2_length_9d52b : ev_I := (yJ2_length_9d52b, cJ2_length_9d52b, 1, (some .int), [], 0)
abbrev x_J2_newBytesLength_0f7a4 : ev_I := (yJ2_newBytesLength_0f7a4, cJ2_newBytesLength_0f7a4, 1, (some .int), [], 0)
abbrev x_J3_checkFromIndexSize_8c36e : ev_I := (yJ3_checkFromIndexSize_8c36e, cJ3_checkFromIndexSize_8c36e, 4, (some .int), [], 0)
abbrev x_J3_checkFromToIndex_8c36e : ev_I := (yJ3_checkFromToIndex_8c36e, cJ3_checkFromToIndex_8c36e, 4, (some .int), [], 0)
abbrev x_J3_checkIndex_8e157 : ev_I := (yJ3_checkIndex_8e157, cJ3_checkIndex_8e157, 3, (some .int), [], 0)
abbrev x_J5_getValue_6d5f1 : ev_I := (yJ5_getValue_6d5f1, cJ5_getValue_6d5f1, 1, (some (.array .byte)), [], 0)
abbrev x_J5_isLatin1_aae02 : ev_I := (yJ5_isLatin1_aae02, cJ5_isLatin1_aae02, 1, (some .boolean), [], 0)
abbrev x_J5_length_8abf5 : ev_I := (yJ5_length_8abf5, cJ5_length_8abf5, 1, (some .int), [], 0)
abbrev x_J6_getChars_ba4f3 : ev_I := (yJ6_getChars_ba4f3, cJ6_getChars_ba4f3, 7, (some .int), [], 0)
abbrev x_J6_intValue_8abf5 : ev_I := (yJ6_intValue_8abf5, cJ6_intValue_8abf5, 1, (some .int), [], 0)
abbrev x_J6_stringSize_0f7a4 : ev_I := (yJ6_stringSize_0f7a4, cJ6_stringSize_0f7a4, 4, (some .int), [], 0)
abbrev x_J7_checkLength_df160 : ev_I := (yJ7_checkLength_df160, cJ7_checkLength_df160, 2, none, [], 0)
abbrev x_J8_hugeLength_7cf53 : ev_I := (yJ8_hugeLength_7cf53, cJ8_hugeLength_7cf53, 3, (some .int), [], 0)
abbrev x_J9_max_7cf53 : ev_I := (yJ9_max_7cf53, cJ9_max_7cf53, 2, (some .int), [], 0)
abbrev x_J9_min_7cf53 : ev_I := (yJ9_min_7cf53, cJ9_min_7cf53, 2, (some .int), [], 0)
abbrev x_Jx35411_checkForComodification_da8c8 : ev_I := (yJx35411_checkForComodification_da8c8, cJx35411_checkForComodification_da8c8, 1, none, [], 0)
abbrev x_Jx35411_hasNext_aae02 : ev_I := (yJx35411_hasNext_aae02, cJx35411_hasNext_aae02, 1, (some .boolean), [], 0)
abbrev x_Jx35411_init_45d68 : ev_I := (yJx35411_init_45d68, cJx35411_init_45d68, 2, none, [], 0)
abbrev x_Jx4a65c_clear_da8c8 : ev_I := (yJx4a65c_clear_da8c8, cJx4a65c_clear_da8c8, 4, none, [], 0)
abbrev x_Jx4a65c_elementData_915e3 : ev_I := (yJx4a65c_elementData_915e3, cJx4a65c_elementData_915e3, 2, (some (.object "java/lang/Object")), [], 0)
abbrev x_Jx4a65c_fastRemove_b59b0 : ev_I := (yJx4a65c_fastRemove_b59b0, cJx4a65c_fastRemove_b59b0, 4, none, [], 0)
abbrev x_Jx4a65c_size_8abf5 : ev_I := (yJx4a65c_size_8abf5, cJx4a65c_size_8abf5, 1, (some .int), [], 0)
abbrev x_Jxa1e45_init_da8c8 : ev_I := (yJxa1e45_init_da8c8, cJxa1e45_init_da8c8, 1, none, [], 0)
abbrev x_Jxd2413_init_da8c8 : ev_I := (yJxd2413_init_da8c8, cJxd2413_init_da8c8, 1, none, [], 0)
abbrev x_X0_countOfDepth : ev_I := (yX0_countOfDepth, cX0_countOfDepth, 4, (some .int), [], 0)
abbrev x_X0_countOutOfReach : ev_I := (yX0_countOutOfReach, cX0_countOutOfReach, 4, (some .int), [], 0)
abbrev x_X0_farthestPlace : ev_I := (yX0_farthestPlace, cX0_farthestPlace, 4, (some .int), [], 0)
abbrev x_X0_heldPlace : ev_I := (yX0_heldPlace, cX0_heldPlace, 4, (some .int), [], 0)
abbrev x_X0_init : ev_I := (yX0_init, cX0_init, 1, none, [], 0)
abbrev x_X0_isNumber : ev_I := (yX0_isNumber, cX0_isNumber, 2, (some .boolean), [], 0)
abbrev x_X0_noteNext : ev_I := (yX0_noteNext, cX0_noteNext, 3, none, [], 0)
abbrev x_X2_append : ev_I := (yX2_append, cX2_append, 3, none, [], 0)
abbrev x_X2_dropAll : ev_I := (yX2_dropAll, cX2_dropAll, 2, (some .int), [], 0)
abbrev x_X2_find : ev_I := (yX2_find, cX2_find, 3, (some .int), [], 0)
abbrev x_X2_init : ev_I := (yX2_init, cX2_init, 3, none, [], 0)
abbrev x_X2_isAboveMost : ev_I := (yX2_isAboveMost, cX2_isAboveMost, 1, (some .boolean), [], 0)
abbrev x_X2_isPlace : ev_I := (yX2_isPlace, cX2_isPlace, 2, (some .boolean), [], 0)
abbrev x_X2_sumOfValues : ev_I := (yX2_sumOfValues, cX2_sumOfValues, 3, (some .int), [], 0)
abbrev x_X4_begin : ev_I := (yX4_begin, cX4_begin, 2, none, [], 0)
abbrev x_X4_init : ev_I := (yX4_init, cX4_init, 2, none, [], 0)
abbrev x_X4_isOutdated : ev_I := (yX4_isOutdated, cX4_isOutdated, 1, (some .boolean), [], 0)
abbrev x_X4_isUsable : ev_I := (yX4_isUsable, cX4_isUsable, 1, (some .boolean), [], 0)
abbrev x_X4_outdate : ev_I := (yX4_outdate, cX4_outdate, 1, none, [], 0)
abbrev x_X5_areBestsWithinMisses : ev_I := (yX5_areBestsWithinMisses, cX5_areBestsWithinMisses, 2, (some .boolean), [], 0)
abbrev x_X5_asked : ev_I := (yX5_asked, cX5_asked, 1, (some .int), [], 0)
abbrev x_X5_demandKey : ev_I := (yX5_demandKey, cX5_demandKey, 1, none, [], 0)
abbrev x_X5_demandKindOfWalk : ev_I := (yX5_demandKindOfWalk, cX5_demandKindOfWalk, 1, none, [], 0)
abbrev x_X5_demandRoomFor : ev_I := (yX5_demandRoomFor, cX5_demandRoomFor, 2, none, [], 0)
abbrev x_X5_demandSize : ev_I := (yX5_demandSize, cX5_demandSize, 1, none, [], 0)
abbrev x_X5_demandValue : ev_I := (yX5_demandValue, cX5_demandValue, 1, none, [], 0)
abbrev x_X5_isNoneGrowingWithSize : ev_I := (yX5_isNoneGrowingWithSize, cX5_isNoneGrowingWithSize, 2, (some .boolean), [], 0)
abbrev x_X5_isTheoremKept : ev_I := (yX5_isTheoremKept, cX5_isTheoremKept, 3, (some .boolean), [], 0)
abbrev x_X5_knock : ev_I := (yX5_knock, cX5_knock, 1, (some .int), [], 0)
abbrev x_X5_mixed : ev_I := (yX5_mixed, cX5_mixed, 3, (some .long), [], 0)
abbrev x_X5_pairsOfTables : ev_I := (yX5_pairsOfTables, cX5_pairsOfTables, 6, (some .int), [], 0)
abbrev x_X5_refuse : ev_I := (yX5_refuse, cX5_refuse, 1, (some .int), [], 0)
abbrev x_X5_tableOf : ev_I := (yX5_tableOf, cX5_tableOf, 2, (some (.object "Lastasked$Table")), [], 0)
abbrev x_X6_init : ev_I := (yX6_init, cX6_init, 1, none, [], 0)
abbrev x_X7_anew : ev_I := (yX7_anew, cX7_anew, 3, none, [], 0)
abbrev x_X7_isOn : ev_I := (yX7_isOn, cX7_isOn, 1, (some .boolean), [], 0)
abbrev x_X8_fails : ev_I := (yX8_fails, cX8_fails, 4, (some .boolean), [], 0)
abbrev x_X8_hitsOf : ev_I := (yX8_hitsOf, cX8_hitsOf, 2, (some .int), [], 0)
abbrev x_X8_isOut : ev_I := (yX8_isOut, cX8_isOut, 2, (some .boolean), [], 0)
abbrev x_X8_isSound : ev_I := (yX8_isSound, cX8_isSound, 1, (some .boolean), [], 0)
abbrev x_X8_isStaleNow : ev_I := (yX8_isStaleNow, cX8_isStaleNow, 2, (some .boolean), [], 0)
abbrev x_X8_knock : ev_I := (yX8_knock, cX8_knock, 1, (some .int), [], 0)
abbrev x_X8_no : ev_I := (yX8_no, cX8_no, 1, (some .int), [], 0)
abbrev x_X8_one : ev_I := (yX8_one, cX8_one, 1, (some .int), [], 0)
abbrev x_X8_thrown : ev_I := (yX8_thrown, cX8_thrown, 1, (some .int), [], 0)
abbrev x_J0_checkBoundsBeginEnd_23922 : ev_I := (yJ0_checkBoundsBeginEnd_23922, cJ0_checkBoundsBeginEnd_23922, 3, none, [], 1)
abbrev x_J0_checkBoundsOffCount_cabcc : ev_I := (yJ0_checkBoundsOffCount_cabcc, cJ0_checkBoundsOffCount_cabcc, 3, (some .int), [], 1)
abbrev x_J0_checkIndex_df160 : ev_I := (yJ0_checkIndex_df160, cJ0_checkIndex_df160, 2, none, [], 1)
abbrev x_J0_length_8abf5 : ev_I := (yJ0_length_8abf5, cJ0_length_8abf5, 1, (some .int), [], 1)
abbrev x_J15_checkIndex_7cf53 : ev_I := (yJ15_checkIndex_7cf53, cJ15_checkIndex_7cf53, 2, (some .int), [], 1)
abbrev x_J2_getChar_3b067 : ev_I := (yJ2_getChar_3b067, cJ2_getChar_3b067, 2, (some .char), [], 1)
abbrev x_J2_newBytesFor_77867 : ev_I := (yJ2_newBytesFor_77867, cJ2_newBytesFor_77867, 1, (some (.array .byte)), [], 1)
abbrev x_J2_putChar_b72d1 : ev_I := (yJ2_putChar_b72d1, cJ2_putChar_b72d1, 3, none, [], 1)
abbrev x_J4_length_8abf5 : ev_I := (yJ4_length_8abf5, cJ4_length_8abf5, 1, (some .int), [], 1)
abbrev x_J6_init_d00df : ev_I := (yJ6_init_d00df, cJ6_init_d00df, 2, none, [], 1)
abbrev x_J7_copyOfRangeByte_39247 : ev_I := (yJ7_copyOfRangeByte_39247, cJ7_copyOfRangeByte_39247, 5, (some (.array .byte)), [], 1)
abbrev x_J7_copyOf_6403c : ev_I := (yJ7_copyOf_6403c, cJ7_copyOf_6403c, 4, (some (.array (.object "java/lang/Object"))), [], 1)
abbrev x_J7_copyOf_9075b : ev_I := (yJ7_copyOf_9075b, cJ7_copyOf_9075b, 3, (some (.array .byte)), [], 1)
abbrev x_J8_newLength_cabcc : ev_I := (yJ8_newLength_cabcc, cJ8_newLength_cabcc, 4, (some .int), [], 1)
abbrev x_Jx35411_next_0502b : ev_I := (yJx35411_next_0502b, cJx35411_next_0502b, 3, (some (.object "java/lang/Object")), [], 1)
abbrev x_Jx4a65c_iterator_32c93 : ev_I := (yJx4a65c_iterator_32c93, cJx4a65c_iterator_32c93, 1, (some (.object "java/util/Iterator")), [], 1)
abbrev x_Jxc12de_init_da8c8 : ev_I := (yJxc12de_init_da8c8, cJxc12de_init_da8c8, 1, none, [], 1)
abbrev x_X0_add : ev_I := (yX0_add, cX0_add, 3, none, [], 1)
abbrev x_X0_fewestMisses : ev_I := (yX0_fewestMisses, cX0_fewestMisses, 7, (some .int), [], 1)
abbrev x_X1_init : ev_I := (yX1_init, cX1_init, 2, none, [], 1)
abbrev x_X2_changeValue : ev_I := (yX2_changeValue, cX2_changeValue, 4, (some .int), [], 1)
abbrev x_X2_dropAt : ev_I := (yX2_dropAt, cX2_dropAt, 3, none, [], 1)
abbrev x_X2_isLastOf : ev_I := (yX2_isLastOf, cX2_isLastOf, 4, (some .boolean), [], 1)
abbrev x_X2_renew : ev_I := (yX2_renew, cX2_renew, 3, (some .int), [], 1)
abbrev x_X2_told : ev_I := (yX2_told, cX2_told, 3, (some .int), [], 1)
abbrev x_X3_init : ev_I := (yX3_init, cX3_init, 2, none, [], 1)
abbrev x_X4_canCut : ev_I := (yX4_canCut, cX4_canCut, 1, (some .boolean), [], 1)
abbrev x_X4_isAnyAhead : ev_I := (yX4_isAnyAhead, cX4_isAnyAhead, 1, (some .boolean), [], 1)
abbrev x_X5_areMissesByDepth : ev_I := (yX5_areMissesByDepth, cX5_areMissesByDepth, 5, (some .boolean), [], 1)
abbrev x_X5_askedAt : ev_I := (yX5_askedAt, cX5_askedAt, 2, (some .int), [], 1)
abbrev x_X5_clear : ev_I := (yX5_clear, cX5_clear, 3, (some .int), [], 1)
abbrev x_X5_depthAt : ev_I := (yX5_depthAt, cX5_depthAt, 2, (some .int), [], 1)
abbrev x_X5_depthNow : ev_I := (yX5_depthNow, cX5_depthNow, 3, (some .int), [], 1)
abbrev x_X5_has : ev_I := (yX5_has, cX5_has, 4, (some .boolean), [], 1)
abbrev x_X5_house : ev_I := (yX5_house, cX5_house, 2, (some .int), [], 1)
abbrev x_X5_isNoTableAboveMost : ev_I := (yX5_isNoTableAboveMost, cX5_isNoTableAboveMost, 5, (some .boolean), [], 1)
abbrev x_X5_isStale : ev_I := (yX5_isStale, cX5_isStale, 2, (some .boolean), [], 1)
abbrev x_X5_keeperOf : ev_I := (yX5_keeperOf, cX5_keeperOf, 2, (some (.object "Lastasked$Keeper")), [], 1)
abbrev x_X5_ofTable : ev_I := (yX5_ofTable, cX5_ofTable, 4, (some .int), [], 1)
abbrev x_X5_placeOf : ev_I := (yX5_placeOf, cX5_placeOf, 4, (some .int), [], 1)
abbrev x_X5_size : ev_I := (yX5_size, cX5_size, 2, (some .int), [], 1)
abbrev x_X5_walk : ev_I := (yX5_walk, cX5_walk, 4, (some .int), [], 1)
abbrev x_X5_withDepth : ev_I := (yX5_withDepth, cX5_withDepth, 2, (some .int), [], 1)
abbrev x_X7_hasMore : ev_I := (yX7_hasMore, cX7_hasMore, 1, (some .boolean), [], 1)
abbrev x_X8_asked : ev_I := (yX8_asked, cX8_asked, 1, (some .int), [], 1)
abbrev x_X8_forget : ev_I := (yX8_forget, cX8_forget, 2, (some .int), [], 1)
abbrev x_X8_isNo : ev_I := (yX8_isNo, cX8_isNo, 1, (some .boolean), [], 1)
abbrev x_X8_isNoSize : ev_I := (yX8_isNoSize, cX8_isNoSize, 1, (some .boolean), [], 1)
abbrev x_J2_checkBoundsBeginEnd_d044e : ev_I := (yJ2_checkBoundsBeginEnd_d044e, cJ2_checkBoundsBeginEnd_d044e, 3, none, [], 2)
abbrev x_J2_checkBoundsOffCount_d044e : ev_I := (yJ2_checkBoundsOffCount_d044e, cJ2_checkBoundsOffCount_d044e, 3, none, [], 2)
abbrev x_J2_checkIndex_2214a : ev_I := (yJ2_checkIndex_2214a, cJ2_checkIndex_2214a, 2, none, [], 2)
abbrev x_J2_getChars_ba4f3 : ev_I := (yJ2_getChars_ba4f3, cJ2_getChars_ba4f3, 7, (some .int), [], 2)
abbrev x_J5_init_d00df : ev_I := (yJ5_init_d00df, cJ5_init_d00df, 2, none, [], 2)
abbrev x_J5_newCapacity_0f7a4 : ev_I := (yJ5_newCapacity_0f7a4, cJ5_newCapacity_0f7a4, 6, (some .int), [], 2)
abbrev x_J6_valueOf_2dffe : ev_I := (yJ6_valueOf_2dffe, cJ6_valueOf_2dffe, 1, (some (.object "java/lang/Integer")), [], 2)
abbrev x_J7_copyOfRange_39247 : ev_I := (yJ7_copyOfRange_39247, cJ7_copyOfRange_39247, 3, (some (.array .byte)), [], 2)
abbrev x_J7_copyOf_1904c : ev_I := (yJ7_copyOf_1904c, cJ7_copyOf_1904c, 2, (some (.array (.object "java/lang/Object"))), [], 2)
abbrev x_Jx4a65c_get_915e3 : ev_I := (yJx4a65c_get_915e3, cJx4a65c_get_915e3, 2, (some (.object "java/lang/Object")), [], 2)
abbrev x_Jx4a65c_init_da8c8 : ev_I := (yJx4a65c_init_da8c8, cJx4a65c_init_da8c8, 1, none, [], 2)
abbrev x_Jx4a65c_remove_915e3 : ev_I := (yJx4a65c_remove_915e3, cJx4a65c_remove_915e3, 4, (some (.object "java/lang/Object")), [], 2)
abbrev x_L_clear : ev_I := (yL_clear, cL_clear, 4, (some .int), [(0, 10, 13, 19)], 2)
abbrev x_L_has : ev_I := (yL_has, cL_has, 5, (some .int), [(0, 18, 21, 19), (0, 18, 25, 21)], 2)
abbrev x_L_house : ev_I := (yL_house, cL_house, 4, (some .int), [(0, 10, 13, 21)], 2)
abbrev x_L_isStale : ev_I := (yL_isStale, cL_isStale, 4, (some .int), [(0, 17, 20, 19)], 2)
abbrev x_L_ofTable : ev_I := (yL_ofTable, cL_ofTable, 5, (some .int), [(0, 11, 14, 19), (0, 11, 18, 21)], 2)
abbrev x_L_placeOf : ev_I := (yL_placeOf, cL_placeOf, 5, (some .int), [(0, 11, 14, 19), (0, 11, 18, 21)], 2)
abbrev x_L_size : ev_I := (yL_size, cL_size, 4, (some .int), [(0, 10, 13, 19)], 2)
abbrev x_L_walk : ev_I := (yL_walk, cL_walk, 5, (some .int), [(0, 11, 14, 19), (0, 11, 18, 21)], 2)
abbrev x_X1_startAnew : ev_I := (yX1_startAnew, cX1_startAnew, 1, none, [], 2)
abbrev x_X2_become : ev_I := (yX2_become, cX2_become, 4, none, [], 2)
abbrev x_X2_dropKey : ev_I := (yX2_dropKey, cX2_dropKey, 4, (some .int), [], 2)
abbrev x_X2_noteAsking : ev_I := (yX2_noteAsking, cX2_noteAsking, 4, none, [], 2)
abbrev x_X2_takeIn : ev_I := (yX2_takeIn, cX2_takeIn, 3, none, [], 2)
abbrev x_X4_advance : ev_I := (yX4_advance, cX4_advance, 2, (some .int), [], 2)
abbrev x_X4_cutLast : ev_I := (yX4_cutLast, cX4_cutLast, 1, none, [], 2)
abbrev x_X5_areKeepersLastOfStack : ev_I := (yX5_areKeepersLastOfStack, cX5_areKeepersLastOfStack, 5, (some .boolean), [], 2)
abbrev x_X5_best : ev_I := (yX5_best, cX5_best, 2, (some .int), [], 2)
abbrev x_X5_depth : ev_I := (yX5_depth, cX5_depth, 2, (some .int), [], 2)
abbrev x_X5_eldest : ev_I := (yX5_eldest, cX5_eldest, 2, (some .int), [], 2)
abbrev x_X5_hasMore : ev_I := (yX5_hasMore, cX5_hasMore, 2, (some .boolean), [], 2)
abbrev x_X5_hits : ev_I := (yX5_hits, cX5_hits, 2, (some .int), [], 2)
abbrev x_X5_init : ev_I := (yX5_init, cX5_init, 2, none, [], 2)
abbrev x_X5_keeps : ev_I := (yX5_keeps, cX5_keeps, 4, (some .boolean), [], 2)
abbrev x_X5_keyAt : ev_I := (yX5_keyAt, cX5_keyAt, 3, (some .int), [], 2)
abbrev x_X5_latest : ev_I := (yX5_latest, cX5_latest, 3, (some .int), [], 2)
abbrev x_X5_lost : ev_I := (yX5_lost, cX5_lost, 2, (some .int), [], 2)
abbrev x_X5_make : ev_I := (yX5_make, cX5_make, 5, (some .int), [], 2)
abbrev x_X5_misses : ev_I := (yX5_misses, cX5_misses, 2, (some .int), [], 2)
abbrev x_X5_pairAt : ev_I := (yX5_pairAt, cX5_pairAt, 3, (some .int), [], 2)
abbrev x_X5_set : ev_I := (yX5_set, cX5_set, 5, (some .int), [], 2)
abbrev x_X5_takenAt : ev_I := (yX5_takenAt, cX5_takenAt, 4, (some .int), [], 2)
abbrev x_X5_valueAt : ev_I := (yX5_valueAt, cX5_valueAt, 3, (some .int), [], 2)
abbrev x_X8_clear : ev_I := (yX8_clear, cX8_clear, 3, (some .int), [], 2)
abbrev x_X8_hasMore : ev_I := (yX8_hasMore, cX8_hasMore, 2, (some .boolean), [], 2)
abbrev x_X8_isNoKey : ev_I := (yX8_isNoKey, cX8_isNoKey, 3, (some .boolean), [], 2)
abbrev x_X8_isStale : ev_I := (yX8_isStale, cX8_isStale, 2, (some .boolean), [], 2)
abbrev x_X8_make : ev_I := (yX8_make, cX8_make, 6, (some .int), [], 2)
abbrev x_X8_size : ev_I := (yX8_size, cX8_size, 2, (some .int), [], 2)
abbrev x_X8_tableNow : ev_I := (yX8_tableNow, cX8_tableNow, 7, (some .int), [], 2)
abbrev x_X8_walk : ev_I := (yX8_walk, cX8_walk, 4, (some .int), [], 2)
abbrev x_J2_compress_5af95 : ev_I := (yJ2_compress_5af95, cJ2_compress_5af95, 7, (some .int), [], 3)
abbrev x_J2_getChars_46870 : ev_I := (yJ2_getChars_46870, cJ2_getChars_46870, 5, (some .int), [], 3)
abbrev x_J2_inflate_0e8fd : ev_I := (yJ2_inflate_0e8fd, cJ2_inflate_0e8fd, 6, none, [], 3)
abbrev x_J2_putCharSB_b72d1 : ev_I := (yJ2_putCharSB_b72d1, cJ2_putCharSB_b72d1, 3, none, [], 3)
abbrev x_J2_putCharsAt_cd4e5 : ev_I := (yJ2_putCharsAt_cd4e5, cJ2_putCharsAt_cd4e5, 7, (some .int), [], 3)
abbrev x_J4_init_da8c8 : ev_I := (yJ4_init_da8c8, cJ4_init_da8c8, 1, none, [], 3)
abbrev x_J5_ensureCapacityInternal_d00df : ev_I := (yJ5_ensureCapacityInternal_d00df, cJ5_ensureCapacityInternal_d00df, 3, none, [], 3)
abbrev x_Jx4a65c_grow_92f84 : ev_I := (yJx4a65c_grow_92f84, cJx4a65c_grow_92f84, 4, (some (.array (.object "java/lang/Object"))), [], 3)
abbrev x_L_best : ev_I := (yL_best, cL_best, 4, (some .int), [(0, 10, 13, 21)], 3)
abbrev x_L_depth : ev_I := (yL_depth, cL_depth, 4, (some .int), [(0, 10, 13, 21)], 3)
abbrev x_L_eldest : ev_I := (yL_eldest, cL_eldest, 4, (some .int), [(0, 10, 13, 19)], 3)
abbrev x_L_hasMore : ev_I := (yL_hasMore, cL_hasMore, 4, (some .int), [(0, 17, 20, 19)], 3)
abbrev x_L_hits : ev_I := (yL_hits, cL_hits, 4, (some .int), [(0, 10, 13, 21)], 3)
abbrev x_L_keeps : ev_I := (yL_keeps, cL_keeps, 5, (some .int), [(0, 18, 21, 21)], 3)
abbrev x_L_keyAt : ev_I := (yL_keyAt, cL_keyAt, 5, (some .int), [(0, 11, 14, 19)], 3)
abbrev x_L_latest : ev_I := (yL_latest, cL_latest, 4, (some .int), [(0, 10, 13, 19)], 3)
abbrev x_L_lost : ev_I := (yL_lost, cL_lost, 4, (some .int), [(0, 10, 13, 21)], 3)
abbrev x_L_make : ev_I := (yL_make, cL_make, 6, (some .int), [(0, 13, 16, 19), (0, 13, 20, 21)], 3)
abbrev x_L_misses : ev_I := (yL_misses, cL_misses, 4, (some .int), [(0, 10, 13, 21)], 3)
abbrev x_L_pairAt : ev_I := (yL_pairAt, cL_pairAt, 5, (some .int), [(0, 11, 14, 19)], 3)
abbrev x_L_set : ev_I := (yL_set, cL_set, 6, (some .int), [(0, 13, 16, 19), (0, 13, 20, 21)], 3)
abbrev x_L_takenAt : ev_I := (yL_takenAt, cL_takenAt, 5, (some .int), [(0, 11, 14, 21)], 3)
abbrev x_L_valueAt : ev_I := (yL_valueAt, cL_valueAt, 5, (some .int), [(0, 11, 14, 19)], 3)
abbrev x_X2_bring : ev_I := (yX2_bring, cX2_bring, 5, (some .int), [], 3)
abbrev x_X2_fetch : ev_I := (yX2_fetch, cX2_fetch, 5, (some .int), [], 3)
abbrev x_X2_fetchOrTakeIn : ev_I := (yX2_fetchOrTakeIn, cX2_fetchOrTakeIn, 4, (some .boolean), [], 3)
abbrev x_X4_advanceToEnd : ev_I := (yX4_advanceToEnd, cX4_advanceToEnd, 4, (some .int), [], 3)
abbrev x_X5_copy : ev_I := (yX5_copy, cX5_copy, 5, (some .int), [], 3)
abbrev x_X5_cut : ev_I := (yX5_cut, cX5_cut, 3, (some .int), [], 3)
abbrev x_X5_forget : ev_I := (yX5_forget, cX5_forget, 6, (some .int), [], 3)
abbrev x_X5_isSound : ev_I := (yX5_isSound, cX5_isSound, 2, (some .boolean), [], 3)
abbrev x_X5_mixedWithKeeper : ev_I := (yX5_mixedWithKeeper, cX5_mixedWithKeeper, 7, (some .long), [], 3)
abbrev x_X5_mixedWithTable : ev_I := (yX5_mixedWithTable, cX5_mixedWithTable, 7, (some .long), [], 3)
abbrev x_X5_remove : ev_I := (yX5_remove, cX5_remove, 4, (some .int), [], 3)
abbrev x_X5_step : ev_I := (yX5_step, cX5_step, 3, (some .int), [], 3)
abbrev x_X7_init : ev_I := (yX7_init, cX7_init, 1, none, [], 3)
abbrev x_X7_place : ev_I := (yX7_place, cX7_place, 3, (some .int), [], 3)
abbrev x_X7_step : ev_I := (yX7_step, cX7_step, 2, (some .int), [], 3)
abbrev x_X8_askedAt : ev_I := (yX8_askedAt, cX8_askedAt, 2, (some .int), [], 3)
abbrev x_X8_before : ev_I := (yX8_before, cX8_before, 4, (some .int), [], 3)
abbrev x_X8_cut : ev_I := (yX8_cut, cX8_cut, 3, (some .int), [], 3)
abbrev x_X8_ofTable : ev_I := (yX8_ofTable, cX8_ofTable, 3, (some .int), [], 3)
abbrev x_X8_set : ev_I := (yX8_set, cX8_set, 5, (some .int), [], 3)
abbrev x_X8_told : ev_I := (yX8_told, cX8_told, 5, (some .int), [], 3)
abbrev x_J1_inflate_0e8fd : ev_I := (yJ1_inflate_0e8fd, cJ1_inflate_0e8fd, 5, none, [], 4)
abbrev x_J2_compress_39247 : ev_I := (yJ2_compress_39247, cJ2_compress_39247, 6, (some (.array .byte)), [], 4)
abbrev x_J5_appendNull_278bc : ev_I := (yJ5_appendNull_278bc, cJ5_appendNull_278bc, 3, (some (.object "java/lang/AbstractStringBuilder")), [], 4)
abbrev x_J5_append_c97b9 : ev_I := (yJ5_append_c97b9, cJ5_append_c97b9, 4, (some (.object "java/lang/AbstractStringBuilder")), [], 4)
abbrev x_Jx4a65c_grow_d5877 : ev_I := (yJx4a65c_grow_d5877, cJx4a65c_grow_d5877, 1, (some (.array (.object "java/lang/Object"))), [], 4)
abbrev x_L_copy : ev_I := (yL_copy, cL_copy, 5, (some .int), [(0, 11, 14, 19)], 4)
abbrev x_L_cut : ev_I := (yL_cut, cL_cut, 4, (some .int), [(0, 10, 13, 19)], 4)
abbrev x_L_remove : ev_I := (yL_remove, cL_remove, 5, (some .int), [(0, 11, 14, 19), (0, 11, 18, 21)], 4)
abbrev x_L_step : ev_I := (yL_step, cL_step, 4, (some .int), [(0, 10, 13, 19)], 4)
abbrev x_X1_meet : ev_I := (yX1_meet, cX1_meet, 4, (some .boolean), [], 4)
abbrev x_X2_bringIfAbsent : ev_I := (yX2_bringIfAbsent, cX2_bringIfAbsent, 3, (some .int), [], 4)
abbrev x_X5_digest : ev_I := (yX5_digest, cX5_digest, 4, (some .long), [], 4)
abbrev x_X5_get : ev_I := (yX5_get, cX5_get, 4, (some .int), [], 4)
abbrev x_X5_getOr : ev_I := (yX5_getOr, cX5_getOr, 5, (some .int), [], 4)
abbrev x_X5_put : ev_I := (yX5_put, cX5_put, 5, (some .int), [], 4)
abbrev x_X5_rest : ev_I := (yX5_rest, cX5_rest, 3, (some .int), [], 4)
abbrev x_X8_bestNow : ev_I := (yX8_bestNow, cX8_bestNow, 8, (some .int), [], 4)
abbrev x_X8_eldest : ev_I := (yX8_eldest, cX8_eldest, 2, (some .int), [], 4)
abbrev x_X8_has : ev_I := (yX8_has, cX8_has, 3, (some .boolean), [], 4)
abbrev x_X8_init : ev_I := (yX8_init, cX8_init, 1, none, [], 4)
abbrev x_X8_keyAt : ev_I := (yX8_keyAt, cX8_keyAt, 3, (some .int), [], 4)
abbrev x_X8_latest : ev_I := (yX8_latest, cX8_latest, 2, (some .int), [], 4)
abbrev x_X8_pairAt : ev_I := (yX8_pairAt, cX8_pairAt, 3, (some .int), [], 4)
abbrev x_X8_placeOf : ev_I := (yX8_placeOf, cX8_placeOf, 3, (some .int), [], 4)
abbrev x_X8_remove : ev_I := (yX8_remove, cX8_remove, 5, (some .int), [], 4)
abbrev x_X8_rest : ev_I := (yX8_rest, cX8_rest, 4, (some .int), [], 4)
abbrev x_X8_step : ev_I := (yX8_step, cX8_step, 3, (some .int), [], 4)
abbrev x_X8_unlike : ev_I := (yX8_unlike, cX8_unlike, 5, (some .int), [], 4)
abbrev x_X8_valueAt : ev_I := (yX8_valueAt, cX8_valueAt, 3, (some .int), [], 4)
abbrev x_J0_getBytes_840e7 : ev_I := (yJ0_getBytes_840e7, cJ0_getBytes_840e7, 4, none, [], 5)
abbrev x_J0_init_db425 : ev_I := (yJ0_init_db425, cJ0_init_db425, 5, none, [], 5)
abbrev x_J4_append_bf812 : ev_I := (yJ4_append_bf812, cJ4_append_bf812, 2, (some (.object "java/lang/StringBuilder")), [], 5)
abbrev x_J5_inflate_da8c8 : ev_I := (yJ5_inflate_da8c8, cJ5_inflate_da8c8, 2, none, [], 5)
abbrev x_Jx4a65c_add_72be8 : ev_I := (yJx4a65c_add_72be8, cJx4a65c_add_72be8, 4, none, [], 5)
abbrev x_L_get : ev_I := (yL_get, cL_get, 5, (some .int), [(0, 11, 14, 19), (0, 11, 18, 21)], 5)
abbrev x_L_getOr : ev_I := (yL_getOr, cL_getOr, 6, (some .int), [(0, 13, 16, 19), (0, 13, 20, 21)], 5)
abbrev x_L_put : ev_I := (yL_put, cL_put, 6, (some .int), [(0, 13, 16, 19), (0, 13, 20, 21)], 5)
abbrev x_L_rest : ev_I := (yL_rest, cL_rest, 4, (some .int), [(0, 10, 13, 19)], 5)
abbrev x_X5_askOne : ev_I := (yX5_askOne, cX5_askOne, 8, (some .int), [], 5)
abbrev x_X5_putIfAbsent : ev_I := (yX5_putIfAbsent, cX5_putIfAbsent, 5, (some .int), [], 5)
abbrev x_X8_best : ev_I := (yX8_best, cX8_best, 2, (some .int), [], 5)
abbrev x_X8_depthOf : ev_I := (yX8_depthOf, cX8_depthOf, 4, (some .int), [], 5)
abbrev x_X8_houseNow : ev_I := (yX8_houseNow, cX8_houseNow, 7, (some .int), [], 5)
abbrev x_J0_init_81219 : ev_I := (yJ0_init_81219, cJ0_init_81219, 2, none, [], 6)
abbrev x_J5_append_3fe6f : ev_I := (yJ5_append_3fe6f, cJ5_append_3fe6f, 2, (some (.object "java/lang/AbstractStringBuilder")), [], 6)
abbrev x_J5_inflateIfNeededFor_a7421 : ev_I := (yJ5_inflateIfNeededFor_a7421, cJ5_inflateIfNeededFor_a7421, 2, none, [], 6)
abbrev x_Jx4a65c_add_9ea2d : ev_I := (yJx4a65c_add_9ea2d, cJx4a65c_add_9ea2d, 2, (some .boolean), [], 6)
abbrev x_L_putIfAbsent : ev_I := (yL_putIfAbsent, cL_putIfAbsent, 6, (some .int), [(0, 13, 16, 19), (0, 13, 20, 21), (0, 13, 24, 30)], 6)
abbrev x_X5_ask : ev_I := (yX5_ask, cX5_ask, 2, (some .int), [], 6)
abbrev x_X5_askRow : ev_I := (yX5_askRow, cX5_askRow, 6, (some .int), [], 6)
abbrev x_X8_depth : ev_I := (yX8_depth, cX8_depth, 2, (some .int), [], 6)
abbrev x_X8_depthAt : ev_I := (yX8_depthAt, cX8_depthAt, 2, (some .int), [], 6)
abbrev x_X8_house : ev_I := (yX8_house, cX8_house, 2, (some .int), [], 6)
abbrev x_X8_isHit : ev_I := (yX8_isHit, cX8_isHit, 4, (some .boolean), [], 6)
abbrev x_X8_isKept : ev_I := (yX8_isKept, cX8_isKept, 4, (some .boolean), [], 6)
abbrev x_X8_keyWith : ev_I := (yX8_keyWith, cX8_keyWith, 4, (some .int), [], 6)
abbrev x_X8_withDepth : ev_I := (yX8_withDepth, cX8_withDepth, 4, (some .int), [], 6)
abbrev x_J4_append_cf468 : ev_I := (yJ4_append_cf468, cJ4_append_cf468, 2, (some (.object "java/lang/StringBuilder")), [], 7)
abbrev x_J4_toString_0e30d : ev_I := (yJ4_toString_0e30d, cJ4_toString_0e30d, 1, (some (.object "java/lang/String")), [], 7)
abbrev x_J5_putStringAt_47b60 : ev_I := (yJ5_putStringAt_47b60, cJ5_putStringAt_47b60, 3, none, [], 7)
abbrev x_L_ask : ev_I := (yL_ask, cL_ask, 4, (some .int), [(0, 10, 13, 21), (0, 10, 16, 30)], 7)
abbrev x_L_askRow : ev_I := (yL_askRow, cL_askRow, 6, (some .int), [(0, 13, 16, 21), (0, 13, 20, 30)], 7)
abbrev x_X7_asked : ev_I := (yX7_asked, cX7_asked, 2, none, [], 7)
abbrev x_X8_asks : ev_I := (yX8_asks, cX8_asks, 3, (some .int), [], 7)
abbrev x_X8_copy : ev_I := (yX8_copy, cX8_copy, 7, (some .int), [], 7)
abbrev x_X8_keeps : ev_I := (yX8_keeps, cX8_keeps, 3, (some .boolean), [], 7)
abbrev x_X8_lostNow : ev_I := (yX8_lostNow, cX8_lostNow, 3, (some .int), [], 7)
abbrev x_X8_missesNow : ev_I := (yX8_missesNow, cX8_missesNow, 4, (some .int), [], 7)
abbrev x_X8_takenNow : ev_I := (yX8_takenNow, cX8_takenNow, 4, (some .int), [], 7)
abbrev x_J5_append_cf1ce : ev_I := (yJ5_append_cf1ce, cJ5_append_cf1ce, 3, (some (.object "java/lang/AbstractStringBuilder")), [], 8)
abbrev x_X2_written : ev_I := (yX2_written, cX2_written, 4, (some (.object "java/lang/String")), [], 8)
abbrev x_X8_addAskings : ev_I := (yX8_addAskings, cX8_addAskings, 7, (some .long), [], 8)
abbrev x_X8_ask : ev_I := (yX8_ask, cX8_ask, 2, (some .int), [], 8)
abbrev x_X8_askRow : ev_I := (yX8_askRow, cX8_askRow, 6, (some .int), [], 8)
abbrev x_X8_got : ev_I := (yX8_got, cX8_got, 7, (some .int), [], 8)
abbrev x_X8_hits : ev_I := (yX8_hits, cX8_hits, 2, (some .int), [], 8)
abbrev x_X8_lost : ev_I := (yX8_lost, cX8_lost, 2, (some .int), [], 8)
abbrev x_X8_misses : ev_I := (yX8_misses, cX8_misses, 2, (some .int), [], 8)
abbrev x_X8_put : ev_I := (yX8_put, cX8_put, 7, (some .int), [], 8)
abbrev x_X8_putIfAbsent : ev_I := (yX8_putIfAbsent, cX8_putIfAbsent, 7, (some .int), [], 8)
abbrev x_X8_takenAt : ev_I := (yX8_takenAt, cX8_takenAt, 3, (some .int), [], 8)
abbrev x_X8_text : ev_I := (yX8_text, cX8_text, 6, (some (.object "java/lang/String")), [], 8)
abbrev x_J4_append_15ec4 : ev_I := (yJ4_append_15ec4, cJ4_append_15ec4, 2, (some (.object "java/lang/StringBuilder")), [], 9)
abbrev x_X5_kept : ev_I := (yX5_kept, cX5_kept, 2, (some (.object "java/lang/String")), [], 9)
abbrev x_X5_stack : ev_I := (yX5_stack, cX5_stack, 1, (some (.object "java/lang/String")), [], 9)
abbrev x_X5_text : ev_I := (yX5_text, cX5_text, 4, (some (.object "java/lang/String")), [], 9)
abbrev x_X8_digest : ev_I := (yX8_digest, cX8_digest, 5, (some .long), [], 9)
abbrev x_X8_get : ev_I := (yX8_get, cX8_get, 3, (some .int), [], 9)
abbrev x_X8_getOr : ev_I := (yX8_getOr, cX8_getOr, 4, (some .int), [], 9)
abbrev x_L_kept : ev_I := (yL_kept, cL_kept, 4, (some .int), [(0, 9, 12, 21)], 10)
abbrev x_L_text : ev_I := (yL_text, cL_text, 5, (some .int), [(0, 10, 13, 19), (0, 10, 17, 21)], 10)
abbrev x_X8_keys : ev_I := (yX8_keys, cX8_keys, 4, (some (.object "java/lang/String")), [], 10)
abbrev x_X8_kept : ev_I := (yX8_kept, cX8_kept, 2, (some (.object "java/lang/String")), [], 11)
abbrev x_X8_stack : ev_I := (yX8_stack, cX8_stack, 1, (some (.object "java/lang/String")), [], 11)
abbrev x_L_law : ev_I := (yL_law, code, 7, (some .boolean), [], 12)
theorem nmh_RJ0 : RJ0 ≠ "java/lang/invoke/MethodHandle" ∧ RJ0 ≠ "java/lang/invoke/VarHandle" := ⟨by decide +kernel, by decide +kernel⟩
theorem nmh_RJ1 : RJ1 ≠ "java/lang/invoke/MethodHandle" ∧ RJ1 ≠ "java/lang/invoke/VarHandle" := ⟨by decide +kernel, by decide +kernel⟩
theorem nmh_RJ15 : RJ15 ≠ "java/lang/invoke/MethodHandle" ∧ RJ15 ≠ "java/lang/invoke/VarHandle" := ⟨by decide +kernel, by decide +kernel⟩
theorem nmh_RJ2 : RJ2 ≠ "java/lang/invoke/MethodHandle" ∧ RJ2 ≠ "java/lang/invoke/VarHandle" := ⟨by decide +kernel, by decide +kernel⟩
theorem nmh_RJ3 : RJ3 ≠ "java/lang/invoke/MethodHandle" ∧ RJ3 ≠ "java/lang/invoke/VarHandle" := ⟨by decide +kernel, by decide +kernel⟩
theorem nmh_RJ4 : RJ4 ≠ "java/lang/invoke/MethodHandle" ∧ RJ4 ≠ "java/lang/invoke/VarHandle" := ⟨by decide +kernel, by decide +kernel⟩
theorem nmh_RJ5 : RJ5 ≠ "java/lang/invoke/MethodHandle" ∧ RJ5 ≠ "java/lang/invoke/VarHandle" := ⟨by decide +kernel, by decide +kernel⟩
theorem nmh_RJ6 : RJ6 ≠ "java/lang/invoke/MethodHandle" ∧ RJ6 ≠ "java/lang/invoke/VarHandle" := ⟨by decide +kernel, by decide +kernel⟩
theorem nmh_RJ7 : RJ7 ≠ "java/lang/invoke/MethodHandle" ∧ RJ7 ≠ "java/lang/invoke/VarHandle" := ⟨by decide +kernel, by decide +kernel⟩
theorem nmh_RJ8 : RJ8 ≠ "java/lang/invoke/MethodHandle" ∧ RJ8 ≠ "java/lang/invoke/VarHandle" := ⟨by decide +kernel, by decide +kernel⟩
theorem nmh_RJ9 : RJ9 ≠ "java/lang/invoke/MethodHandle" ∧ RJ9 ≠ "java/lang/invoke/VarHandle" := ⟨by decide +kernel, by decide +kernel⟩
theorem nmh_RJx35411 : RJx35411 ≠ "java/lang/invoke/MethodHandle" ∧ RJx35411 ≠ "java/lang/invoke/VarHandle" := ⟨by decide +kernel, by decide +kernel⟩
theorem nmh_RJx4a65c : RJx4a65c ≠ "java/lang/invoke/MethodHandle" ∧ RJx4a65c ≠ "java/lang/invoke/VarHandle" := ⟨by decide +kernel, by decide +kernel⟩
theorem nmh_RJxa1e45 : RJxa1e45 ≠ "java/lang/invoke/MethodHandle" ∧ RJxa1e45 ≠ "java/lang/invoke/VarHandle" := ⟨by decide +kernel, by decide +kernel⟩
theorem nmh_RJxc12de : RJxc12de ≠ "java/lang/invoke/MethodHandle" ∧ RJxc12de ≠ "java/lang/invoke/VarHandle" := ⟨by decide +kernel, by decide +kernel⟩
theorem nmh_RJxd2413 : RJxd2413 ≠ "java/lang/invoke/MethodHandle" ∧ RJxd2413 ≠ "java/lang/invoke/VarHandle" := ⟨by decide +kernel, by decide +kernel⟩
theorem nmh_RL : RL ≠ "java/lang/invoke/MethodHandle" ∧ RL ≠ "java/lang/invoke/VarHandle" := ⟨by decide +kernel, by decide +kernel⟩
theorem nmh_RX0 : RX0 ≠ "java/lang/invoke/MethodHandle" ∧ RX0 ≠ "java/lang/invoke/VarHandle" := ⟨by decide +kernel, by decide +kernel⟩
theorem nmh_RX1 : RX1 ≠ "java/lang/invoke/MethodHandle" ∧ RX1 ≠ "java/lang/invoke/VarHandle" := ⟨by decide +kernel, by decide +kernel⟩
theorem nmh_RX2 : RX2 ≠ "java/lang/invoke/MethodHandle" ∧ RX2 ≠ "java/lang/invoke/VarHandle" := ⟨by decide +kernel, by decide +kernel⟩
theorem nmh_RX3 : RX3 ≠ "java/lang/invoke/MethodHandle" ∧ RX3 ≠ "java/lang/invoke/VarHandle" := ⟨by decide +kernel, by decide +kernel⟩
theorem nmh_RX4 : RX4 ≠ "java/lang/invoke/MethodHandle" ∧ RX4 ≠ "java/lang/invoke/VarHandle" := ⟨by decide +kernel, by decide +kernel⟩
theorem nmh_RX5 : RX5 ≠ "java/lang/invoke/MethodHandle" ∧ RX5 ≠ "java/lang/invoke/VarHandle" := ⟨by decide +kernel, by decide +kernel⟩
theorem nmh_RX6 : RX6 ≠ "java/lang/invoke/MethodHandle" ∧ RX6 ≠ "java/lang/invoke/VarHandle" := ⟨by decide +kernel, by decide +kernel⟩
theorem nmh_RX7 : RX7 ≠ "java/lang/invoke/MethodHandle" ∧ RX7 ≠ "java/lang/invoke/VarHandle" := ⟨by decide +kernel, by decide +kernel⟩
theorem nmh_RX8 : RX8 ≠ "java/lang/invoke/MethodHandle" ∧ RX8 ≠ "java/lang/invoke/VarHandle" := ⟨by decide +kernel, by decide +kernel⟩
theorem pmd_0 : (parseMethodDescriptor "()B").map (fun d => d.parameters.length) = some 0 := by decide +kernel
theorem pmd_1 : (parseMethodDescriptor "(C)Z").map (fun d => d.parameters.length) = some 1 := by decide +kernel
theorem pmd_2 : (parseMethodDescriptor "([BI)B").map (fun d => d.parameters.length) = some 2 := by decide +kernel
theorem pmd_3 : (parseMethodDescriptor "([B)I").map (fun d => d.parameters.length) = some 1 := by decide +kernel
theorem pmd_4 : (parseMethodDescriptor "(I)I").map (fun d => d.parameters.length) = some 1 := by decide +kernel
theorem pmd_5 : (parseMethodDescriptor "(IIILjava/util/function/BiFunction;)I").map (fun d => d.parameters.length) = some 4 := by decide +kernel
theorem pmd_6 : (parseMethodDescriptor "(IILjava/util/function/BiFunction;)I").map (fun d => d.parameters.length) = some 3 := by decide +kernel
theorem pmd_7 : (parseMethodDescriptor "()[B").map (fun d => d.parameters.length) = some 0 := by decide +kernel
theorem pmd_8 : (parseMethodDescriptor "()Z").map (fun d => d.parameters.length) = some 0 := by decide +kernel
theorem pmd_9 : (parseMethodDescriptor "()I").map (fun d => d.parameters.length) = some 0 := by decide +kernel
theorem pmd_10 : (parseMethodDescriptor "(II[B)I").map (fun d => d.parameters.length) = some 3 := by decide +kernel
theorem pmd_11 : (parseMethodDescriptor "(II)V").map (fun d => d.parameters.length) = some 2 := by decide +kernel
theorem pmd_12 : (parseMethodDescriptor "(II)I").map (fun d => d.parameters.length) = some 2 := by decide +kernel
theorem pmd_13 : (parseMethodDescriptor "()V").map (fun d => d.parameters.length) = some 0 := by decide +kernel
theorem pmd_14 : (parseMethodDescriptor "(Ljava/util/ArrayList;)V").map (fun d => d.parameters.length) = some 1 := by decide +kernel
theorem pmd_15 : (parseMethodDescriptor "(I)Ljava/lang/Object;").map (fun d => d.parameters.length) = some 1 := by decide +kernel
theorem pmd_16 : (parseMethodDescriptor "([Ljava/lang/Object;I)V").map (fun d => d.parameters.length) = some 2 := by decide +kernel
theorem pmd_17 : (parseMethodDescriptor "(I)Z").map (fun d => d.parameters.length) = some 1 := by decide +kernel
theorem pmd_18 : (parseMethodDescriptor "(I)V").map (fun d => d.parameters.length) = some 1 := by decide +kernel
theorem pmd_19 : (parseMethodDescriptor "(ZI)V").map (fun d => d.parameters.length) = some 2 := by decide +kernel
theorem pmd_20 : (parseMethodDescriptor "(LLastasked$Row;)V").map (fun d => d.parameters.length) = some 1 := by decide +kernel
theorem pmd_21 : (parseMethodDescriptor "(JI)J").map (fun d => d.parameters.length) = some 2 := by decide +kernel
theorem pmd_22 : (parseMethodDescriptor "(I)LLastasked$Table;").map (fun d => d.parameters.length) = some 1 := by decide +kernel
theorem pmd_23 : (parseMethodDescriptor "(ZZZ)Z").map (fun d => d.parameters.length) = some 3 := by decide +kernel
theorem pmd_24 : (parseMethodDescriptor "(II)Z").map (fun d => d.parameters.length) = some 2 := by decide +kernel
theorem pmd_25 : (parseMethodDescriptor "(Z)I").map (fun d => d.parameters.length) = some 1 := by decide +kernel
theorem pmd_26 : (parseMethodDescriptor "(III)V").map (fun d => d.parameters.length) = some 3 := by decide +kernel
theorem pmd_27 : (parseMethodDescriptor "(III)I").map (fun d => d.parameters.length) = some 3 := by decide +kernel
theorem pmd_28 : (parseMethodDescriptor "([BI)C").map (fun d => d.parameters.length) = some 2 := by decide +kernel
theorem pmd_29 : (parseMethodDescriptor "(I)[B").map (fun d => d.parameters.length) = some 1 := by decide +kernel
theorem pmd_30 : (parseMethodDescriptor "([BII)V").map (fun d => d.parameters.length) = some 3 := by decide +kernel
theorem pmd_31 : (parseMethodDescriptor "([BII)[B").map (fun d => d.parameters.length) = some 3 := by decide +kernel
theorem pmd_32 : (parseMethodDescriptor "([Ljava/lang/Object;ILjava/lang/Class;)[Ljava/lang/Object;").map (fun d => d.parameters.length) = some 3 := by decide +kernel
theorem pmd_33 : (parseMethodDescriptor "([BI)[B").map (fun d => d.parameters.length) = some 2 := by decide +kernel
theorem pmd_34 : (parseMethodDescriptor "()Ljava/lang/Object;").map (fun d => d.parameters.length) = some 0 := by decide +kernel
theorem pmd_35 : (parseMethodDescriptor "()Ljava/util/Iterator;").map (fun d => d.parameters.length) = some 0 := by decide +kernel
theorem pmd_36 : (parseMethodDescriptor "(LLastasked$Row;)Z").map (fun d => d.parameters.length) = some 1 := by decide +kernel
theorem pmd_37 : (parseMethodDescriptor "(ZI)I").map (fun d => d.parameters.length) = some 2 := by decide +kernel
theorem pmd_38 : (parseMethodDescriptor "(I)LLastasked$Keeper;").map (fun d => d.parameters.length) = some 1 := by decide +kernel
theorem pmd_39 : (parseMethodDescriptor "(II[B)V").map (fun d => d.parameters.length) = some 3 := by decide +kernel
theorem pmd_40 : (parseMethodDescriptor "(I[B)V").map (fun d => d.parameters.length) = some 2 := by decide +kernel
theorem pmd_41 : (parseMethodDescriptor "(I)Ljava/lang/Integer;").map (fun d => d.parameters.length) = some 1 := by decide +kernel
theorem pmd_42 : (parseMethodDescriptor "([Ljava/lang/Object;I)[Ljava/lang/Object;").map (fun d => d.parameters.length) = some 2 := by decide +kernel
theorem pmd_43 : (parseMethodDescriptor "(LLastasked;ILLastaskedLaw$Out;)I").map (fun d => d.parameters.length) = some 3 := by decide +kernel
theorem pmd_44 : (parseMethodDescriptor "(LLastasked;IILLastaskedLaw$Out;)I").map (fun d => d.parameters.length) = some 4 := by decide +kernel
theorem pmd_45 : (parseMethodDescriptor "(IZI)I").map (fun d => d.parameters.length) = some 3 := by decide +kernel
theorem pmd_46 : (parseMethodDescriptor "([BI[BII)I").map (fun d => d.parameters.length) = some 5 := by decide +kernel
theorem pmd_47 : (parseMethodDescriptor "(III[B)I").map (fun d => d.parameters.length) = some 4 := by decide +kernel
theorem pmd_48 : (parseMethodDescriptor "([BI[BII)V").map (fun d => d.parameters.length) = some 5 := by decide +kernel
theorem pmd_49 : (parseMethodDescriptor "([BICCCC)I").map (fun d => d.parameters.length) = some 6 := by decide +kernel
theorem pmd_50 : (parseMethodDescriptor "(I)[Ljava/lang/Object;").map (fun d => d.parameters.length) = some 1 := by decide +kernel
theorem pmd_51 : (parseMethodDescriptor "(LLastasked;IZILLastaskedLaw$Out;)I").map (fun d => d.parameters.length) = some 5 := by decide +kernel
theorem pmd_52 : (parseMethodDescriptor "(LLastasked;IIILLastaskedLaw$Out;)I").map (fun d => d.parameters.length) = some 5 := by decide +kernel
theorem pmd_53 : (parseMethodDescriptor "()Ljava/lang/AbstractStringBuilder;").map (fun d => d.parameters.length) = some 0 := by decide +kernel
theorem pmd_54 : (parseMethodDescriptor "(I)Ljava/lang/AbstractStringBuilder;").map (fun d => d.parameters.length) = some 1 := by decide +kernel
theorem pmd_55 : (parseMethodDescriptor "()[Ljava/lang/Object;").map (fun d => d.parameters.length) = some 0 := by decide +kernel
theorem pmd_56 : (parseMethodDescriptor "()J").map (fun d => d.parameters.length) = some 0 := by decide +kernel
theorem pmd_57 : (parseMethodDescriptor "([BIB)V").map (fun d => d.parameters.length) = some 3 := by decide +kernel
theorem pmd_58 : (parseMethodDescriptor "(Ljava/lang/AbstractStringBuilder;Ljava/lang/Void;)V").map (fun d => d.parameters.length) = some 2 := by decide +kernel
theorem pmd_59 : (parseMethodDescriptor "(I)Ljava/lang/StringBuilder;").map (fun d => d.parameters.length) = some 1 := by decide +kernel
theorem pmd_60 : (parseMethodDescriptor "(Ljava/lang/Object;[Ljava/lang/Object;I)V").map (fun d => d.parameters.length) = some 3 := by decide +kernel
theorem pmd_61 : (parseMethodDescriptor "(Ljava/lang/StringBuilder;)V").map (fun d => d.parameters.length) = some 1 := by decide +kernel
theorem pmd_62 : (parseMethodDescriptor "(C)Ljava/lang/AbstractStringBuilder;").map (fun d => d.parameters.length) = some 1 := by decide +kernel
theorem pmd_63 : (parseMethodDescriptor "(Ljava/lang/String;)V").map (fun d => d.parameters.length) = some 1 := by decide +kernel
theorem pmd_64 : (parseMethodDescriptor "(Ljava/lang/Object;)Z").map (fun d => d.parameters.length) = some 1 := by decide +kernel
theorem pmd_65 : (parseMethodDescriptor "(C)Ljava/lang/StringBuilder;").map (fun d => d.parameters.length) = some 1 := by decide +kernel
theorem pmd_66 : (parseMethodDescriptor "()Ljava/lang/String;").map (fun d => d.parameters.length) = some 0 := by decide +kernel
theorem pmd_67 : (parseMethodDescriptor "(ILjava/lang/String;)V").map (fun d => d.parameters.length) = some 2 := by decide +kernel
theorem pmd_68 : (parseMethodDescriptor "(Ljava/lang/String;)Ljava/lang/AbstractStringBuilder;").map (fun d => d.parameters.length) = some 1 := by decide +kernel
theorem pmd_69 : (parseMethodDescriptor "(I)Ljava/lang/String;").map (fun d => d.parameters.length) = some 1 := by decide +kernel
theorem pmd_70 : (parseMethodDescriptor "(J)J").map (fun d => d.parameters.length) = some 1 := by decide +kernel
theorem pmd_71 : (parseMethodDescriptor "(II)Ljava/lang/String;").map (fun d => d.parameters.length) = some 2 := by decide +kernel
theorem pmd_72 : (parseMethodDescriptor "(Ljava/lang/String;)Ljava/lang/StringBuilder;").map (fun d => d.parameters.length) = some 1 := by decide +kernel
def ev_msL : List ev_I := [x_J0_coder_7d493, x_J1_canEncode_fc78d, x_J2_coderFromArrayLen_85cad, x_J2_length_9d52b, x_J2_newBytesLength_0f7a4, x_J3_checkFromIndexSize_8c36e, x_J3_checkFromToIndex_8c36e, x_J3_checkIndex_8e157, x_J5_getValue_6d5f1, x_J5_isLatin1_aae02, x_J5_length_8abf5, x_J6_getChars_ba4f3, x_J6_intValue_8abf5, x_J6_stringSize_0f7a4, x_J7_checkLength_df160, x_J8_hugeLength_7cf53, x_J9_max_7cf53, x_J9_min_7cf53, x_Jx35411_checkForComodification_da8c8, x_Jx35411_hasNext_aae02, x_Jx35411_init_45d68, x_Jx4a65c_clear_da8c8, x_Jx4a65c_elementData_915e3, x_Jx4a65c_fastRemove_b59b0, x_Jx4a65c_size_8abf5, x_Jxa1e45_init_da8c8, x_Jxd2413_init_da8c8, x_X0_countOfDepth, x_X0_countOutOfReach, x_X0_farthestPlace, x_X0_heldPlace, x_X0_init, x_X0_isNumber, x_X0_noteNext, x_X2_append, x_X2_dropAll, x_X2_find, x_X2_init, x_X2_isAboveMost, x_X2_isPlace, x_X2_sumOfValues, x_X4_begin, x_X4_init, x_X4_isOutdated, x_X4_isUsable, x_X4_outdate, x_X5_areBestsWithinMisses, x_X5_asked, x_X5_demandKey, x_X5_demandKindOfWalk, x_X5_demandRoomFor, x_X5_demandSize, x_X5_demandValue, x_X5_isNoneGrowingWithSize, x_X5_isTheoremKept, x_X5_knock, x_X5_mixed, x_X5_pairsOfTables, x_X5_refuse, x_X5_tableOf, x_X6_init, x_X7_anew, x_X7_isOn, x_X8_fails, x_X8_hitsOf, x_X8_isOut, x_X8_isSound, x_X8_isStaleNow, x_X8_knock, x_X8_no, x_X8_one, x_X8_thrown, x_J0_checkBoundsBeginEnd_23922, x_J0_checkBoundsOffCount_cabcc, x_J0_checkIndex_df160, x_J0_length_8abf5, x_J15_checkIndex_7cf53, x_J2_getChar_3b067, x_J2_newBytesFor_77867, x_J2_putChar_b72d1, x_J4_length_8abf5, x_J6_init_d00df, x_J7_copyOfRangeByte_39247, x_J7_copyOf_6403c, x_J7_copyOf_9075b, x_J8_newLength_cabcc, x_Jx35411_next_0502b, x_Jx4a65c_iterator_32c93, x_Jxc12de_init_da8c8, x_X0_add, x_X0_fewestMisses, x_X1_init, x_X2_changeValue, x_X2_dropAt, x_X2_isLastOf, x_X2_renew, x_X2_told, x_X3_init, x_X4_canCut, x_X4_isAnyAhead, x_X5_areMissesByDepth, x_X5_askedAt, x_X5_clear, x_X5_depthAt, x_X5_depthNow, x_X5_has, x_X5_house, x_X5_isNoTableAboveMost, x_X5_isStale, x_X5_keeperOf, x_X5_ofTable, x_X5_placeOf, x_X5_size, x_X5_walk, x_X5_withDepth, x_X7_hasMore, x_X8_asked, x_X8_forget, x_X8_isNo, x_X8_isNoSize, x_J2_checkBoundsBeginEnd_d044e, x_J2_checkBoundsOffCount_d044e, x_J2_checkIndex_2214a, x_J2_getChars_ba4f3, x_J5_init_d00df, x_J5_newCapacity_0f7a4, x_J6_valueOf_2dffe, x_J7_copyOfRange_39247, x_J7_copyOf_1904c, x_Jx4a65c_get_915e3, x_Jx4a65c_init_da8c8, x_Jx4a65c_remove_915e3, x_L_clear, x_L_has, x_L_house, x_L_isStale, x_L_ofTable, x_L_placeOf, x_L_size, x_L_walk, x_X1_startAnew, x_X2_become, x_X2_dropKey, x_X2_noteAsking, x_X2_takeIn, x_X4_advance, x_X4_cutLast, x_X5_areKeepersLastOfStack, x_X5_best, x_X5_depth, x_X5_eldest, x_X5_hasMore, x_X5_hits, x_X5_init, x_X5_keeps, x_X5_keyAt, x_X5_latest, x_X5_lost, x_X5_make, x_X5_misses, x_X5_pairAt, x_X5_set, x_X5_takenAt, x_X5_valueAt, x_X8_clear, x_X8_hasMore, x_X8_isNoKey, x_X8_isStale, x_X8_make, x_X8_size, x_X8_tableNow, x_X8_walk, x_J2_compress_5af95, x_J2_getChars_46870, x_J2_inflate_0e8fd, x_J2_putCharSB_b72d1, x_J2_putCharsAt_cd4e5, x_J4_init_da8c8, x_J5_ensureCapacityInternal_d00df, x_Jx4a65c_grow_92f84, x_L_best, x_L_depth, x_L_eldest, x_L_hasMore, x_L_hits, x_L_keeps, x_L_keyAt, x_L_latest, x_L_lost, x_L_make, x_L_misses, x_L_pairAt, x_L_set, x_L_takenAt, x_L_valueAt, x_X2_bring, x_X2_fetch, x_X2_fetchOrTakeIn, x_X4_advanceToEnd, x_X5_copy, x_X5_cut, x_X5_forget, x_X5_isSound, x_X5_mixedWithKeeper, x_X5_mixedWithTable, x_X5_remove, x_X5_step, x_X7_init, x_X7_place, x_X7_step, x_X8_askedAt, x_X8_before, x_X8_cut, x_X8_ofTable, x_X8_set, x_X8_told, x_J1_inflate_0e8fd, x_J2_compress_39247, x_J5_appendNull_278bc, x_J5_append_c97b9, x_Jx4a65c_grow_d5877, x_L_copy, x_L_cut, x_L_remove, x_L_step, x_X1_meet, x_X2_bringIfAbsent, x_X5_digest, x_X5_get, x_X5_getOr, x_X5_put, x_X5_rest, x_X8_bestNow, x_X8_eldest, x_X8_has, x_X8_init, x_X8_keyAt, x_X8_latest, x_X8_pairAt, x_X8_placeOf, x_X8_remove, x_X8_rest, x_X8_step, x_X8_unlike, x_X8_valueAt, x_J0_getBytes_840e7, x_J0_init_db425, x_J4_append_bf812, x_J5_inflate_da8c8, x_Jx4a65c_add_72be8, x_L_get, x_L_getOr, x_L_put, x_L_rest, x_X5_askOne, x_X5_putIfAbsent, x_X8_best, x_X8_depthOf, x_X8_houseNow, x_J0_init_81219, x_J5_append_3fe6f, x_J5_inflateIfNeededFor_a7421, x_Jx4a65c_add_9ea2d, x_L_putIfAbsent, x_X5_ask, x_X5_askRow, x_X8_depth, x_X8_depthAt, x_X8_house, x_X8_isHit, x_X8_isKept, x_X8_keyWith, x_X8_withDepth, x_J4_append_cf468, x_J4_toString_0e30d, x_J5_putStringAt_47b60, x_L_ask, x_L_askRow, x_X7_asked, x_X8_asks, x_X8_copy, x_X8_keeps, x_X8_lostNow, x_X8_missesNow, x_X8_takenNow, x_J5_append_cf1ce, x_X2_written, x_X8_addAskings, x_X8_ask, x_X8_askRow, x_X8_got, x_X8_hits, x_X8_lost, x_X8_misses, x_X8_put, x_X8_putIfAbsent, x_X8_takenAt, x_X8_text, x_J4_append_15ec4, x_X5_kept, x_X5_stack, x_X5_text, x_X8_digest, x_X8_get, x_X8_getOr, x_L_kept, x_L_text, x_X8_keys, x_X8_kept, x_X8_stack, x_L_law]
def ev_ms (mi : Nat) : ev_I := ev_msL.getD mi x_L_law
theorem cal_J0_coder_7d493 {x : ev_I} (hx : (ev_ms 0).2.2.2.2.2 + 1 ≤ x.2.2.2.2.2) : ev_cal ev_ms x 0 0 := ev_cal_mk x_J0_coder_7d493 rfl rfl (lw_m2 (List.mem_of_getElem? (i := 15) rfl)) (lw_m0 (List.mem_of_getElem? (i := 28) rfl)) nmh_RJ0 pmd_0 hx (Nat.le_of_ble_eq_true rfl)
theorem cal_J1_canEncode_fc78d {x : ev_I} (hx : (ev_ms 1).2.2.2.2.2 + 1 ≤ x.2.2.2.2.2) : ev_cal ev_ms x 1 1 := ev_cal_mk x_J1_canEncode_fc78d rfl rfl (lw_m1 (List.mem_of_getElem? (i := 73) rfl)) (lw_m0 (List.mem_of_getElem? (i := 30) rfl)) nmh_RJ1 pmd_1 hx (Nat.le_of_ble_eq_true rfl)
theorem cal_J2_coderFromArrayLen_85cad {x : ev_I} (hx : (ev_ms 2).2.2.2.2.2 + 1 ≤ x.2.2.2.2.2) : ev_cal ev_ms x 2 2 := ev_cal_mk x_J2_coderFromArrayLen_85cad rfl rfl (lw_m2 (List.mem_of_getElem? (i := 70) rfl)) (lw_m0 (List.mem_of_getElem? (i := 29) rfl)) nmh_RJ2 pmd_2 hx (Nat.le_of_ble_eq_true rfl)
theorem cal_J2_length_9d52b {x : ev_I} (hx : (ev_ms 3).2.2.2.2.2 + 1 ≤ x.2.2.2.2.2) : ev_cal ev_ms x 3 1 := ev_cal_mk x_J2_length_9d52b rfl rfl (lw_m1 (List.mem_of_getElem? (i := 89) rfl)) (lw_m0 (List.mem_of_getElem? (i := 29) rfl)) nmh_RJ2 pmd_3 hx (Nat.le_of_ble_eq_true rfl)
theorem cal_J2_newBytesLength_0f7a4 {x : ev_I} (hx : (ev_ms 4).2.2.2.2.2 + 1 ≤ x.2.2.2.2.2) : ev_cal ev_ms x 4 1 := ev_cal_mk x_J2_newBytesLength_0f7a4 rfl rfl (lw_m1 (List.mem_of_getElem? (i := 8) rfl)) (lw_m0 (List.mem_of_getElem? (i := 29) rfl)) nmh_RJ2 pmd_4 hx (Nat.le_of_ble_eq_true rfl)
theorem cal_J3_checkFromIndexSize_8c36e {x : ev_I} (hx : (ev_ms 5).2.2.2.2.2 + 1 ≤ x.2.2.2.2.2) : ev_cal ev_ms x 5 4 := ev_cal_mk x_J3_checkFromIndexSize_8c36e rfl rfl (lw_m1 (List.mem_of_getElem? (i := 97) rfl)) (lw_m0 (List.mem_of_getElem? (i := 19) rfl)) nmh_RJ3 pmd_5 hx (Nat.le_of_ble_eq_true rfl)
theorem cal_J3_checkFromToIndex_8c36e {x : ev_I} (hx : (ev_ms 6).2.2.2.2.2 + 1 ≤ x.2.2.2.2.2) : ev_cal ev_ms x 6 4 := ev_cal_mk x_J3_checkFromToIndex_8c36e rfl rfl (lw_m1 (List.mem_of_getElem? (i := 147) rfl)) (lw_m0 (List.mem_of_getElem? (i := 19) rfl)) nmh_RJ3 pmd_5 hx (Nat.le_of_ble_eq_true rfl)
theorem cal_J3_checkIndex_8e157 {x : ev_I} (hx : (ev_ms 7).2.2.2.2.2 + 1 ≤ x.2.2.2.2.2) : ev_cal ev_ms x 7 3 := ev_cal_mk x_J3_checkIndex_8e157 rfl rfl (lw_m1 (List.mem_of_getElem? (i := 118) rfl)) (lw_m0 (List.mem_of_getElem? (i := 19) rfl)) nmh_RJ3 pmd_6 hx (Nat.le_of_ble_eq_true rfl)
theorem cal_J5_getValue_6d5f1 {x : ev_I} (hx : (ev_ms 8).2.2.2.2.2 + 1 ≤ x.2.2.2.2.2) : ev_cal ev_ms x 8 0 := ev_cal_mk x_J5_getValue_6d5f1 rfl rfl (lw_m1 (List.mem_of_getElem? (i := 170) rfl)) (lw_m0 (List.mem_of_getElem? (i := 26) rfl)) nmh_RJ5 pmd_7 hx (Nat.le_of_ble_eq_true rfl)
theorem cal_J5_isLatin1_aae02 {x : ev_I} (hx : (ev_ms 9).2.2.2.2.2 + 1 ≤ x.2.2.2.2.2) : ev_cal ev_ms x 9 0 := ev_cal_mk x_J5_isLatin1_aae02 rfl rfl (lw_m1 (List.mem_of_getElem? (i := 70) rfl)) (lw_m0 (List.mem_of_getElem? (i := 26) rfl)) nmh_RJ5 pmd_8 hx (Nat.le_of_ble_eq_true rfl)
theorem cal_J5_length_8abf5 {x : ev_I} (hx : (ev_ms 10).2.2.2.2.2 + 1 ≤ x.2.2.2.2.2) : ev_cal ev_ms x 10 0 := ev_cal_mk x_J5_length_8abf5 rfl rfl (lw_m1 (List.mem_of_getElem? (i := 178) rfl)) (lw_m0 (List.mem_of_getElem? (i := 26) rfl)) nmh_RJ5 pmd_9 hx (Nat.le_of_ble_eq_true rfl)
theorem cal_J6_getChars_ba4f3 {x : ev_I} (hx : (ev_ms 11).2.2.2.2.2 + 1 ≤ x.2.2.2.2.2) : ev_cal ev_ms x 11 3 := ev_cal_mk x_J6_getChars_ba4f3 rfl rfl (lw_m1 (List.mem_of_getElem? (i := 131) rfl)) (lw_m0 (List.mem_of_getElem? (i := 32) rfl)) nmh_RJ6 pmd_10 hx (Nat.le_of_ble_eq_true rfl)
theorem cal_J6_intValue_8abf5 {x : ev_I} (hx : (ev_ms 12).2.2.2.2.2 + 1 ≤ x.2.2.2.2.2) : ev_cal ev_ms x 12 0 := ev_cal_mk x_J6_intValue_8abf5 rfl rfl (lw_m6 (List.mem_of_getElem? (i := 111) rfl)) (lw_m0 (List.mem_of_getElem? (i := 32) rfl)) nmh_RJ6 pmd_9 hx (Nat.le_of_ble_eq_true rfl)
theorem cal_J6_stringSize_0f7a4 {x : ev_I} (hx : (ev_ms 13).2.2.2.2.2 + 1 ≤ x.2.2.2.2.2) : ev_cal ev_ms x 13 1 := ev_cal_mk x_J6_stringSize_0f7a4 rfl rfl (lw_m1 (List.mem_of_getElem? (i := 128) rfl)) (lw_m0 (List.mem_of_getElem? (i := 32) rfl)) nmh_RJ6 pmd_4 hx (Nat.le_of_ble_eq_true rfl)
theorem cal_J7_checkLength_df160 {x : ev_I} (hx : (ev_ms 14).2.2.2.2.2 + 1 ≤ x.2.2.2.2.2) : ev_cal ev_ms x 14 2 := ev_cal_mk x_J7_checkLength_df160 rfl rfl (lw_m1 (List.mem_of_getElem? (i := 188) rfl)) (lw_m0 (List.mem_of_getElem? (i := 23) rfl)) nmh_RJ7 pmd_11 hx (Nat.le_of_ble_eq_true rfl)
theorem cal_J8_hugeLength_7cf53 {x : ev_I} (hx : (ev_ms 15).2.2.2.2.2 + 1 ≤ x.2.2.2.2.2) : ev_cal ev_ms x 15 2 := ev_cal_mk x_J8_hugeLength_7cf53 rfl rfl (lw_m1 (List.mem_of_getElem? (i := 48) rfl)) (lw_m0 (List.mem_of_getElem? (i := 21) rfl)) nmh_RJ8 pmd_12 hx (Nat.le_of_ble_eq_true rfl)
theorem cal_J9_max_7cf53 {x : ev_I} (hx : (ev_ms 16).2.2.2.2.2 + 1 ≤ x.2.2.2.2.2) : ev_cal ev_ms x 16 2 := ev_cal_mk x_J9_max_7cf53 rfl rfl (lw_m1 (List.mem_of_getElem? (i := 44) rfl)) (lw_m0 (List.mem_of_getElem? (i := 22) rfl)) nmh_RJ9 pmd_12 hx (Nat.le_of_ble_eq_true rfl)
theorem cal_J9_min_7cf53 {x : ev_I} (hx : (ev_ms 17).2.2.2.2.2 + 1 ≤ x.2.2.2.2.2) : ev_cal ev_ms x 17 2 := ev_cal_mk x_J9_min_7cf53 rfl rfl (lw_m1 (List.mem_of_getElem? (i := 62) rfl)) (lw_m0 (List.mem_of_getElem? (i := 22) rfl)) nmh_RJ9 pmd_12 hx (Nat.le_of_ble_eq_true rfl)
theorem cal_Jx35411_checkForComodification_da8c8 {x : ev_I} (hx : (ev_ms 18).2.2.2.2.2 + 1 ≤ x.2.2.2.2.2) : ev_cal ev_ms x 18 0 := ev_cal_mk x_Jx35411_checkForComodification_da8c8 rfl rfl (lw_m5 (List.mem_of_getElem? (i := 231) rfl)) (lw_m0 (List.mem_of_getElem? (i := 25) rfl)) nmh_RJx35411 pmd_13 hx (Nat.le_of_ble_eq_true rfl)
theorem cal_Jx35411_hasNext_aae02 {x : ev_I} (hx : (ev_ms 19).2.2.2.2.2 + 1 ≤ x.2.2.2.2.2) : ev_cal ev_ms x 19 0 := ev_cal_mk x_Jx35411_hasNext_aae02 rfl rfl (lw_m5 (List.mem_of_getElem? (i := 218) rfl)) (lw_m0 (List.mem_of_getElem? (i := 25) rfl)) nmh_RJx35411 pmd_8 hx (Nat.le_of_ble_eq_true rfl)
theorem cal_Jx35411_init_45d68 {x : ev_I} (hx : (ev_ms 20).2.2.2.2.2 + 1 ≤ x.2.2.2.2.2) : ev_cal ev_ms x 20 1 := ev_cal_mk x_Jx35411_init_45d68 rfl rfl (lw_m5 (List.mem_of_getElem? (i := 194) rfl)) (lw_m0 (List.mem_of_getElem? (i := 25) rfl)) nmh_RJx35411 pmd_14 hx (Nat.le_of_ble_eq_true rfl)
theorem cal_Jx4a65c_clear_da8c8 {x : ev_I} (hx : (ev_ms 21).2.2.2.2.2 + 1 ≤ x.2.2.2.2.2) : ev_cal ev_ms x 21 0 := ev_cal_mk x_Jx4a65c_clear_da8c8 rfl rfl (lw_m5 (List.mem_of_getElem? (i := 53) rfl)) (lw_m0 (List.mem_of_getElem? (i := 11) rfl)) nmh_RJx4a65c pmd_13 hx (Nat.le_of_ble_eq_true rfl)
theorem cal_Jx4a65c_elementData_915e3 {x : ev_I} (hx : (ev_ms 22).2.2.2.2.2 + 1 ≤ x.2.2.2.2.2) : ev_cal ev_ms x 22 1 := ev_cal_mk x_Jx4a65c_elementData_915e3 rfl rfl (lw_m5 (List.mem_of_getElem? (i := 78) rfl)) (lw_m0 (List.mem_of_getElem? (i := 11) rfl)) nmh_RJx4a65c pmd_15 hx (Nat.le_of_ble_eq_true rfl)
theorem cal_Jx4a65c_fastRemove_b59b0 {x : ev_I} (hx : (ev_ms 23).2.2.2.2.2 + 1 ≤ x.2.2.2.2.2) : ev_cal ev_ms x 23 2 := ev_cal_mk x_Jx4a65c_fastRemove_b59b0 rfl rfl (lw_m5 (List.mem_of_getElem? (i := 93) rfl)) (lw_m0 (List.mem_of_getElem? (i := 11) rfl)) nmh_RJx4a65c pmd_16 hx (Nat.le_of_ble_eq_true rfl)
theorem cal_Jx4a65c_size_8abf5 {x : ev_I} (hx : (ev_ms 24).2.2.2.2.2 + 1 ≤ x.2.2.2.2.2) : ev_cal ev_ms x 24 0 := ev_cal_mk x_Jx4a65c_size_8abf5 rfl rfl (lw_m5 (List.mem_of_getElem? (i := 49) rfl)) (lw_m0 (List.mem_of_getElem? (i := 11) rfl)) nmh_RJx4a65c pmd_9 hx (Nat.le_of_ble_eq_true rfl)
theorem cal_Jxa1e45_init_da8c8 {x : ev_I} (hx : (ev_ms 25).2.2.2.2.2 + 1 ≤ x.2.2.2.2.2) : ev_cal ev_ms x 25 0 := ev_cal_mk x_Jxa1e45_init_da8c8 rfl rfl (lw_m4 (List.mem_of_getElem? (i := 194) rfl)) (lw_m0 (List.mem_of_getElem? (i := 9) rfl)) nmh_RJxa1e45 pmd_13 hx (Nat.le_of_ble_eq_true rfl)
theorem cal_Jxd2413_init_da8c8 {x : ev_I} (hx : (ev_ms 26).2.2.2.2.2 + 1 ≤ x.2.2.2.2.2) : ev_cal ev_ms x 26 0 := ev_cal_mk x_Jxd2413_init_da8c8 rfl rfl (lw_m6 (List.mem_of_getElem? (i := 130) rfl)) (lw_m0 (List.mem_of_getElem? (i := 31) rfl)) nmh_RJxd2413 pmd_13 hx (Nat.le_of_ble_eq_true rfl)
theorem cal_X0_countOfDepth {x : ev_I} (hx : (ev_ms 27).2.2.2.2.2 + 1 ≤ x.2.2.2.2.2) : ev_cal ev_ms x 27 1 := ev_cal_mk x_X0_countOfDepth rfl rfl (lw_m2 (List.mem_of_getElem? (i := 89) rfl)) (lw_m0 (List.mem_of_getElem? (i := 2) rfl)) nmh_RX0 pmd_4 hx (Nat.le_of_ble_eq_true rfl)
theorem cal_X0_countOutOfReach {x : ev_I} (hx : (ev_ms 28).2.2.2.2.2 + 1 ≤ x.2.2.2.2.2) : ev_cal ev_ms x 28 1 := ev_cal_mk x_X0_countOutOfReach rfl rfl (lw_m2 (List.mem_of_getElem? (i := 136) rfl)) (lw_m0 (List.mem_of_getElem? (i := 2) rfl)) nmh_RX0 pmd_4 hx (Nat.le_of_ble_eq_true rfl)
theorem cal_X0_farthestPlace {x : ev_I} (hx : (ev_ms 29).2.2.2.2.2 + 1 ≤ x.2.2.2.2.2) : ev_cal ev_ms x 29 1 := ev_cal_mk x_X0_farthestPlace rfl rfl (lw_m2 (List.mem_of_getElem? (i := 110) rfl)) (lw_m0 (List.mem_of_getElem? (i := 2) rfl)) nmh_RX0 pmd_4 hx (Nat.le_of_ble_eq_true rfl)
theorem cal_X0_heldPlace {x : ev_I} (hx : (ev_ms 30).2.2.2.2.2 + 1 ≤ x.2.2.2.2.2) : ev_cal ev_ms x 30 2 := ev_cal_mk x_X0_heldPlace rfl rfl (lw_m2 (List.mem_of_getElem? (i := 106) rfl)) (lw_m0 (List.mem_of_getElem? (i := 2) rfl)) nmh_RX0 pmd_12 hx (Nat.le_of_ble_eq_true rfl)
theorem cal_X0_init {x : ev_I} (hx : (ev_ms 31).2.2.2.2.2 + 1 ≤ x.2.2.2.2.2) : ev_cal ev_ms x 31 0 := ev_cal_mk x_X0_init rfl rfl (lw_m0 (List.mem_of_getElem? (i := 48) rfl)) (lw_m0 (List.mem_of_getElem? (i := 2) rfl)) nmh_RX0 pmd_13 hx (Nat.le_of_ble_eq_true rfl)
theorem cal_X0_isNumber {x : ev_I} (hx : (ev_ms 32).2.2.2.2.2 + 1 ≤ x.2.2.2.2.2) : ev_cal ev_ms x 32 1 := ev_cal_mk x_X0_isNumber rfl rfl (lw_m0 (List.mem_of_getElem? (i := 219) rfl)) (lw_m0 (List.mem_of_getElem? (i := 2) rfl)) nmh_RX0 pmd_17 hx (Nat.le_of_ble_eq_true rfl)
theorem cal_X0_noteNext {x : ev_I} (hx : (ev_ms 33).2.2.2.2.2 + 1 ≤ x.2.2.2.2.2) : ev_cal ev_ms x 33 1 := ev_cal_mk x_X0_noteNext rfl rfl (lw_m4 (List.mem_of_getElem? (i := 104) rfl)) (lw_m0 (List.mem_of_getElem? (i := 2) rfl)) nmh_RX0 pmd_18 hx (Nat.le_of_ble_eq_true rfl)
theorem cal_X2_append {x : ev_I} (hx : (ev_ms 34).2.2.2.2.2 + 1 ≤ x.2.2.2.2.2) : ev_cal ev_ms x 34 2 := ev_cal_mk x_X2_append rfl rfl (lw_m3 (List.mem_of_getElem? (i := 87) rfl)) (lw_m0 (List.mem_of_getElem? (i := 3) rfl)) nmh_RX2 pmd_11 hx (Nat.le_of_ble_eq_true rfl)
theorem cal_X2_dropAll {x : ev_I} (hx : (ev_ms 35).2.2.2.2.2 + 1 ≤ x.2.2.2.2.2) : ev_cal ev_ms x 35 0 := ev_cal_mk x_X2_dropAll rfl rfl (lw_m0 (List.mem_of_getElem? (i := 202) rfl)) (lw_m0 (List.mem_of_getElem? (i := 3) rfl)) nmh_RX2 pmd_9 hx (Nat.le_of_ble_eq_true rfl)
theorem cal_X2_find {x : ev_I} (hx : (ev_ms 36).2.2.2.2.2 + 1 ≤ x.2.2.2.2.2) : ev_cal ev_ms x 36 1 := ev_cal_mk x_X2_find rfl rfl (lw_m3 (List.mem_of_getElem? (i := 35) rfl)) (lw_m0 (List.mem_of_getElem? (i := 3) rfl)) nmh_RX2 pmd_4 hx (Nat.le_of_ble_eq_true rfl)
theorem cal_X2_init {x : ev_I} (hx : (ev_ms 37).2.2.2.2.2 + 1 ≤ x.2.2.2.2.2) : ev_cal ev_ms x 37 2 := ev_cal_mk x_X2_init rfl rfl (lw_m0 (List.mem_of_getElem? (i := 77) rfl)) (lw_m0 (List.mem_of_getElem? (i := 3) rfl)) nmh_RX2 pmd_19 hx (Nat.le_of_ble_eq_true rfl)
theorem cal_X2_isAboveMost {x : ev_I} (hx : (ev_ms 38).2.2.2.2.2 + 1 ≤ x.2.2.2.2.2) : ev_cal ev_ms x 38 0 := ev_cal_mk x_X2_isAboveMost rfl rfl (lw_m2 (List.mem_of_getElem? (i := 119) rfl)) (lw_m0 (List.mem_of_getElem? (i := 3) rfl)) nmh_RX2 pmd_8 hx (Nat.le_of_ble_eq_true rfl)
theorem cal_X2_isPlace {x : ev_I} (hx : (ev_ms 39).2.2.2.2.2 + 1 ≤ x.2.2.2.2.2) : ev_cal ev_ms x 39 1 := ev_cal_mk x_X2_isPlace rfl rfl (lw_m2 (List.mem_of_getElem? (i := 216) rfl)) (lw_m0 (List.mem_of_getElem? (i := 3) rfl)) nmh_RX2 pmd_17 hx (Nat.le_of_ble_eq_true rfl)
theorem cal_X2_sumOfValues {x : ev_I} (hx : (ev_ms 40).2.2.2.2.2 + 1 ≤ x.2.2.2.2.2) : ev_cal ev_ms x 40 0 := ev_cal_mk x_X2_sumOfValues rfl rfl (lw_m2 (List.mem_of_getElem? (i := 200) rfl)) (lw_m0 (List.mem_of_getElem? (i := 3) rfl)) nmh_RX2 pmd_9 hx (Nat.le_of_ble_eq_true rfl)
theorem cal_X4_begin {x : ev_I} (hx : (ev_ms 41).2.2.2.2.2 + 1 ≤ x.2.2.2.2.2) : ev_cal ev_ms x 41 1 := ev_cal_mk x_X4_begin rfl rfl (lw_m4 (List.mem_of_getElem? (i := 27) rfl)) (lw_m0 (List.mem_of_getElem? (i := 5) rfl)) nmh_RX4 pmd_18 hx (Nat.le_of_ble_eq_true rfl)
theorem cal_X4_init {x : ev_I} (hx : (ev_ms 42).2.2.2.2.2 + 1 ≤ x.2.2.2.2.2) : ev_cal ev_ms x 42 1 := ev_cal_mk x_X4_init rfl rfl (lw_m0 (List.mem_of_getElem? (i := 119) rfl)) (lw_m0 (List.mem_of_getElem? (i := 5) rfl)) nmh_RX4 pmd_20 hx (Nat.le_of_ble_eq_true rfl)
theorem cal_X4_isOutdated {x : ev_I} (hx : (ev_ms 43).2.2.2.2.2 + 1 ≤ x.2.2.2.2.2) : ev_cal ev_ms x 43 0 := ev_cal_mk x_X4_isOutdated rfl rfl (lw_m2 (List.mem_of_getElem? (i := 237) rfl)) (lw_m0 (List.mem_of_getElem? (i := 5) rfl)) nmh_RX4 pmd_8 hx (Nat.le_of_ble_eq_true rfl)
theorem cal_X4_isUsable {x : ev_I} (hx : (ev_ms 44).2.2.2.2.2 + 1 ≤ x.2.2.2.2.2) : ev_cal ev_ms x 44 0 := ev_cal_mk x_X4_isUsable rfl rfl (lw_m2 (List.mem_of_getElem? (i := 228) rfl)) (lw_m0 (List.mem_of_getElem? (i := 5) rfl)) nmh_RX4 pmd_8 hx (Nat.le_of_ble_eq_true rfl)
theorem cal_X4_outdate {x : ev_I} (hx : (ev_ms 45).2.2.2.2.2 + 1 ≤ x.2.2.2.2.2) : ev_cal ev_ms x 45 0 := ev_cal_mk x_X4_outdate rfl rfl (lw_m3 (List.mem_of_getElem? (i := 63) rfl)) (lw_m0 (List.mem_of_getElem? (i := 5) rfl)) nmh_RX4 pmd_13 hx (Nat.le_of_ble_eq_true rfl)
theorem cal_X5_areBestsWithinMisses {x : ev_I} (hx : (ev_ms 46).2.2.2.2.2 + 1 ≤ x.2.2.2.2.2) : ev_cal ev_ms x 46 0 := ev_cal_mk x_X5_areBestsWithinMisses rfl rfl (lw_m2 (List.mem_of_getElem? (i := 140) rfl)) (lw_m0 (List.mem_of_getElem? (i := 1) rfl)) nmh_RX5 pmd_8 hx (Nat.le_of_ble_eq_true rfl)
theorem cal_X5_asked {x : ev_I} (hx : (ev_ms 47).2.2.2.2.2 + 1 ≤ x.2.2.2.2.2) : ev_cal ev_ms x 47 0 := ev_cal_mk x_X5_asked rfl rfl (lw_m0 (List.mem_of_getElem? (i := 211) rfl)) (lw_m0 (List.mem_of_getElem? (i := 1) rfl)) nmh_RX5 pmd_9 hx (Nat.le_of_ble_eq_true rfl)
theorem cal_X5_demandKey {x : ev_I} (hx : (ev_ms 48).2.2.2.2.2 + 1 ≤ x.2.2.2.2.2) : ev_cal ev_ms x 48 1 := ev_cal_mk x_X5_demandKey rfl rfl (lw_m3 (List.mem_of_getElem? (i := 30) rfl)) (lw_m0 (List.mem_of_getElem? (i := 1) rfl)) nmh_RX5 pmd_18 hx (Nat.le_of_ble_eq_true rfl)
theorem cal_X5_demandKindOfWalk {x : ev_I} (hx : (ev_ms 49).2.2.2.2.2 + 1 ≤ x.2.2.2.2.2) : ev_cal ev_ms x 49 1 := ev_cal_mk x_X5_demandKindOfWalk rfl rfl (lw_m4 (List.mem_of_getElem? (i := 11) rfl)) (lw_m0 (List.mem_of_getElem? (i := 1) rfl)) nmh_RX5 pmd_18 hx (Nat.le_of_ble_eq_true rfl)
theorem cal_X5_demandRoomFor {x : ev_I} (hx : (ev_ms 50).2.2.2.2.2 + 1 ≤ x.2.2.2.2.2) : ev_cal ev_ms x 50 1 := ev_cal_mk x_X5_demandRoomFor rfl rfl (lw_m4 (List.mem_of_getElem? (i := 87) rfl)) (lw_m0 (List.mem_of_getElem? (i := 1) rfl)) nmh_RX5 pmd_18 hx (Nat.le_of_ble_eq_true rfl)
theorem cal_X5_demandSize {x : ev_I} (hx : (ev_ms 51).2.2.2.2.2 + 1 ≤ x.2.2.2.2.2) : ev_cal ev_ms x 51 1 := ev_cal_mk x_X5_demandSize rfl rfl (lw_m3 (List.mem_of_getElem? (i := 14) rfl)) (lw_m0 (List.mem_of_getElem? (i := 1) rfl)) nmh_RX5 pmd_18 hx (Nat.le_of_ble_eq_true rfl)
theorem cal_X5_demandValue {x : ev_I} (hx : (ev_ms 52).2.2.2.2.2 + 1 ≤ x.2.2.2.2.2) : ev_cal ev_ms x 52 1 := ev_cal_mk x_X5_demandValue rfl rfl (lw_m3 (List.mem_of_getElem? (i := 73) rfl)) (lw_m0 (List.mem_of_getElem? (i := 1) rfl)) nmh_RX5 pmd_18 hx (Nat.le_of_ble_eq_true rfl)
theorem cal_X5_isNoneGrowingWithSize {x : ev_I} (hx : (ev_ms 53).2.2.2.2.2 + 1 ≤ x.2.2.2.2.2) : ev_cal ev_ms x 53 0 := ev_cal_mk x_X5_isNoneGrowingWithSize rfl rfl (lw_m2 (List.mem_of_getElem? (i := 144) rfl)) (lw_m0 (List.mem_of_getElem? (i := 1) rfl)) nmh_RX5 pmd_8 hx (Nat.le_of_ble_eq_true rfl)
theorem cal_X5_isTheoremKept {x : ev_I} (hx : (ev_ms 54).2.2.2.2.2 + 1 ≤ x.2.2.2.2.2) : ev_cal ev_ms x 54 0 := ev_cal_mk x_X5_isTheoremKept rfl rfl (lw_m2 (List.mem_of_getElem? (i := 148) rfl)) (lw_m0 (List.mem_of_getElem? (i := 1) rfl)) nmh_RX5 pmd_8 hx (Nat.le_of_ble_eq_true rfl)
theorem cal_X5_knock {x : ev_I} (hx : (ev_ms 55).2.2.2.2.2 + 1 ≤ x.2.2.2.2.2) : ev_cal ev_ms x 55 0 := ev_cal_mk x_X5_knock rfl rfl (lw_m2 (List.mem_of_getElem? (i := 93) rfl)) (lw_m0 (List.mem_of_getElem? (i := 1) rfl)) nmh_RX5 pmd_9 hx (Nat.le_of_ble_eq_true rfl)
theorem cal_X5_mixed {x : ev_I} (hx : (ev_ms 56).2.2.2.2.2 + 1 ≤ x.2.2.2.2.2) : ev_cal ev_ms x 56 2 := ev_cal_mk x_X5_mixed rfl rfl (lw_m2 (List.mem_of_getElem? (i := 167) rfl)) (lw_m0 (List.mem_of_getElem? (i := 1) rfl)) nmh_RX5 pmd_21 hx (Nat.le_of_ble_eq_true rfl)
theorem cal_X5_pairsOfTables {x : ev_I} (hx : (ev_ms 57).2.2.2.2.2 + 1 ≤ x.2.2.2.2.2) : ev_cal ev_ms x 57 0 := ev_cal_mk x_X5_pairsOfTables rfl rfl (lw_m2 (List.mem_of_getElem? (i := 161) rfl)) (lw_m0 (List.mem_of_getElem? (i := 1) rfl)) nmh_RX5 pmd_9 hx (Nat.le_of_ble_eq_true rfl)
theorem cal_X5_refuse {x : ev_I} (hx : (ev_ms 58).2.2.2.2.2 + 1 ≤ x.2.2.2.2.2) : ev_cal ev_ms x 58 0 := ev_cal_mk x_X5_refuse rfl rfl (lw_m3 (List.mem_of_getElem? (i := 178) rfl)) (lw_m0 (List.mem_of_getElem? (i := 1) rfl)) nmh_RX5 pmd_9 hx (Nat.le_of_ble_eq_true rfl)
theorem cal_X5_tableOf {x : ev_I} (hx : (ev_ms 59).2.2.2.2.2 + 1 ≤ x.2.2.2.2.2) : ev_cal ev_ms x 59 1 := ev_cal_mk x_X5_tableOf rfl rfl (lw_m2 (List.mem_of_getElem? (i := 180) rfl)) (lw_m0 (List.mem_of_getElem? (i := 1) rfl)) nmh_RX5 pmd_22 hx (Nat.le_of_ble_eq_true rfl)
theorem cal_X6_init {x : ev_I} (hx : (ev_ms 60).2.2.2.2.2 + 1 ≤ x.2.2.2.2.2) : ev_cal ev_ms x 60 0 := ev_cal_mk x_X6_init rfl rfl (lw_m3 (List.mem_of_getElem? (i := 41) rfl)) (lw_m0 (List.mem_of_getElem? (i := 12) rfl)) nmh_RX6 pmd_13 hx (Nat.le_of_ble_eq_true rfl)
theorem cal_X7_anew {x : ev_I} (hx : (ev_ms 61).2.2.2.2.2 + 1 ≤ x.2.2.2.2.2) : ev_cal ev_ms x 61 2 := ev_cal_mk x_X7_anew rfl rfl (lw_m5 (List.mem_of_getElem? (i := 57) rfl)) (lw_m0 (List.mem_of_getElem? (i := 8) rfl)) nmh_RX7 pmd_19 hx (Nat.le_of_ble_eq_true rfl)
theorem cal_X7_isOn {x : ev_I} (hx : (ev_ms 62).2.2.2.2.2 + 1 ≤ x.2.2.2.2.2) : ev_cal ev_ms x 62 0 := ev_cal_mk x_X7_isOn rfl rfl (lw_m6 (List.mem_of_getElem? (i := 61) rfl)) (lw_m0 (List.mem_of_getElem? (i := 8) rfl)) nmh_RX7 pmd_8 hx (Nat.le_of_ble_eq_true rfl)
theorem cal_X8_fails {x : ev_I} (hx : (ev_ms 63).2.2.2.2.2 + 1 ≤ x.2.2.2.2.2) : ev_cal ev_ms x 63 3 := ev_cal_mk x_X8_fails rfl rfl (lw_m5 (List.mem_of_getElem? (i := 45) rfl)) (lw_m0 (List.mem_of_getElem? (i := 7) rfl)) nmh_RX8 pmd_23 hx (Nat.le_of_ble_eq_true rfl)
theorem cal_X8_hitsOf {x : ev_I} (hx : (ev_ms 64).2.2.2.2.2 + 1 ≤ x.2.2.2.2.2) : ev_cal ev_ms x 64 1 := ev_cal_mk x_X8_hitsOf rfl rfl (lw_m6 (List.mem_of_getElem? (i := 139) rfl)) (lw_m0 (List.mem_of_getElem? (i := 7) rfl)) nmh_RX8 pmd_4 hx (Nat.le_of_ble_eq_true rfl)
theorem cal_X8_isOut {x : ev_I} (hx : (ev_ms 65).2.2.2.2.2 + 1 ≤ x.2.2.2.2.2) : ev_cal ev_ms x 65 2 := ev_cal_mk x_X8_isOut rfl rfl (lw_m5 (List.mem_of_getElem? (i := 41) rfl)) (lw_m0 (List.mem_of_getElem? (i := 7) rfl)) nmh_RX8 pmd_24 hx (Nat.le_of_ble_eq_true rfl)
theorem cal_X8_isSound {x : ev_I} (hx : (ev_ms 66).2.2.2.2.2 + 1 ≤ x.2.2.2.2.2) : ev_cal ev_ms x 66 0 := ev_cal_mk x_X8_isSound rfl rfl (lw_m7 (List.mem_of_getElem? (i := 12) rfl)) (lw_m0 (List.mem_of_getElem? (i := 7) rfl)) nmh_RX8 pmd_8 hx (Nat.le_of_ble_eq_true rfl)
theorem cal_X8_isStaleNow {x : ev_I} (hx : (ev_ms 67).2.2.2.2.2 + 1 ≤ x.2.2.2.2.2) : ev_cal ev_ms x 67 1 := ev_cal_mk x_X8_isStaleNow rfl rfl (lw_m6 (List.mem_of_getElem? (i := 86) rfl)) (lw_m0 (List.mem_of_getElem? (i := 7) rfl)) nmh_RX8 pmd_17 hx (Nat.le_of_ble_eq_true rfl)
theorem cal_X8_knock {x : ev_I} (hx : (ev_ms 68).2.2.2.2.2 + 1 ≤ x.2.2.2.2.2) : ev_cal ev_ms x 68 0 := ev_cal_mk x_X8_knock rfl rfl (lw_m7 (List.mem_of_getElem? (i := 8) rfl)) (lw_m0 (List.mem_of_getElem? (i := 7) rfl)) nmh_RX8 pmd_9 hx (Nat.le_of_ble_eq_true rfl)
theorem cal_X8_no {x : ev_I} (hx : (ev_ms 69).2.2.2.2.2 + 1 ≤ x.2.2.2.2.2) : ev_cal ev_ms x 69 0 := ev_cal_mk x_X8_no rfl rfl (lw_m5 (List.mem_of_getElem? (i := 181) rfl)) (lw_m0 (List.mem_of_getElem? (i := 7) rfl)) nmh_RX8 pmd_9 hx (Nat.le_of_ble_eq_true rfl)
theorem cal_X8_one {x : ev_I} (hx : (ev_ms 70).2.2.2.2.2 + 1 ≤ x.2.2.2.2.2) : ev_cal ev_ms x 70 1 := ev_cal_mk x_X8_one rfl rfl (lw_m6 (List.mem_of_getElem? (i := 49) rfl)) (lw_m0 (List.mem_of_getElem? (i := 7) rfl)) nmh_RX8 pmd_25 hx (Nat.le_of_ble_eq_true rfl)
theorem cal_X8_thrown {x : ev_I} (hx : (ev_ms 71).2.2.2.2.2 + 1 ≤ x.2.2.2.2.2) : ev_cal ev_ms x 71 0 := ev_cal_mk x_X8_thrown rfl rfl (lw_m5 (List.mem_of_getElem? (i := 31) rfl)) (lw_m0 (List.mem_of_getElem? (i := 7) rfl)) nmh_RX8 pmd_9 hx (Nat.le_of_ble_eq_true rfl)
theorem cal_J0_checkBoundsBeginEnd_23922 {x : ev_I} (hx : (ev_ms 72).2.2.2.2.2 + 1 ≤ x.2.2.2.2.2) : ev_cal ev_ms x 72 3 := ev_cal_mk x_J0_checkBoundsBeginEnd_23922 rfl rfl (lw_m1 (List.mem_of_getElem? (i := 144) rfl)) (lw_m0 (List.mem_of_getElem? (i := 28) rfl)) nmh_RJ0 pmd_26 hx (Nat.le_of_ble_eq_true rfl)
theorem cal_J0_checkBoundsOffCount_cabcc {x : ev_I} (hx : (ev_ms 73).2.2.2.2.2 + 1 ≤ x.2.2.2.2.2) : ev_cal ev_ms x 73 3 := ev_cal_mk x_J0_checkBoundsOffCount_cabcc rfl rfl (lw_m1 (List.mem_of_getElem? (i := 92) rfl)) (lw_m0 (List.mem_of_getElem? (i := 28) rfl)) nmh_RJ0 pmd_27 hx (Nat.le_of_ble_eq_true rfl)
theorem cal_J0_checkIndex_df160 {x : ev_I} (hx : (ev_ms 74).2.2.2.2.2 + 1 ≤ x.2.2.2.2.2) : ev_cal ev_ms x 74 2 := ev_cal_mk x_J0_checkIndex_df160 rfl rfl (lw_m1 (List.mem_of_getElem? (i := 115) rfl)) (lw_m0 (List.mem_of_getElem? (i := 28) rfl)) nmh_RJ0 pmd_11 hx (Nat.le_of_ble_eq_true rfl)
theorem cal_J0_length_8abf5 {x : ev_I} (hx : (ev_ms 75).2.2.2.2.2 + 1 ≤ x.2.2.2.2.2) : ev_cal ev_ms x 75 0 := ev_cal_mk x_J0_length_8abf5 rfl rfl (lw_m2 (List.mem_of_getElem? (i := 11) rfl)) (lw_m0 (List.mem_of_getElem? (i := 28) rfl)) nmh_RJ0 pmd_9 hx (Nat.le_of_ble_eq_true rfl)
theorem cal_J15_checkIndex_7cf53 {x : ev_I} (hx : (ev_ms 76).2.2.2.2.2 + 1 ≤ x.2.2.2.2.2) : ev_cal ev_ms x 76 2 := ev_cal_mk x_J15_checkIndex_7cf53 rfl rfl (lw_m5 (List.mem_of_getElem? (i := 73) rfl)) (lw_m0 (List.mem_of_getElem? (i := 18) rfl)) nmh_RJ15 pmd_12 hx (Nat.le_of_ble_eq_true rfl)
theorem cal_J2_getChar_3b067 {x : ev_I} (hx : (ev_ms 77).2.2.2.2.2 + 1 ≤ x.2.2.2.2.2) : ev_cal ev_ms x 77 2 := ev_cal_mk x_J2_getChar_3b067 rfl rfl (lw_m2 (List.mem_of_getElem? (i := 66) rfl)) (lw_m0 (List.mem_of_getElem? (i := 29) rfl)) nmh_RJ2 pmd_28 hx (Nat.le_of_ble_eq_true rfl)
theorem cal_J2_newBytesFor_77867 {x : ev_I} (hx : (ev_ms 78).2.2.2.2.2 + 1 ≤ x.2.2.2.2.2) : ev_cal ev_ms x 78 1 := ev_cal_mk x_J2_newBytesFor_77867 rfl rfl (lw_m1 (List.mem_of_getElem? (i := 5) rfl)) (lw_m0 (List.mem_of_getElem? (i := 29) rfl)) nmh_RJ2 pmd_29 hx (Nat.le_of_ble_eq_true rfl)
theorem cal_J2_putChar_b72d1 {x : ev_I} (hx : (ev_ms 79).2.2.2.2.2 + 1 ≤ x.2.2.2.2.2) : ev_cal ev_ms x 79 3 := ev_cal_mk x_J2_putChar_b72d1 rfl rfl (lw_m1 (List.mem_of_getElem? (i := 100) rfl)) (lw_m0 (List.mem_of_getElem? (i := 29) rfl)) nmh_RJ2 pmd_30 hx (Nat.le_of_ble_eq_true rfl)
theorem cal_J4_length_8abf5 {x : ev_I} (hx : (ev_ms 80).2.2.2.2.2 + 1 ≤ x.2.2.2.2.2) : ev_cal ev_ms x 80 0 := ev_cal_mk x_J4_length_8abf5 rfl rfl (lw_m1 (List.mem_of_getElem? (i := 176) rfl)) (lw_m0 (List.mem_of_getElem? (i := 27) rfl)) nmh_RJ4 pmd_9 hx (Nat.le_of_ble_eq_true rfl)
theorem cal_J6_init_d00df {x : ev_I} (hx : (ev_ms 81).2.2.2.2.2 + 1 ≤ x.2.2.2.2.2) : ev_cal ev_ms x 81 1 := ev_cal_mk x_J6_init_d00df rfl rfl (lw_m6 (List.mem_of_getElem? (i := 127) rfl)) (lw_m0 (List.mem_of_getElem? (i := 32) rfl)) nmh_RJ6 pmd_18 hx (Nat.le_of_ble_eq_true rfl)
theorem cal_J7_copyOfRangeByte_39247 {x : ev_I} (hx : (ev_ms 82).2.2.2.2.2 + 1 ≤ x.2.2.2.2.2) : ev_cal ev_ms x 82 3 := ev_cal_mk x_J7_copyOfRangeByte_39247 rfl rfl (lw_m1 (List.mem_of_getElem? (i := 185) rfl)) (lw_m0 (List.mem_of_getElem? (i := 23) rfl)) nmh_RJ7 pmd_31 hx (Nat.le_of_ble_eq_true rfl)
theorem cal_J7_copyOf_6403c {x : ev_I} (hx : (ev_ms 83).2.2.2.2.2 + 1 ≤ x.2.2.2.2.2) : ev_cal ev_ms x 83 3 := ev_cal_mk x_J7_copyOf_6403c rfl rfl (lw_m5 (List.mem_of_getElem? (i := 138) rfl)) (lw_m0 (List.mem_of_getElem? (i := 23) rfl)) nmh_RJ7 pmd_32 hx (Nat.le_of_ble_eq_true rfl)
theorem cal_J7_copyOf_9075b {x : ev_I} (hx : (ev_ms 84).2.2.2.2.2 + 1 ≤ x.2.2.2.2.2) : ev_cal ev_ms x 84 2 := ev_cal_mk x_J7_copyOf_9075b rfl rfl (lw_m1 (List.mem_of_getElem? (i := 52) rfl)) (lw_m0 (List.mem_of_getElem? (i := 23) rfl)) nmh_RJ7 pmd_33 hx (Nat.le_of_ble_eq_true rfl)
theorem cal_J8_newLength_cabcc {x : ev_I} (hx : (ev_ms 85).2.2.2.2.2 + 1 ≤ x.2.2.2.2.2) : ev_cal ev_ms x 85 3 := ev_cal_mk x_J8_newLength_cabcc rfl rfl (lw_m1 (List.mem_of_getElem? (i := 41) rfl)) (lw_m0 (List.mem_of_getElem? (i := 21) rfl)) nmh_RJ8 pmd_27 hx (Nat.le_of_ble_eq_true rfl)
theorem cal_Jx35411_next_0502b {x : ev_I} (hx : (ev_ms 86).2.2.2.2.2 + 1 ≤ x.2.2.2.2.2) : ev_cal ev_ms x 86 0 := ev_cal_mk x_Jx35411_next_0502b rfl rfl (lw_m5 (List.mem_of_getElem? (i := 227) rfl)) (lw_m0 (List.mem_of_getElem? (i := 25) rfl)) nmh_RJx35411 pmd_34 hx (Nat.le_of_ble_eq_true rfl)
theorem cal_Jx4a65c_iterator_32c93 {x : ev_I} (hx : (ev_ms 87).2.2.2.2.2 + 1 ≤ x.2.2.2.2.2) : ev_cal ev_ms x 87 0 := ev_cal_mk x_Jx4a65c_iterator_32c93 rfl rfl (lw_m5 (List.mem_of_getElem? (i := 189) rfl)) (lw_m0 (List.mem_of_getElem? (i := 11) rfl)) nmh_RJx4a65c pmd_35 hx (Nat.le_of_ble_eq_true rfl)
theorem cal_Jxc12de_init_da8c8 {x : ev_I} (hx : (ev_ms 88).2.2.2.2.2 + 1 ≤ x.2.2.2.2.2) : ev_cal ev_ms x 88 0 := ev_cal_mk x_Jxc12de_init_da8c8 rfl rfl (lw_m4 (List.mem_of_getElem? (i := 191) rfl)) (lw_m0 (List.mem_of_getElem? (i := 10) rfl)) nmh_RJxc12de pmd_13 hx (Nat.le_of_ble_eq_true rfl)
theorem cal_X0_add {x : ev_I} (hx : (ev_ms 89).2.2.2.2.2 + 1 ≤ x.2.2.2.2.2) : ev_cal ev_ms x 89 2 := ev_cal_mk x_X0_add rfl rfl (lw_m4 (List.mem_of_getElem? (i := 100) rfl)) (lw_m0 (List.mem_of_getElem? (i := 2) rfl)) nmh_RX0 pmd_11 hx (Nat.le_of_ble_eq_true rfl)
theorem cal_X0_fewestMisses {x : ev_I} (hx : (ev_ms 90).2.2.2.2.2 + 1 ≤ x.2.2.2.2.2) : ev_cal ev_ms x 90 1 := ev_cal_mk x_X0_fewestMisses rfl rfl (lw_m2 (List.mem_of_getElem? (i := 101) rfl)) (lw_m0 (List.mem_of_getElem? (i := 2) rfl)) nmh_RX0 pmd_4 hx (Nat.le_of_ble_eq_true rfl)
theorem cal_X1_init {x : ev_I} (hx : (ev_ms 91).2.2.2.2.2 + 1 ≤ x.2.2.2.2.2) : ev_cal ev_ms x 91 1 := ev_cal_mk x_X1_init rfl rfl (lw_m0 (List.mem_of_getElem? (i := 152) rfl)) (lw_m0 (List.mem_of_getElem? (i := 6) rfl)) nmh_RX1 pmd_18 hx (Nat.le_of_ble_eq_true rfl)
theorem cal_X2_changeValue {x : ev_I} (hx : (ev_ms 92).2.2.2.2.2 + 1 ≤ x.2.2.2.2.2) : ev_cal ev_ms x 92 2 := ev_cal_mk x_X2_changeValue rfl rfl (lw_m3 (List.mem_of_getElem? (i := 96) rfl)) (lw_m0 (List.mem_of_getElem? (i := 3) rfl)) nmh_RX2 pmd_12 hx (Nat.le_of_ble_eq_true rfl)
theorem cal_X2_dropAt {x : ev_I} (hx : (ev_ms 93).2.2.2.2.2 + 1 ≤ x.2.2.2.2.2) : ev_cal ev_ms x 93 1 := ev_cal_mk x_X2_dropAt rfl rfl (lw_m3 (List.mem_of_getElem? (i := 92) rfl)) (lw_m0 (List.mem_of_getElem? (i := 3) rfl)) nmh_RX2 pmd_18 hx (Nat.le_of_ble_eq_true rfl)
theorem cal_X2_isLastOf {x : ev_I} (hx : (ev_ms 94).2.2.2.2.2 + 1 ≤ x.2.2.2.2.2) : ev_cal ev_ms x 94 1 := ev_cal_mk x_X2_isLastOf rfl rfl (lw_m2 (List.mem_of_getElem? (i := 127) rfl)) (lw_m0 (List.mem_of_getElem? (i := 3) rfl)) nmh_RX2 pmd_36 hx (Nat.le_of_ble_eq_true rfl)
theorem cal_X2_renew {x : ev_I} (hx : (ev_ms 95).2.2.2.2.2 + 1 ≤ x.2.2.2.2.2) : ev_cal ev_ms x 95 2 := ev_cal_mk x_X2_renew rfl rfl (lw_m0 (List.mem_of_getElem? (i := 198) rfl)) (lw_m0 (List.mem_of_getElem? (i := 3) rfl)) nmh_RX2 pmd_37 hx (Nat.le_of_ble_eq_true rfl)
theorem cal_X2_told {x : ev_I} (hx : (ev_ms 96).2.2.2.2.2 + 1 ≤ x.2.2.2.2.2) : ev_cal ev_ms x 96 2 := ev_cal_mk x_X2_told rfl rfl (lw_m2 (List.mem_of_getElem? (i := 212) rfl)) (lw_m0 (List.mem_of_getElem? (i := 3) rfl)) nmh_RX2 pmd_12 hx (Nat.le_of_ble_eq_true rfl)
theorem cal_X3_init {x : ev_I} (hx : (ev_ms 97).2.2.2.2.2 + 1 ≤ x.2.2.2.2.2) : ev_cal ev_ms x 97 1 := ev_cal_mk x_X3_init rfl rfl (lw_m0 (List.mem_of_getElem? (i := 113) rfl)) (lw_m0 (List.mem_of_getElem? (i := 4) rfl)) nmh_RX3 pmd_20 hx (Nat.le_of_ble_eq_true rfl)
theorem cal_X4_canCut {x : ev_I} (hx : (ev_ms 98).2.2.2.2.2 + 1 ≤ x.2.2.2.2.2) : ev_cal ev_ms x 98 0 := ev_cal_mk x_X4_canCut rfl rfl (lw_m4 (List.mem_of_getElem? (i := 51) rfl)) (lw_m0 (List.mem_of_getElem? (i := 5) rfl)) nmh_RX4 pmd_8 hx (Nat.le_of_ble_eq_true rfl)
theorem cal_X4_isAnyAhead {x : ev_I} (hx : (ev_ms 99).2.2.2.2.2 + 1 ≤ x.2.2.2.2.2) : ev_cal ev_ms x 99 0 := ev_cal_mk x_X4_isAnyAhead rfl rfl (lw_m2 (List.mem_of_getElem? (i := 224) rfl)) (lw_m0 (List.mem_of_getElem? (i := 5) rfl)) nmh_RX4 pmd_8 hx (Nat.le_of_ble_eq_true rfl)
theorem cal_X5_areMissesByDepth {x : ev_I} (hx : (ev_ms 100).2.2.2.2.2 + 1 ≤ x.2.2.2.2.2) : ev_cal ev_ms x 100 0 := ev_cal_mk x_X5_areMissesByDepth rfl rfl (lw_m2 (List.mem_of_getElem? (i := 132) rfl)) (lw_m0 (List.mem_of_getElem? (i := 1) rfl)) nmh_RX5 pmd_8 hx (Nat.le_of_ble_eq_true rfl)
theorem cal_X5_askedAt {x : ev_I} (hx : (ev_ms 101).2.2.2.2.2 + 1 ≤ x.2.2.2.2.2) : ev_cal ev_ms x 101 1 := ev_cal_mk x_X5_askedAt rfl rfl (lw_m0 (List.mem_of_getElem? (i := 215) rfl)) (lw_m0 (List.mem_of_getElem? (i := 1) rfl)) nmh_RX5 pmd_4 hx (Nat.le_of_ble_eq_true rfl)
theorem cal_X5_clear {x : ev_I} (hx : (ev_ms 102).2.2.2.2.2 + 1 ≤ x.2.2.2.2.2) : ev_cal ev_ms x 102 1 := ev_cal_mk x_X5_clear rfl rfl (lw_m3 (List.mem_of_getElem? (i := 165) rfl)) (lw_m0 (List.mem_of_getElem? (i := 1) rfl)) nmh_RX5 pmd_4 hx (Nat.le_of_ble_eq_true rfl)
theorem cal_X5_depthAt {x : ev_I} (hx : (ev_ms 103).2.2.2.2.2 + 1 ≤ x.2.2.2.2.2) : ev_cal ev_ms x 103 1 := ev_cal_mk x_X5_depthAt rfl rfl (lw_m0 (List.mem_of_getElem? (i := 223) rfl)) (lw_m0 (List.mem_of_getElem? (i := 1) rfl)) nmh_RX5 pmd_4 hx (Nat.le_of_ble_eq_true rfl)
theorem cal_X5_depthNow {x : ev_I} (hx : (ev_ms 104).2.2.2.2.2 + 1 ≤ x.2.2.2.2.2) : ev_cal ev_ms x 104 1 := ev_cal_mk x_X5_depthNow rfl rfl (lw_m4 (List.mem_of_getElem? (i := 96) rfl)) (lw_m0 (List.mem_of_getElem? (i := 1) rfl)) nmh_RX5 pmd_4 hx (Nat.le_of_ble_eq_true rfl)
theorem cal_X5_has {x : ev_I} (hx : (ev_ms 105).2.2.2.2.2 + 1 ≤ x.2.2.2.2.2) : ev_cal ev_ms x 105 2 := ev_cal_mk x_X5_has rfl rfl (lw_m3 (List.mem_of_getElem? (i := 198) rfl)) (lw_m0 (List.mem_of_getElem? (i := 1) rfl)) nmh_RX5 pmd_24 hx (Nat.le_of_ble_eq_true rfl)
theorem cal_X5_house {x : ev_I} (hx : (ev_ms 106).2.2.2.2.2 + 1 ≤ x.2.2.2.2.2) : ev_cal ev_ms x 106 1 := ev_cal_mk x_X5_house rfl rfl (lw_m2 (List.mem_of_getElem? (i := 157) rfl)) (lw_m0 (List.mem_of_getElem? (i := 1) rfl)) nmh_RX5 pmd_4 hx (Nat.le_of_ble_eq_true rfl)
theorem cal_X5_isNoTableAboveMost {x : ev_I} (hx : (ev_ms 107).2.2.2.2.2 + 1 ≤ x.2.2.2.2.2) : ev_cal ev_ms x 107 0 := ev_cal_mk x_X5_isNoTableAboveMost rfl rfl (lw_m2 (List.mem_of_getElem? (i := 115) rfl)) (lw_m0 (List.mem_of_getElem? (i := 1) rfl)) nmh_RX5 pmd_8 hx (Nat.le_of_ble_eq_true rfl)
theorem cal_X5_isStale {x : ev_I} (hx : (ev_ms 108).2.2.2.2.2 + 1 ≤ x.2.2.2.2.2) : ev_cal ev_ms x 108 1 := ev_cal_mk x_X5_isStale rfl rfl (lw_m2 (List.mem_of_getElem? (i := 233) rfl)) (lw_m0 (List.mem_of_getElem? (i := 1) rfl)) nmh_RX5 pmd_17 hx (Nat.le_of_ble_eq_true rfl)
theorem cal_X5_keeperOf {x : ev_I} (hx : (ev_ms 109).2.2.2.2.2 + 1 ≤ x.2.2.2.2.2) : ev_cal ev_ms x 109 1 := ev_cal_mk x_X5_keeperOf rfl rfl (lw_m3 (List.mem_of_getElem? (i := 11) rfl)) (lw_m0 (List.mem_of_getElem? (i := 1) rfl)) nmh_RX5 pmd_38 hx (Nat.le_of_ble_eq_true rfl)
theorem cal_X5_ofTable {x : ev_I} (hx : (ev_ms 110).2.2.2.2.2 + 1 ≤ x.2.2.2.2.2) : ev_cal ev_ms x 110 2 := ev_cal_mk x_X5_ofTable rfl rfl (lw_m2 (List.mem_of_getElem? (i := 176) rfl)) (lw_m0 (List.mem_of_getElem? (i := 1) rfl)) nmh_RX5 pmd_12 hx (Nat.le_of_ble_eq_true rfl)
theorem cal_X5_placeOf {x : ev_I} (hx : (ev_ms 111).2.2.2.2.2 + 1 ≤ x.2.2.2.2.2) : ev_cal ev_ms x 111 2 := ev_cal_mk x_X5_placeOf rfl rfl (lw_m3 (List.mem_of_getElem? (i := 227) rfl)) (lw_m0 (List.mem_of_getElem? (i := 1) rfl)) nmh_RX5 pmd_12 hx (Nat.le_of_ble_eq_true rfl)
theorem cal_X5_size {x : ev_I} (hx : (ev_ms 112).2.2.2.2.2 + 1 ≤ x.2.2.2.2.2) : ev_cal ev_ms x 112 1 := ev_cal_mk x_X5_size rfl rfl (lw_m2 (List.mem_of_getElem? (i := 204) rfl)) (lw_m0 (List.mem_of_getElem? (i := 1) rfl)) nmh_RX5 pmd_4 hx (Nat.le_of_ble_eq_true rfl)
theorem cal_X5_walk {x : ev_I} (hx : (ev_ms 113).2.2.2.2.2 + 1 ≤ x.2.2.2.2.2) : ev_cal ev_ms x 113 2 := ev_cal_mk x_X5_walk rfl rfl (lw_m4 (List.mem_of_getElem? (i := 23) rfl)) (lw_m0 (List.mem_of_getElem? (i := 1) rfl)) nmh_RX5 pmd_12 hx (Nat.le_of_ble_eq_true rfl)
theorem cal_X5_withDepth {x : ev_I} (hx : (ev_ms 114).2.2.2.2.2 + 1 ≤ x.2.2.2.2.2) : ev_cal ev_ms x 114 1 := ev_cal_mk x_X5_withDepth rfl rfl (lw_m2 (List.mem_of_getElem? (i := 85) rfl)) (lw_m0 (List.mem_of_getElem? (i := 1) rfl)) nmh_RX5 pmd_4 hx (Nat.le_of_ble_eq_true rfl)
theorem cal_X7_hasMore {x : ev_I} (hx : (ev_ms 115).2.2.2.2.2 + 1 ≤ x.2.2.2.2.2) : ev_cal ev_ms x 115 0 := ev_cal_mk x_X7_hasMore rfl rfl (lw_m6 (List.mem_of_getElem? (i := 65) rfl)) (lw_m0 (List.mem_of_getElem? (i := 8) rfl)) nmh_RX7 pmd_8 hx (Nat.le_of_ble_eq_true rfl)
theorem cal_X8_asked {x : ev_I} (hx : (ev_ms 116).2.2.2.2.2 + 1 ≤ x.2.2.2.2.2) : ev_cal ev_ms x 116 0 := ev_cal_mk x_X8_asked rfl rfl (lw_m6 (List.mem_of_getElem? (i := 151) rfl)) (lw_m0 (List.mem_of_getElem? (i := 7) rfl)) nmh_RX8 pmd_9 hx (Nat.le_of_ble_eq_true rfl)
theorem cal_X8_forget {x : ev_I} (hx : (ev_ms 117).2.2.2.2.2 + 1 ≤ x.2.2.2.2.2) : ev_cal ev_ms x 117 0 := ev_cal_mk x_X8_forget rfl rfl (lw_m6 (List.mem_of_getElem? (i := 147) rfl)) (lw_m0 (List.mem_of_getElem? (i := 7) rfl)) nmh_RX8 pmd_9 hx (Nat.le_of_ble_eq_true rfl)
theorem cal_X8_isNo {x : ev_I} (hx : (ev_ms 118).2.2.2.2.2 + 1 ≤ x.2.2.2.2.2) : ev_cal ev_ms x 118 1 := ev_cal_mk x_X8_isNo rfl rfl (lw_m5 (List.mem_of_getElem? (i := 38) rfl)) (lw_m0 (List.mem_of_getElem? (i := 7) rfl)) nmh_RX8 pmd_17 hx (Nat.le_of_ble_eq_true rfl)
theorem cal_X8_isNoSize {x : ev_I} (hx : (ev_ms 119).2.2.2.2.2 + 1 ≤ x.2.2.2.2.2) : ev_cal ev_ms x 119 1 := ev_cal_mk x_X8_isNoSize rfl rfl (lw_m6 (List.mem_of_getElem? (i := 184) rfl)) (lw_m0 (List.mem_of_getElem? (i := 7) rfl)) nmh_RX8 pmd_17 hx (Nat.le_of_ble_eq_true rfl)
theorem cal_J2_checkBoundsBeginEnd_d044e {x : ev_I} (hx : (ev_ms 120).2.2.2.2.2 + 1 ≤ x.2.2.2.2.2) : ev_cal ev_ms x 120 3 := ev_cal_mk x_J2_checkBoundsBeginEnd_d044e rfl rfl (lw_m1 (List.mem_of_getElem? (i := 141) rfl)) (lw_m0 (List.mem_of_getElem? (i := 29) rfl)) nmh_RJ2 pmd_39 hx (Nat.le_of_ble_eq_true rfl)
theorem cal_J2_checkBoundsOffCount_d044e {x : ev_I} (hx : (ev_ms 121).2.2.2.2.2 + 1 ≤ x.2.2.2.2.2) : ev_cal ev_ms x 121 3 := ev_cal_mk x_J2_checkBoundsOffCount_d044e rfl rfl (lw_m1 (List.mem_of_getElem? (i := 86) rfl)) (lw_m0 (List.mem_of_getElem? (i := 29) rfl)) nmh_RJ2 pmd_39 hx (Nat.le_of_ble_eq_true rfl)
theorem cal_J2_checkIndex_2214a {x : ev_I} (hx : (ev_ms 122).2.2.2.2.2 + 1 ≤ x.2.2.2.2.2) : ev_cal ev_ms x 122 2 := ev_cal_mk x_J2_checkIndex_2214a rfl rfl (lw_m1 (List.mem_of_getElem? (i := 112) rfl)) (lw_m0 (List.mem_of_getElem? (i := 29) rfl)) nmh_RJ2 pmd_40 hx (Nat.le_of_ble_eq_true rfl)
theorem cal_J2_getChars_ba4f3 {x : ev_I} (hx : (ev_ms 123).2.2.2.2.2 + 1 ≤ x.2.2.2.2.2) : ev_cal ev_ms x 123 3 := ev_cal_mk x_J2_getChars_ba4f3 rfl rfl (lw_m1 (List.mem_of_getElem? (i := 150) rfl)) (lw_m0 (List.mem_of_getElem? (i := 29) rfl)) nmh_RJ2 pmd_10 hx (Nat.le_of_ble_eq_true rfl)
theorem cal_J5_init_d00df {x : ev_I} (hx : (ev_ms 124).2.2.2.2.2 + 1 ≤ x.2.2.2.2.2) : ev_cal ev_ms x 124 1 := ev_cal_mk x_J5_init_d00df rfl rfl (lw_m0 (List.mem_of_getElem? (i := 239) rfl)) (lw_m0 (List.mem_of_getElem? (i := 26) rfl)) nmh_RJ5 pmd_18 hx (Nat.le_of_ble_eq_true rfl)
theorem cal_J5_newCapacity_0f7a4 {x : ev_I} (hx : (ev_ms 125).2.2.2.2.2 + 1 ≤ x.2.2.2.2.2) : ev_cal ev_ms x 125 1 := ev_cal_mk x_J5_newCapacity_0f7a4 rfl rfl (lw_m1 (List.mem_of_getElem? (i := 38) rfl)) (lw_m0 (List.mem_of_getElem? (i := 26) rfl)) nmh_RJ5 pmd_4 hx (Nat.le_of_ble_eq_true rfl)
theorem cal_J6_valueOf_2dffe {x : ev_I} (hx : (ev_ms 126).2.2.2.2.2 + 1 ≤ x.2.2.2.2.2) : ev_cal ev_ms x 126 1 := ev_cal_mk x_J6_valueOf_2dffe rfl rfl (lw_m6 (List.mem_of_getElem? (i := 118) rfl)) (lw_m0 (List.mem_of_getElem? (i := 32) rfl)) nmh_RJ6 pmd_41 hx (Nat.le_of_ble_eq_true rfl)
theorem cal_J7_copyOfRange_39247 {x : ev_I} (hx : (ev_ms 127).2.2.2.2.2 + 1 ≤ x.2.2.2.2.2) : ev_cal ev_ms x 127 3 := ev_cal_mk x_J7_copyOfRange_39247 rfl rfl (lw_m1 (List.mem_of_getElem? (i := 182) rfl)) (lw_m0 (List.mem_of_getElem? (i := 23) rfl)) nmh_RJ7 pmd_31 hx (Nat.le_of_ble_eq_true rfl)
theorem cal_J7_copyOf_1904c {x : ev_I} (hx : (ev_ms 128).2.2.2.2.2 + 1 ≤ x.2.2.2.2.2) : ev_cal ev_ms x 128 2 := ev_cal_mk x_J7_copyOf_1904c rfl rfl (lw_m5 (List.mem_of_getElem? (i := 114) rfl)) (lw_m0 (List.mem_of_getElem? (i := 23) rfl)) nmh_RJ7 pmd_42 hx (Nat.le_of_ble_eq_true rfl)
theorem cal_Jx4a65c_get_915e3 {x : ev_I} (hx : (ev_ms 129).2.2.2.2.2 + 1 ≤ x.2.2.2.2.2) : ev_cal ev_ms x 129 1 := ev_cal_mk x_Jx4a65c_get_915e3 rfl rfl (lw_m5 (List.mem_of_getElem? (i := 70) rfl)) (lw_m0 (List.mem_of_getElem? (i := 11) rfl)) nmh_RJx4a65c pmd_15 hx (Nat.le_of_ble_eq_true rfl)
theorem cal_Jx4a65c_init_da8c8 {x : ev_I} (hx : (ev_ms 130).2.2.2.2.2 + 1 ≤ x.2.2.2.2.2) : ev_cal ev_ms x 130 0 := ev_cal_mk x_Jx4a65c_init_da8c8 rfl rfl (lw_m4 (List.mem_of_getElem? (i := 188) rfl)) (lw_m0 (List.mem_of_getElem? (i := 11) rfl)) nmh_RJx4a65c pmd_13 hx (Nat.le_of_ble_eq_true rfl)
theorem cal_Jx4a65c_remove_915e3 {x : ev_I} (hx : (ev_ms 131).2.2.2.2.2 + 1 ≤ x.2.2.2.2.2) : ev_cal ev_ms x 131 1 := ev_cal_mk x_Jx4a65c_remove_915e3 rfl rfl (lw_m5 (List.mem_of_getElem? (i := 89) rfl)) (lw_m0 (List.mem_of_getElem? (i := 11) rfl)) nmh_RJx4a65c pmd_15 hx (Nat.le_of_ble_eq_true rfl)
theorem cal_L_clear {x : ev_I} (hx : (ev_ms 132).2.2.2.2.2 + 1 ≤ x.2.2.2.2.2) : ev_calW ev_ms x 132 3 := ev_calW_mk x_L_clear rfl (fun e => by cases e) (lw_m3 (List.mem_of_getElem? (i := 161) rfl)) (lw_m0 (List.mem_of_getElem? (i := 0) rfl)) nmh_RL pmd_43 hx (Nat.le_of_ble_eq_true rfl)
theorem cal_L_has {x : ev_I} (hx : (ev_ms 133).2.2.2.2.2 + 1 ≤ x.2.2.2.2.2) : ev_calW ev_ms x 133 4 := ev_calW_mk x_L_has rfl (fun e => by cases e) (lw_m3 (List.mem_of_getElem? (i := 194) rfl)) (lw_m0 (List.mem_of_getElem? (i := 0) rfl)) nmh_RL pmd_44 hx (Nat.le_of_ble_eq_true rfl)
theorem cal_L_house {x : ev_I} (hx : (ev_ms 134).2.2.2.2.2 + 1 ≤ x.2.2.2.2.2) : ev_calW ev_ms x 134 3 := ev_calW_mk x_L_house rfl (fun e => by cases e) (lw_m4 (List.mem_of_getElem? (i := 169) rfl)) (lw_m0 (List.mem_of_getElem? (i := 0) rfl)) nmh_RL pmd_43 hx (Nat.le_of_ble_eq_true rfl)
theorem cal_L_isStale {x : ev_I} (hx : (ev_ms 135).2.2.2.2.2 + 1 ≤ x.2.2.2.2.2) : ev_calW ev_ms x 135 3 := ev_calW_mk x_L_isStale rfl (fun e => by cases e) (lw_m4 (List.mem_of_getElem? (i := 63) rfl)) (lw_m0 (List.mem_of_getElem? (i := 0) rfl)) nmh_RL pmd_43 hx (Nat.le_of_ble_eq_true rfl)
theorem cal_L_ofTable {x : ev_I} (hx : (ev_ms 136).2.2.2.2.2 + 1 ≤ x.2.2.2.2.2) : ev_calW ev_ms x 136 4 := ev_calW_mk x_L_ofTable rfl (fun e => by cases e) (lw_m4 (List.mem_of_getElem? (i := 15) rfl)) (lw_m0 (List.mem_of_getElem? (i := 0) rfl)) nmh_RL pmd_44 hx (Nat.le_of_ble_eq_true rfl)
theorem cal_L_placeOf {x : ev_I} (hx : (ev_ms 137).2.2.2.2.2 + 1 ≤ x.2.2.2.2.2) : ev_calW ev_ms x 137 4 := ev_calW_mk x_L_placeOf rfl (fun e => by cases e) (lw_m3 (List.mem_of_getElem? (i := 223) rfl)) (lw_m0 (List.mem_of_getElem? (i := 0) rfl)) nmh_RL pmd_44 hx (Nat.le_of_ble_eq_true rfl)
theorem cal_L_size {x : ev_I} (hx : (ev_ms 138).2.2.2.2.2 + 1 ≤ x.2.2.2.2.2) : ev_calW ev_ms x 138 3 := ev_calW_mk x_L_size rfl (fun e => by cases e) (lw_m3 (List.mem_of_getElem? (i := 201) rfl)) (lw_m0 (List.mem_of_getElem? (i := 0) rfl)) nmh_RL pmd_43 hx (Nat.le_of_ble_eq_true rfl)
theorem cal_L_walk {x : ev_I} (hx : (ev_ms 139).2.2.2.2.2 + 1 ≤ x.2.2.2.2.2) : ev_calW ev_ms x 139 4 := ev_calW_mk x_L_walk rfl (fun e => by cases e) (lw_m4 (List.mem_of_getElem? (i := 19) rfl)) (lw_m0 (List.mem_of_getElem? (i := 0) rfl)) nmh_RL pmd_44 hx (Nat.le_of_ble_eq_true rfl)
theorem cal_X1_startAnew {x : ev_I} (hx : (ev_ms 140).2.2.2.2.2 + 1 ≤ x.2.2.2.2.2) : ev_cal ev_ms x 140 0 := ev_cal_mk x_X1_startAnew rfl rfl (lw_m0 (List.mem_of_getElem? (i := 206) rfl)) (lw_m0 (List.mem_of_getElem? (i := 6) rfl)) nmh_RX1 pmd_13 hx (Nat.le_of_ble_eq_true rfl)
theorem cal_X2_become {x : ev_I} (hx : (ev_ms 141).2.2.2.2.2 + 1 ≤ x.2.2.2.2.2) : ev_cal ev_ms x 141 1 := ev_cal_mk x_X2_become rfl rfl (lw_m3 (List.mem_of_getElem? (i := 190) rfl)) (lw_m0 (List.mem_of_getElem? (i := 3) rfl)) nmh_RX2 pmd_20 hx (Nat.le_of_ble_eq_true rfl)
theorem cal_X2_dropKey {x : ev_I} (hx : (ev_ms 142).2.2.2.2.2 + 1 ≤ x.2.2.2.2.2) : ev_cal ev_ms x 142 1 := ev_cal_mk x_X2_dropKey rfl rfl (lw_m3 (List.mem_of_getElem? (i := 158) rfl)) (lw_m0 (List.mem_of_getElem? (i := 3) rfl)) nmh_RX2 pmd_4 hx (Nat.le_of_ble_eq_true rfl)
theorem cal_X2_noteAsking {x : ev_I} (hx : (ev_ms 143).2.2.2.2.2 + 1 ≤ x.2.2.2.2.2) : ev_cal ev_ms x 143 1 := ev_cal_mk x_X2_noteAsking rfl rfl (lw_m3 (List.mem_of_getElem? (i := 100) rfl)) (lw_m0 (List.mem_of_getElem? (i := 3) rfl)) nmh_RX2 pmd_18 hx (Nat.le_of_ble_eq_true rfl)
theorem cal_X2_takeIn {x : ev_I} (hx : (ev_ms 144).2.2.2.2.2 + 1 ≤ x.2.2.2.2.2) : ev_cal ev_ms x 144 2 := ev_cal_mk x_X2_takeIn rfl rfl (lw_m3 (List.mem_of_getElem? (i := 83) rfl)) (lw_m0 (List.mem_of_getElem? (i := 3) rfl)) nmh_RX2 pmd_11 hx (Nat.le_of_ble_eq_true rfl)
theorem cal_X4_advance {x : ev_I} (hx : (ev_ms 145).2.2.2.2.2 + 1 ≤ x.2.2.2.2.2) : ev_cal ev_ms x 145 0 := ev_cal_mk x_X4_advance rfl rfl (lw_m4 (List.mem_of_getElem? (i := 39) rfl)) (lw_m0 (List.mem_of_getElem? (i := 5) rfl)) nmh_RX4 pmd_9 hx (Nat.le_of_ble_eq_true rfl)
theorem cal_X4_cutLast {x : ev_I} (hx : (ev_ms 146).2.2.2.2.2 + 1 ≤ x.2.2.2.2.2) : ev_cal ev_ms x 146 0 := ev_cal_mk x_X4_cutLast rfl rfl (lw_m4 (List.mem_of_getElem? (i := 55) rfl)) (lw_m0 (List.mem_of_getElem? (i := 5) rfl)) nmh_RX4 pmd_13 hx (Nat.le_of_ble_eq_true rfl)
theorem cal_X5_areKeepersLastOfStack {x : ev_I} (hx : (ev_ms 147).2.2.2.2.2 + 1 ≤ x.2.2.2.2.2) : ev_cal ev_ms x 147 0 := ev_cal_mk x_X5_areKeepersLastOfStack rfl rfl (lw_m2 (List.mem_of_getElem? (i := 123) rfl)) (lw_m0 (List.mem_of_getElem? (i := 1) rfl)) nmh_RX5 pmd_8 hx (Nat.le_of_ble_eq_true rfl)
theorem cal_X5_best {x : ev_I} (hx : (ev_ms 148).2.2.2.2.2 + 1 ≤ x.2.2.2.2.2) : ev_cal ev_ms x 148 1 := ev_cal_mk x_X5_best rfl rfl (lw_m3 (List.mem_of_getElem? (i := 19) rfl)) (lw_m0 (List.mem_of_getElem? (i := 1) rfl)) nmh_RX5 pmd_4 hx (Nat.le_of_ble_eq_true rfl)
theorem cal_X5_depth {x : ev_I} (hx : (ev_ms 149).2.2.2.2.2 + 1 ≤ x.2.2.2.2.2) : ev_cal ev_ms x 149 1 := ev_cal_mk x_X5_depth rfl rfl (lw_m4 (List.mem_of_getElem? (i := 129) rfl)) (lw_m0 (List.mem_of_getElem? (i := 1) rfl)) nmh_RX5 pmd_4 hx (Nat.le_of_ble_eq_true rfl)
theorem cal_X5_eldest {x : ev_I} (hx : (ev_ms 150).2.2.2.2.2 + 1 ≤ x.2.2.2.2.2) : ev_cal ev_ms x 150 1 := ev_cal_mk x_X5_eldest rfl rfl (lw_m3 (List.mem_of_getElem? (i := 234) rfl)) (lw_m0 (List.mem_of_getElem? (i := 1) rfl)) nmh_RX5 pmd_4 hx (Nat.le_of_ble_eq_true rfl)
theorem cal_X5_hasMore {x : ev_I} (hx : (ev_ms 151).2.2.2.2.2 + 1 ≤ x.2.2.2.2.2) : ev_cal ev_ms x 151 1 := ev_cal_mk x_X5_hasMore rfl rfl (lw_m2 (List.mem_of_getElem? (i := 220) rfl)) (lw_m0 (List.mem_of_getElem? (i := 1) rfl)) nmh_RX5 pmd_17 hx (Nat.le_of_ble_eq_true rfl)
theorem cal_X5_hits {x : ev_I} (hx : (ev_ms 152).2.2.2.2.2 + 1 ≤ x.2.2.2.2.2) : ev_cal ev_ms x 152 1 := ev_cal_mk x_X5_hits rfl rfl (lw_m4 (List.mem_of_getElem? (i := 158) rfl)) (lw_m0 (List.mem_of_getElem? (i := 1) rfl)) nmh_RX5 pmd_4 hx (Nat.le_of_ble_eq_true rfl)
theorem cal_X5_init {x : ev_I} (hx : (ev_ms 153).2.2.2.2.2 + 1 ≤ x.2.2.2.2.2) : ev_cal ev_ms x 153 0 := ev_cal_mk x_X5_init rfl rfl (lw_m0 (List.mem_of_getElem? (i := 38) rfl)) (lw_m0 (List.mem_of_getElem? (i := 1) rfl)) nmh_RX5 pmd_13 hx (Nat.le_of_ble_eq_true rfl)
theorem cal_X5_keeps {x : ev_I} (hx : (ev_ms 154).2.2.2.2.2 + 1 ≤ x.2.2.2.2.2) : ev_cal ev_ms x 154 2 := ev_cal_mk x_X5_keeps rfl rfl (lw_m4 (List.mem_of_getElem? (i := 143) rfl)) (lw_m0 (List.mem_of_getElem? (i := 1) rfl)) nmh_RX5 pmd_24 hx (Nat.le_of_ble_eq_true rfl)
theorem cal_X5_keyAt {x : ev_I} (hx : (ev_ms 155).2.2.2.2.2 + 1 ≤ x.2.2.2.2.2) : ev_cal ev_ms x 155 2 := ev_cal_mk x_X5_keyAt rfl rfl (lw_m3 (List.mem_of_getElem? (i := 209) rfl)) (lw_m0 (List.mem_of_getElem? (i := 1) rfl)) nmh_RX5 pmd_12 hx (Nat.le_of_ble_eq_true rfl)
theorem cal_X5_latest {x : ev_I} (hx : (ev_ms 156).2.2.2.2.2 + 1 ≤ x.2.2.2.2.2) : ev_cal ev_ms x 156 1 := ev_cal_mk x_X5_latest rfl rfl (lw_m4 (List.mem_of_getElem? (i := 1) rfl)) (lw_m0 (List.mem_of_getElem? (i := 1) rfl)) nmh_RX5 pmd_4 hx (Nat.le_of_ble_eq_true rfl)
theorem cal_X5_lost {x : ev_I} (hx : (ev_ms 157).2.2.2.2.2 + 1 ≤ x.2.2.2.2.2) : ev_cal ev_ms x 157 1 := ev_cal_mk x_X5_lost rfl rfl (lw_m3 (List.mem_of_getElem? (i := 23) rfl)) (lw_m0 (List.mem_of_getElem? (i := 1) rfl)) nmh_RX5 pmd_4 hx (Nat.le_of_ble_eq_true rfl)
theorem cal_X5_make {x : ev_I} (hx : (ev_ms 158).2.2.2.2.2 + 1 ≤ x.2.2.2.2.2) : ev_cal ev_ms x 158 3 := ev_cal_mk x_X5_make rfl rfl (lw_m3 (List.mem_of_getElem? (i := 58) rfl)) (lw_m0 (List.mem_of_getElem? (i := 1) rfl)) nmh_RX5 pmd_45 hx (Nat.le_of_ble_eq_true rfl)
theorem cal_X5_misses {x : ev_I} (hx : (ev_ms 159).2.2.2.2.2 + 1 ≤ x.2.2.2.2.2) : ev_cal ev_ms x 159 1 := ev_cal_mk x_X5_misses rfl rfl (lw_m3 (List.mem_of_getElem? (i := 7) rfl)) (lw_m0 (List.mem_of_getElem? (i := 1) rfl)) nmh_RX5 pmd_4 hx (Nat.le_of_ble_eq_true rfl)
theorem cal_X5_pairAt {x : ev_I} (hx : (ev_ms 160).2.2.2.2.2 + 1 ≤ x.2.2.2.2.2) : ev_cal ev_ms x 160 2 := ev_cal_mk x_X5_pairAt rfl rfl (lw_m2 (List.mem_of_getElem? (i := 208) rfl)) (lw_m0 (List.mem_of_getElem? (i := 1) rfl)) nmh_RX5 pmd_12 hx (Nat.le_of_ble_eq_true rfl)
theorem cal_X5_set {x : ev_I} (hx : (ev_ms 161).2.2.2.2.2 + 1 ≤ x.2.2.2.2.2) : ev_cal ev_ms x 161 3 := ev_cal_mk x_X5_set rfl rfl (lw_m3 (List.mem_of_getElem? (i := 173) rfl)) (lw_m0 (List.mem_of_getElem? (i := 1) rfl)) nmh_RX5 pmd_27 hx (Nat.le_of_ble_eq_true rfl)
theorem cal_X5_takenAt {x : ev_I} (hx : (ev_ms 162).2.2.2.2.2 + 1 ≤ x.2.2.2.2.2) : ev_cal ev_ms x 162 2 := ev_cal_mk x_X5_takenAt rfl rfl (lw_m3 (List.mem_of_getElem? (i := 27) rfl)) (lw_m0 (List.mem_of_getElem? (i := 1) rfl)) nmh_RX5 pmd_12 hx (Nat.le_of_ble_eq_true rfl)
theorem cal_X5_valueAt {x : ev_I} (hx : (ev_ms 163).2.2.2.2.2 + 1 ≤ x.2.2.2.2.2) : ev_cal ev_ms x 163 2 := ev_cal_mk x_X5_valueAt rfl rfl (lw_m3 (List.mem_of_getElem? (i := 216) rfl)) (lw_m0 (List.mem_of_getElem? (i := 1) rfl)) nmh_RX5 pmd_12 hx (Nat.le_of_ble_eq_true rfl)
theorem cal_X8_clear {x : ev_I} (hx : (ev_ms 164).2.2.2.2.2 + 1 ≤ x.2.2.2.2.2) : ev_cal ev_ms x 164 1 := ev_cal_mk x_X8_clear rfl rfl (lw_m5 (List.mem_of_getElem? (i := 173) rfl)) (lw_m0 (List.mem_of_getElem? (i := 7) rfl)) nmh_RX8 pmd_4 hx (Nat.le_of_ble_eq_true rfl)
theorem cal_X8_hasMore {x : ev_I} (hx : (ev_ms 165).2.2.2.2.2 + 1 ≤ x.2.2.2.2.2) : ev_cal ev_ms x 165 1 := ev_cal_mk x_X8_hasMore rfl rfl (lw_m6 (List.mem_of_getElem? (i := 78) rfl)) (lw_m0 (List.mem_of_getElem? (i := 7) rfl)) nmh_RX8 pmd_17 hx (Nat.le_of_ble_eq_true rfl)
theorem cal_X8_isNoKey {x : ev_I} (hx : (ev_ms 166).2.2.2.2.2 + 1 ≤ x.2.2.2.2.2) : ev_cal ev_ms x 166 2 := ev_cal_mk x_X8_isNoKey rfl rfl (lw_m5 (List.mem_of_getElem? (i := 157) rfl)) (lw_m0 (List.mem_of_getElem? (i := 7) rfl)) nmh_RX8 pmd_24 hx (Nat.le_of_ble_eq_true rfl)
theorem cal_X8_isStale {x : ev_I} (hx : (ev_ms 167).2.2.2.2.2 + 1 ≤ x.2.2.2.2.2) : ev_cal ev_ms x 167 1 := ev_cal_mk x_X8_isStale rfl rfl (lw_m6 (List.mem_of_getElem? (i := 82) rfl)) (lw_m0 (List.mem_of_getElem? (i := 7) rfl)) nmh_RX8 pmd_17 hx (Nat.le_of_ble_eq_true rfl)
theorem cal_X8_make {x : ev_I} (hx : (ev_ms 168).2.2.2.2.2 + 1 ≤ x.2.2.2.2.2) : ev_cal ev_ms x 168 3 := ev_cal_mk x_X8_make rfl rfl (lw_m5 (List.mem_of_getElem? (i := 35) rfl)) (lw_m0 (List.mem_of_getElem? (i := 7) rfl)) nmh_RX8 pmd_45 hx (Nat.le_of_ble_eq_true rfl)
theorem cal_X8_size {x : ev_I} (hx : (ev_ms 169).2.2.2.2.2 + 1 ≤ x.2.2.2.2.2) : ev_cal ev_ms x 169 1 := ev_cal_mk x_X8_size rfl rfl (lw_m5 (List.mem_of_getElem? (i := 239) rfl)) (lw_m0 (List.mem_of_getElem? (i := 7) rfl)) nmh_RX8 pmd_4 hx (Nat.le_of_ble_eq_true rfl)
theorem cal_X8_tableNow {x : ev_I} (hx : (ev_ms 170).2.2.2.2.2 + 1 ≤ x.2.2.2.2.2) : ev_cal ev_ms x 170 2 := ev_cal_mk x_X8_tableNow rfl rfl (lw_m6 (List.mem_of_getElem? (i := 46) rfl)) (lw_m0 (List.mem_of_getElem? (i := 7) rfl)) nmh_RX8 pmd_12 hx (Nat.le_of_ble_eq_true rfl)
theorem cal_X8_walk {x : ev_I} (hx : (ev_ms 171).2.2.2.2.2 + 1 ≤ x.2.2.2.2.2) : ev_cal ev_ms x 171 2 := ev_cal_mk x_X8_walk rfl rfl (lw_m6 (List.mem_of_getElem? (i := 53) rfl)) (lw_m0 (List.mem_of_getElem? (i := 7) rfl)) nmh_RX8 pmd_12 hx (Nat.le_of_ble_eq_true rfl)
theorem cal_J2_compress_5af95 {x : ev_I} (hx : (ev_ms 172).2.2.2.2.2 + 1 ≤ x.2.2.2.2.2) : ev_cal ev_ms x 172 5 := ev_cal_mk x_J2_compress_5af95 rfl rfl (lw_m2 (List.mem_of_getElem? (i := 63) rfl)) (lw_m0 (List.mem_of_getElem? (i := 29) rfl)) nmh_RJ2 pmd_46 hx (Nat.le_of_ble_eq_true rfl)
theorem cal_J2_getChars_46870 {x : ev_I} (hx : (ev_ms 173).2.2.2.2.2 + 1 ≤ x.2.2.2.2.2) : ev_cal ev_ms x 173 4 := ev_cal_mk x_J2_getChars_46870 rfl rfl (lw_m1 (List.mem_of_getElem? (i := 138) rfl)) (lw_m0 (List.mem_of_getElem? (i := 29) rfl)) nmh_RJ2 pmd_47 hx (Nat.le_of_ble_eq_true rfl)
theorem cal_J2_inflate_0e8fd {x : ev_I} (hx : (ev_ms 174).2.2.2.2.2 + 1 ≤ x.2.2.2.2.2) : ev_cal ev_ms x 174 5 := ev_cal_mk x_J2_inflate_0e8fd rfl rfl (lw_m1 (List.mem_of_getElem? (i := 83) rfl)) (lw_m0 (List.mem_of_getElem? (i := 29) rfl)) nmh_RJ2 pmd_48 hx (Nat.le_of_ble_eq_true rfl)
theorem cal_J2_putCharSB_b72d1 {x : ev_I} (hx : (ev_ms 175).2.2.2.2.2 + 1 ≤ x.2.2.2.2.2) : ev_cal ev_ms x 175 3 := ev_cal_mk x_J2_putCharSB_b72d1 rfl rfl (lw_m1 (List.mem_of_getElem? (i := 109) rfl)) (lw_m0 (List.mem_of_getElem? (i := 29) rfl)) nmh_RJ2 pmd_30 hx (Nat.le_of_ble_eq_true rfl)
theorem cal_J2_putCharsAt_cd4e5 {x : ev_I} (hx : (ev_ms 176).2.2.2.2.2 + 1 ≤ x.2.2.2.2.2) : ev_cal ev_ms x 176 6 := ev_cal_mk x_J2_putCharsAt_cd4e5 rfl rfl (lw_m2 (List.mem_of_getElem? (i := 7) rfl)) (lw_m0 (List.mem_of_getElem? (i := 29) rfl)) nmh_RJ2 pmd_49 hx (Nat.le_of_ble_eq_true rfl)
theorem cal_J4_init_da8c8 {x : ev_I} (hx : (ev_ms 177).2.2.2.2.2 + 1 ≤ x.2.2.2.2.2) : ev_cal ev_ms x 177 0 := ev_cal_mk x_J4_init_da8c8 rfl rfl (lw_m0 (List.mem_of_getElem? (i := 236) rfl)) (lw_m0 (List.mem_of_getElem? (i := 27) rfl)) nmh_RJ4 pmd_13 hx (Nat.le_of_ble_eq_true rfl)
theorem cal_J5_ensureCapacityInternal_d00df {x : ev_I} (hx : (ev_ms 178).2.2.2.2.2 + 1 ≤ x.2.2.2.2.2) : ev_cal ev_ms x 178 1 := ev_cal_mk x_J5_ensureCapacityInternal_d00df rfl rfl (lw_m1 (List.mem_of_getElem? (i := 34) rfl)) (lw_m0 (List.mem_of_getElem? (i := 26) rfl)) nmh_RJ5 pmd_18 hx (Nat.le_of_ble_eq_true rfl)
theorem cal_Jx4a65c_grow_92f84 {x : ev_I} (hx : (ev_ms 179).2.2.2.2.2 + 1 ≤ x.2.2.2.2.2) : ev_cal ev_ms x 179 1 := ev_cal_mk x_Jx4a65c_grow_92f84 rfl rfl (lw_m5 (List.mem_of_getElem? (i := 110) rfl)) (lw_m0 (List.mem_of_getElem? (i := 11) rfl)) nmh_RJx4a65c pmd_50 hx (Nat.le_of_ble_eq_true rfl)
theorem cal_L_best {x : ev_I} (hx : (ev_ms 180).2.2.2.2.2 + 1 ≤ x.2.2.2.2.2) : ev_calW ev_ms x 180 3 := ev_calW_mk x_L_best rfl (fun e => by cases e) (lw_m4 (List.mem_of_getElem? (i := 165) rfl)) (lw_m0 (List.mem_of_getElem? (i := 0) rfl)) nmh_RL pmd_43 hx (Nat.le_of_ble_eq_true rfl)
theorem cal_L_depth {x : ev_I} (hx : (ev_ms 181).2.2.2.2.2 + 1 ≤ x.2.2.2.2.2) : ev_calW ev_ms x 181 3 := ev_calW_mk x_L_depth rfl (fun e => by cases e) (lw_m4 (List.mem_of_getElem? (i := 125) rfl)) (lw_m0 (List.mem_of_getElem? (i := 0) rfl)) nmh_RL pmd_43 hx (Nat.le_of_ble_eq_true rfl)
theorem cal_L_eldest {x : ev_I} (hx : (ev_ms 182).2.2.2.2.2 + 1 ≤ x.2.2.2.2.2) : ev_calW ev_ms x 182 3 := ev_calW_mk x_L_eldest rfl (fun e => by cases e) (lw_m3 (List.mem_of_getElem? (i := 230) rfl)) (lw_m0 (List.mem_of_getElem? (i := 0) rfl)) nmh_RL pmd_43 hx (Nat.le_of_ble_eq_true rfl)
theorem cal_L_hasMore {x : ev_I} (hx : (ev_ms 183).2.2.2.2.2 + 1 ≤ x.2.2.2.2.2) : ev_calW ev_ms x 183 3 := ev_calW_mk x_L_hasMore rfl (fun e => by cases e) (lw_m4 (List.mem_of_getElem? (i := 59) rfl)) (lw_m0 (List.mem_of_getElem? (i := 0) rfl)) nmh_RL pmd_43 hx (Nat.le_of_ble_eq_true rfl)
theorem cal_L_hits {x : ev_I} (hx : (ev_ms 184).2.2.2.2.2 + 1 ≤ x.2.2.2.2.2) : ev_calW ev_ms x 184 3 := ev_calW_mk x_L_hits rfl (fun e => by cases e) (lw_m4 (List.mem_of_getElem? (i := 154) rfl)) (lw_m0 (List.mem_of_getElem? (i := 0) rfl)) nmh_RL pmd_43 hx (Nat.le_of_ble_eq_true rfl)
theorem cal_L_keeps {x : ev_I} (hx : (ev_ms 185).2.2.2.2.2 + 1 ≤ x.2.2.2.2.2) : ev_calW ev_ms x 185 4 := ev_calW_mk x_L_keeps rfl (fun e => by cases e) (lw_m4 (List.mem_of_getElem? (i := 139) rfl)) (lw_m0 (List.mem_of_getElem? (i := 0) rfl)) nmh_RL pmd_44 hx (Nat.le_of_ble_eq_true rfl)
theorem cal_L_keyAt {x : ev_I} (hx : (ev_ms 186).2.2.2.2.2 + 1 ≤ x.2.2.2.2.2) : ev_calW ev_ms x 186 4 := ev_calW_mk x_L_keyAt rfl (fun e => by cases e) (lw_m3 (List.mem_of_getElem? (i := 205) rfl)) (lw_m0 (List.mem_of_getElem? (i := 0) rfl)) nmh_RL pmd_44 hx (Nat.le_of_ble_eq_true rfl)
theorem cal_L_latest {x : ev_I} (hx : (ev_ms 187).2.2.2.2.2 + 1 ≤ x.2.2.2.2.2) : ev_calW ev_ms x 187 3 := ev_calW_mk x_L_latest rfl (fun e => by cases e) (lw_m3 (List.mem_of_getElem? (i := 237) rfl)) (lw_m0 (List.mem_of_getElem? (i := 0) rfl)) nmh_RL pmd_43 hx (Nat.le_of_ble_eq_true rfl)
theorem cal_L_lost {x : ev_I} (hx : (ev_ms 188).2.2.2.2.2 + 1 ≤ x.2.2.2.2.2) : ev_calW ev_ms x 188 3 := ev_calW_mk x_L_lost rfl (fun e => by cases e) (lw_m4 (List.mem_of_getElem? (i := 161) rfl)) (lw_m0 (List.mem_of_getElem? (i := 0) rfl)) nmh_RL pmd_43 hx (Nat.le_of_ble_eq_true rfl)
theorem cal_L_make {x : ev_I} (hx : (ev_ms 189).2.2.2.2.2 + 1 ≤ x.2.2.2.2.2) : ev_calW ev_ms x 189 5 := ev_calW_mk x_L_make rfl (fun e => by cases e) (lw_m3 (List.mem_of_getElem? (i := 52) rfl)) (lw_m0 (List.mem_of_getElem? (i := 0) rfl)) nmh_RL pmd_51 hx (Nat.le_of_ble_eq_true rfl)
theorem cal_L_misses {x : ev_I} (hx : (ev_ms 190).2.2.2.2.2 + 1 ≤ x.2.2.2.2.2) : ev_calW ev_ms x 190 3 := ev_calW_mk x_L_misses rfl (fun e => by cases e) (lw_m4 (List.mem_of_getElem? (i := 150) rfl)) (lw_m0 (List.mem_of_getElem? (i := 0) rfl)) nmh_RL pmd_43 hx (Nat.le_of_ble_eq_true rfl)
theorem cal_L_pairAt {x : ev_I} (hx : (ev_ms 191).2.2.2.2.2 + 1 ≤ x.2.2.2.2.2) : ev_calW ev_ms x 191 4 := ev_calW_mk x_L_pairAt rfl (fun e => by cases e) (lw_m3 (List.mem_of_getElem? (i := 219) rfl)) (lw_m0 (List.mem_of_getElem? (i := 0) rfl)) nmh_RL pmd_44 hx (Nat.le_of_ble_eq_true rfl)
theorem cal_L_set {x : ev_I} (hx : (ev_ms 192).2.2.2.2.2 + 1 ≤ x.2.2.2.2.2) : ev_calW ev_ms x 192 5 := ev_calW_mk x_L_set rfl (fun e => by cases e) (lw_m3 (List.mem_of_getElem? (i := 169) rfl)) (lw_m0 (List.mem_of_getElem? (i := 0) rfl)) nmh_RL pmd_52 hx (Nat.le_of_ble_eq_true rfl)
theorem cal_L_takenAt {x : ev_I} (hx : (ev_ms 193).2.2.2.2.2 + 1 ≤ x.2.2.2.2.2) : ev_calW ev_ms x 193 4 := ev_calW_mk x_L_takenAt rfl (fun e => by cases e) (lw_m4 (List.mem_of_getElem? (i := 146) rfl)) (lw_m0 (List.mem_of_getElem? (i := 0) rfl)) nmh_RL pmd_44 hx (Nat.le_of_ble_eq_true rfl)
theorem cal_L_valueAt {x : ev_I} (hx : (ev_ms 194).2.2.2.2.2 + 1 ≤ x.2.2.2.2.2) : ev_calW ev_ms x 194 4 := ev_calW_mk x_L_valueAt rfl (fun e => by cases e) (lw_m3 (List.mem_of_getElem? (i := 212) rfl)) (lw_m0 (List.mem_of_getElem? (i := 0) rfl)) nmh_RL pmd_44 hx (Nat.le_of_ble_eq_true rfl)
theorem cal_X2_bring {x : ev_I} (hx : (ev_ms 195).2.2.2.2.2 + 1 ≤ x.2.2.2.2.2) : ev_cal ev_ms x 195 2 := ev_cal_mk x_X2_bring rfl rfl (lw_m3 (List.mem_of_getElem? (i := 78) rfl)) (lw_m0 (List.mem_of_getElem? (i := 3) rfl)) nmh_RX2 pmd_12 hx (Nat.le_of_ble_eq_true rfl)
theorem cal_X2_fetch {x : ev_I} (hx : (ev_ms 196).2.2.2.2.2 + 1 ≤ x.2.2.2.2.2) : ev_cal ev_ms x 196 2 := ev_cal_mk x_X2_fetch rfl rfl (lw_m3 (List.mem_of_getElem? (i := 132) rfl)) (lw_m0 (List.mem_of_getElem? (i := 3) rfl)) nmh_RX2 pmd_12 hx (Nat.le_of_ble_eq_true rfl)
theorem cal_X2_fetchOrTakeIn {x : ev_I} (hx : (ev_ms 197).2.2.2.2.2 + 1 ≤ x.2.2.2.2.2) : ev_cal ev_ms x 197 2 := ev_cal_mk x_X2_fetchOrTakeIn rfl rfl (lw_m4 (List.mem_of_getElem? (i := 112) rfl)) (lw_m0 (List.mem_of_getElem? (i := 3) rfl)) nmh_RX2 pmd_24 hx (Nat.le_of_ble_eq_true rfl)
theorem cal_X4_advanceToEnd {x : ev_I} (hx : (ev_ms 198).2.2.2.2.2 + 1 ≤ x.2.2.2.2.2) : ev_cal ev_ms x 198 0 := ev_cal_mk x_X4_advanceToEnd rfl rfl (lw_m4 (List.mem_of_getElem? (i := 75) rfl)) (lw_m0 (List.mem_of_getElem? (i := 5) rfl)) nmh_RX4 pmd_9 hx (Nat.le_of_ble_eq_true rfl)
theorem cal_X5_copy {x : ev_I} (hx : (ev_ms 199).2.2.2.2.2 + 1 ≤ x.2.2.2.2.2) : ev_cal ev_ms x 199 2 := ev_cal_mk x_X5_copy rfl rfl (lw_m3 (List.mem_of_getElem? (i := 186) rfl)) (lw_m0 (List.mem_of_getElem? (i := 1) rfl)) nmh_RX5 pmd_12 hx (Nat.le_of_ble_eq_true rfl)
theorem cal_X5_cut {x : ev_I} (hx : (ev_ms 200).2.2.2.2.2 + 1 ≤ x.2.2.2.2.2) : ev_cal ev_ms x 200 1 := ev_cal_mk x_X5_cut rfl rfl (lw_m4 (List.mem_of_getElem? (i := 47) rfl)) (lw_m0 (List.mem_of_getElem? (i := 1) rfl)) nmh_RX5 pmd_4 hx (Nat.le_of_ble_eq_true rfl)
theorem cal_X5_forget {x : ev_I} (hx : (ev_ms 201).2.2.2.2.2 + 1 ≤ x.2.2.2.2.2) : ev_cal ev_ms x 201 0 := ev_cal_mk x_X5_forget rfl rfl (lw_m0 (List.mem_of_getElem? (i := 194) rfl)) (lw_m0 (List.mem_of_getElem? (i := 1) rfl)) nmh_RX5 pmd_9 hx (Nat.le_of_ble_eq_true rfl)
theorem cal_X5_isSound {x : ev_I} (hx : (ev_ms 202).2.2.2.2.2 + 1 ≤ x.2.2.2.2.2) : ev_cal ev_ms x 202 0 := ev_cal_mk x_X5_isSound rfl rfl (lw_m2 (List.mem_of_getElem? (i := 97) rfl)) (lw_m0 (List.mem_of_getElem? (i := 1) rfl)) nmh_RX5 pmd_8 hx (Nat.le_of_ble_eq_true rfl)
theorem cal_X5_mixedWithKeeper {x : ev_I} (hx : (ev_ms 203).2.2.2.2.2 + 1 ≤ x.2.2.2.2.2) : ev_cal ev_ms x 203 2 := ev_cal_mk x_X5_mixedWithKeeper rfl rfl (lw_m3 (List.mem_of_getElem? (i := 3) rfl)) (lw_m0 (List.mem_of_getElem? (i := 1) rfl)) nmh_RX5 pmd_21 hx (Nat.le_of_ble_eq_true rfl)
theorem cal_X5_mixedWithTable {x : ev_I} (hx : (ev_ms 204).2.2.2.2.2 + 1 ≤ x.2.2.2.2.2) : ev_cal ev_ms x 204 2 := ev_cal_mk x_X5_mixedWithTable rfl rfl (lw_m2 (List.mem_of_getElem? (i := 172) rfl)) (lw_m0 (List.mem_of_getElem? (i := 1) rfl)) nmh_RX5 pmd_21 hx (Nat.le_of_ble_eq_true rfl)
theorem cal_X5_remove {x : ev_I} (hx : (ev_ms 205).2.2.2.2.2 + 1 ≤ x.2.2.2.2.2) : ev_cal ev_ms x 205 2 := ev_cal_mk x_X5_remove rfl rfl (lw_m3 (List.mem_of_getElem? (i := 154) rfl)) (lw_m0 (List.mem_of_getElem? (i := 1) rfl)) nmh_RX5 pmd_12 hx (Nat.le_of_ble_eq_true rfl)
theorem cal_X5_step {x : ev_I} (hx : (ev_ms 206).2.2.2.2.2 + 1 ≤ x.2.2.2.2.2) : ev_cal ev_ms x 206 1 := ev_cal_mk x_X5_step rfl rfl (lw_m4 (List.mem_of_getElem? (i := 34) rfl)) (lw_m0 (List.mem_of_getElem? (i := 1) rfl)) nmh_RX5 pmd_4 hx (Nat.le_of_ble_eq_true rfl)
theorem cal_X7_init {x : ev_I} (hx : (ev_ms 207).2.2.2.2.2 + 1 ≤ x.2.2.2.2.2) : ev_cal ev_ms x 207 0 := ev_cal_mk x_X7_init rfl rfl (lw_m4 (List.mem_of_getElem? (i := 182) rfl)) (lw_m0 (List.mem_of_getElem? (i := 8) rfl)) nmh_RX7 pmd_13 hx (Nat.le_of_ble_eq_true rfl)
theorem cal_X7_place {x : ev_I} (hx : (ev_ms 208).2.2.2.2.2 + 1 ≤ x.2.2.2.2.2) : ev_cal ev_ms x 208 1 := ev_cal_mk x_X7_place rfl rfl (lw_m5 (List.mem_of_getElem? (i := 65) rfl)) (lw_m0 (List.mem_of_getElem? (i := 8) rfl)) nmh_RX7 pmd_4 hx (Nat.le_of_ble_eq_true rfl)
theorem cal_X7_step {x : ev_I} (hx : (ev_ms 209).2.2.2.2.2 + 1 ≤ x.2.2.2.2.2) : ev_cal ev_ms x 209 0 := ev_cal_mk x_X7_step rfl rfl (lw_m6 (List.mem_of_getElem? (i := 70) rfl)) (lw_m0 (List.mem_of_getElem? (i := 8) rfl)) nmh_RX7 pmd_9 hx (Nat.le_of_ble_eq_true rfl)
theorem cal_X8_askedAt {x : ev_I} (hx : (ev_ms 210).2.2.2.2.2 + 1 ≤ x.2.2.2.2.2) : ev_cal ev_ms x 210 1 := ev_cal_mk x_X8_askedAt rfl rfl (lw_m6 (List.mem_of_getElem? (i := 155) rfl)) (lw_m0 (List.mem_of_getElem? (i := 7) rfl)) nmh_RX8 pmd_4 hx (Nat.le_of_ble_eq_true rfl)
theorem cal_X8_before {x : ev_I} (hx : (ev_ms 211).2.2.2.2.2 + 1 ≤ x.2.2.2.2.2) : ev_cal ev_ms x 211 2 := ev_cal_mk x_X8_before rfl rfl (lw_m6 (List.mem_of_getElem? (i := 106) rfl)) (lw_m0 (List.mem_of_getElem? (i := 7) rfl)) nmh_RX8 pmd_12 hx (Nat.le_of_ble_eq_true rfl)
theorem cal_X8_cut {x : ev_I} (hx : (ev_ms 212).2.2.2.2.2 + 1 ≤ x.2.2.2.2.2) : ev_cal ev_ms x 212 1 := ev_cal_mk x_X8_cut rfl rfl (lw_m6 (List.mem_of_getElem? (i := 74) rfl)) (lw_m0 (List.mem_of_getElem? (i := 7) rfl)) nmh_RX8 pmd_4 hx (Nat.le_of_ble_eq_true rfl)
theorem cal_X8_ofTable {x : ev_I} (hx : (ev_ms 213).2.2.2.2.2 + 1 ≤ x.2.2.2.2.2) : ev_cal ev_ms x 213 2 := ev_cal_mk x_X8_ofTable rfl rfl (lw_m6 (List.mem_of_getElem? (i := 42) rfl)) (lw_m0 (List.mem_of_getElem? (i := 7) rfl)) nmh_RX8 pmd_12 hx (Nat.le_of_ble_eq_true rfl)
theorem cal_X8_set {x : ev_I} (hx : (ev_ms 214).2.2.2.2.2 + 1 ≤ x.2.2.2.2.2) : ev_cal ev_ms x 214 3 := ev_cal_mk x_X8_set rfl rfl (lw_m5 (List.mem_of_getElem? (i := 177) rfl)) (lw_m0 (List.mem_of_getElem? (i := 7) rfl)) nmh_RX8 pmd_27 hx (Nat.le_of_ble_eq_true rfl)
theorem cal_X8_told {x : ev_I} (hx : (ev_ms 215).2.2.2.2.2 + 1 ≤ x.2.2.2.2.2) : ev_cal ev_ms x 215 3 := ev_cal_mk x_X8_told rfl rfl (lw_m6 (List.mem_of_getElem? (i := 7) rfl)) (lw_m0 (List.mem_of_getElem? (i := 7) rfl)) nmh_RX8 pmd_27 hx (Nat.le_of_ble_eq_true rfl)
theorem cal_J1_inflate_0e8fd {x : ev_I} (hx : (ev_ms 216).2.2.2.2.2 + 1 ≤ x.2.2.2.2.2) : ev_cal ev_ms x 216 5 := ev_cal_mk x_J1_inflate_0e8fd rfl rfl (lw_m1 (List.mem_of_getElem? (i := 80) rfl)) (lw_m0 (List.mem_of_getElem? (i := 30) rfl)) nmh_RJ1 pmd_48 hx (Nat.le_of_ble_eq_true rfl)
theorem cal_J2_compress_39247 {x : ev_I} (hx : (ev_ms 217).2.2.2.2.2 + 1 ≤ x.2.2.2.2.2) : ev_cal ev_ms x 217 3 := ev_cal_mk x_J2_compress_39247 rfl rfl (lw_m2 (List.mem_of_getElem? (i := 60) rfl)) (lw_m0 (List.mem_of_getElem? (i := 29) rfl)) nmh_RJ2 pmd_31 hx (Nat.le_of_ble_eq_true rfl)
theorem cal_J5_appendNull_278bc {x : ev_I} (hx : (ev_ms 218).2.2.2.2.2 + 1 ≤ x.2.2.2.2.2) : ev_cal ev_ms x 218 0 := ev_cal_mk x_J5_appendNull_278bc rfl rfl (lw_m2 (List.mem_of_getElem? (i := 4) rfl)) (lw_m0 (List.mem_of_getElem? (i := 26) rfl)) nmh_RJ5 pmd_53 hx (Nat.le_of_ble_eq_true rfl)
theorem cal_J5_append_c97b9 {x : ev_I} (hx : (ev_ms 219).2.2.2.2.2 + 1 ≤ x.2.2.2.2.2) : ev_cal ev_ms x 219 1 := ev_cal_mk x_J5_append_c97b9 rfl rfl (lw_m1 (List.mem_of_getElem? (i := 125) rfl)) (lw_m0 (List.mem_of_getElem? (i := 26) rfl)) nmh_RJ5 pmd_54 hx (Nat.le_of_ble_eq_true rfl)
theorem cal_Jx4a65c_grow_d5877 {x : ev_I} (hx : (ev_ms 220).2.2.2.2.2 + 1 ≤ x.2.2.2.2.2) : ev_cal ev_ms x 220 0 := ev_cal_mk x_Jx4a65c_grow_d5877 rfl rfl (lw_m5 (List.mem_of_getElem? (i := 106) rfl)) (lw_m0 (List.mem_of_getElem? (i := 11) rfl)) nmh_RJx4a65c pmd_55 hx (Nat.le_of_ble_eq_true rfl)
theorem cal_L_copy {x : ev_I} (hx : (ev_ms 221).2.2.2.2.2 + 1 ≤ x.2.2.2.2.2) : ev_calW ev_ms x 221 4 := ev_calW_mk x_L_copy rfl (fun e => by cases e) (lw_m3 (List.mem_of_getElem? (i := 182) rfl)) (lw_m0 (List.mem_of_getElem? (i := 0) rfl)) nmh_RL pmd_44 hx (Nat.le_of_ble_eq_true rfl)
theorem cal_L_cut {x : ev_I} (hx : (ev_ms 222).2.2.2.2.2 + 1 ≤ x.2.2.2.2.2) : ev_calW ev_ms x 222 3 := ev_calW_mk x_L_cut rfl (fun e => by cases e) (lw_m4 (List.mem_of_getElem? (i := 43) rfl)) (lw_m0 (List.mem_of_getElem? (i := 0) rfl)) nmh_RL pmd_43 hx (Nat.le_of_ble_eq_true rfl)
theorem cal_L_remove {x : ev_I} (hx : (ev_ms 223).2.2.2.2.2 + 1 ≤ x.2.2.2.2.2) : ev_calW ev_ms x 223 4 := ev_calW_mk x_L_remove rfl (fun e => by cases e) (lw_m3 (List.mem_of_getElem? (i := 150) rfl)) (lw_m0 (List.mem_of_getElem? (i := 0) rfl)) nmh_RL pmd_44 hx (Nat.le_of_ble_eq_true rfl)
theorem cal_L_step {x : ev_I} (hx : (ev_ms 224).2.2.2.2.2 + 1 ≤ x.2.2.2.2.2) : ev_calW ev_ms x 224 3 := ev_calW_mk x_L_step rfl (fun e => by cases e) (lw_m4 (List.mem_of_getElem? (i := 30) rfl)) (lw_m0 (List.mem_of_getElem? (i := 0) rfl)) nmh_RL pmd_43 hx (Nat.le_of_ble_eq_true rfl)
theorem cal_X1_meet {x : ev_I} (hx : (ev_ms 225).2.2.2.2.2 + 1 ≤ x.2.2.2.2.2) : ev_cal ev_ms x 225 2 := ev_cal_mk x_X1_meet rfl rfl (lw_m4 (List.mem_of_getElem? (i := 108) rfl)) (lw_m0 (List.mem_of_getElem? (i := 6) rfl)) nmh_RX1 pmd_24 hx (Nat.le_of_ble_eq_true rfl)
theorem cal_X2_bringIfAbsent {x : ev_I} (hx : (ev_ms 226).2.2.2.2.2 + 1 ≤ x.2.2.2.2.2) : ev_cal ev_ms x 226 2 := ev_cal_mk x_X2_bringIfAbsent rfl rfl (lw_m3 (List.mem_of_getElem? (i := 128) rfl)) (lw_m0 (List.mem_of_getElem? (i := 3) rfl)) nmh_RX2 pmd_12 hx (Nat.le_of_ble_eq_true rfl)
theorem cal_X5_digest {x : ev_I} (hx : (ev_ms 227).2.2.2.2.2 + 1 ≤ x.2.2.2.2.2) : ev_cal ev_ms x 227 0 := ev_cal_mk x_X5_digest rfl rfl (lw_m2 (List.mem_of_getElem? (i := 152) rfl)) (lw_m0 (List.mem_of_getElem? (i := 1) rfl)) nmh_RX5 pmd_56 hx (Nat.le_of_ble_eq_true rfl)
theorem cal_X5_get {x : ev_I} (hx : (ev_ms 228).2.2.2.2.2 + 1 ≤ x.2.2.2.2.2) : ev_cal ev_ms x 228 2 := ev_cal_mk x_X5_get rfl rfl (lw_m3 (List.mem_of_getElem? (i := 139) rfl)) (lw_m0 (List.mem_of_getElem? (i := 1) rfl)) nmh_RX5 pmd_12 hx (Nat.le_of_ble_eq_true rfl)
theorem cal_X5_getOr {x : ev_I} (hx : (ev_ms 229).2.2.2.2.2 + 1 ≤ x.2.2.2.2.2) : ev_cal ev_ms x 229 3 := ev_cal_mk x_X5_getOr rfl rfl (lw_m3 (List.mem_of_getElem? (i := 147) rfl)) (lw_m0 (List.mem_of_getElem? (i := 1) rfl)) nmh_RX5 pmd_27 hx (Nat.le_of_ble_eq_true rfl)
theorem cal_X5_put {x : ev_I} (hx : (ev_ms 230).2.2.2.2.2 + 1 ≤ x.2.2.2.2.2) : ev_cal ev_ms x 230 3 := ev_cal_mk x_X5_put rfl rfl (lw_m3 (List.mem_of_getElem? (i := 70) rfl)) (lw_m0 (List.mem_of_getElem? (i := 1) rfl)) nmh_RX5 pmd_27 hx (Nat.le_of_ble_eq_true rfl)
theorem cal_X5_rest {x : ev_I} (hx : (ev_ms 231).2.2.2.2.2 + 1 ≤ x.2.2.2.2.2) : ev_cal ev_ms x 231 1 := ev_cal_mk x_X5_rest rfl rfl (lw_m4 (List.mem_of_getElem? (i := 71) rfl)) (lw_m0 (List.mem_of_getElem? (i := 1) rfl)) nmh_RX5 pmd_4 hx (Nat.le_of_ble_eq_true rfl)
theorem cal_X8_bestNow {x : ev_I} (hx : (ev_ms 232).2.2.2.2.2 + 1 ≤ x.2.2.2.2.2) : ev_cal ev_ms x 232 1 := ev_cal_mk x_X8_bestNow rfl rfl (lw_m6 (List.mem_of_getElem? (i := 236) rfl)) (lw_m0 (List.mem_of_getElem? (i := 7) rfl)) nmh_RX8 pmd_4 hx (Nat.le_of_ble_eq_true rfl)
theorem cal_X8_eldest {x : ev_I} (hx : (ev_ms 233).2.2.2.2.2 + 1 ≤ x.2.2.2.2.2) : ev_cal ev_ms x 233 1 := ev_cal_mk x_X8_eldest rfl rfl (lw_m6 (List.mem_of_getElem? (i := 23) rfl)) (lw_m0 (List.mem_of_getElem? (i := 7) rfl)) nmh_RX8 pmd_4 hx (Nat.le_of_ble_eq_true rfl)
theorem cal_X8_has {x : ev_I} (hx : (ev_ms 234).2.2.2.2.2 + 1 ≤ x.2.2.2.2.2) : ev_cal ev_ms x 234 2 := ev_cal_mk x_X8_has rfl rfl (lw_m5 (List.mem_of_getElem? (i := 235) rfl)) (lw_m0 (List.mem_of_getElem? (i := 7) rfl)) nmh_RX8 pmd_24 hx (Nat.le_of_ble_eq_true rfl)
theorem cal_X8_init {x : ev_I} (hx : (ev_ms 235).2.2.2.2.2 + 1 ≤ x.2.2.2.2.2) : ev_cal ev_ms x 235 0 := ev_cal_mk x_X8_init rfl rfl (lw_m4 (List.mem_of_getElem? (i := 175) rfl)) (lw_m0 (List.mem_of_getElem? (i := 7) rfl)) nmh_RX8 pmd_13 hx (Nat.le_of_ble_eq_true rfl)
theorem cal_X8_keyAt {x : ev_I} (hx : (ev_ms 236).2.2.2.2.2 + 1 ≤ x.2.2.2.2.2) : ev_cal ev_ms x 236 2 := ev_cal_mk x_X8_keyAt rfl rfl (lw_m6 (List.mem_of_getElem? (i := 3) rfl)) (lw_m0 (List.mem_of_getElem? (i := 7) rfl)) nmh_RX8 pmd_12 hx (Nat.le_of_ble_eq_true rfl)
theorem cal_X8_latest {x : ev_I} (hx : (ev_ms 237).2.2.2.2.2 + 1 ≤ x.2.2.2.2.2) : ev_cal ev_ms x 237 1 := ev_cal_mk x_X8_latest rfl rfl (lw_m6 (List.mem_of_getElem? (i := 27) rfl)) (lw_m0 (List.mem_of_getElem? (i := 7) rfl)) nmh_RX8 pmd_4 hx (Nat.le_of_ble_eq_true rfl)
theorem cal_X8_pairAt {x : ev_I} (hx : (ev_ms 238).2.2.2.2.2 + 1 ≤ x.2.2.2.2.2) : ev_cal ev_ms x 238 2 := ev_cal_mk x_X8_pairAt rfl rfl (lw_m6 (List.mem_of_getElem? (i := 15) rfl)) (lw_m0 (List.mem_of_getElem? (i := 7) rfl)) nmh_RX8 pmd_12 hx (Nat.le_of_ble_eq_true rfl)
theorem cal_X8_placeOf {x : ev_I} (hx : (ev_ms 239).2.2.2.2.2 + 1 ≤ x.2.2.2.2.2) : ev_cal ev_ms x 239 2 := ev_cal_mk x_X8_placeOf rfl rfl (lw_m6 (List.mem_of_getElem? (i := 19) rfl)) (lw_m0 (List.mem_of_getElem? (i := 7) rfl)) nmh_RX8 pmd_12 hx (Nat.le_of_ble_eq_true rfl)
theorem cal_X8_remove {x : ev_I} (hx : (ev_ms 240).2.2.2.2.2 + 1 ≤ x.2.2.2.2.2) : ev_cal ev_ms x 240 2 := ev_cal_mk x_X8_remove rfl rfl (lw_m5 (List.mem_of_getElem? (i := 169) rfl)) (lw_m0 (List.mem_of_getElem? (i := 7) rfl)) nmh_RX8 pmd_12 hx (Nat.le_of_ble_eq_true rfl)
theorem cal_X8_rest {x : ev_I} (hx : (ev_ms 241).2.2.2.2.2 + 1 ≤ x.2.2.2.2.2) : ev_cal ev_ms x 241 1 := ev_cal_mk x_X8_rest rfl rfl (lw_m6 (List.mem_of_getElem? (i := 90) rfl)) (lw_m0 (List.mem_of_getElem? (i := 7) rfl)) nmh_RX8 pmd_4 hx (Nat.le_of_ble_eq_true rfl)
theorem cal_X8_step {x : ev_I} (hx : (ev_ms 242).2.2.2.2.2 + 1 ≤ x.2.2.2.2.2) : ev_cal ev_ms x 242 1 := ev_cal_mk x_X8_step rfl rfl (lw_m6 (List.mem_of_getElem? (i := 57) rfl)) (lw_m0 (List.mem_of_getElem? (i := 7) rfl)) nmh_RX8 pmd_4 hx (Nat.le_of_ble_eq_true rfl)
theorem cal_X8_unlike {x : ev_I} (hx : (ev_ms 243).2.2.2.2.2 + 1 ≤ x.2.2.2.2.2) : ev_cal ev_ms x 243 2 := ev_cal_mk x_X8_unlike rfl rfl (lw_m6 (List.mem_of_getElem? (i := 115) rfl)) (lw_m0 (List.mem_of_getElem? (i := 7) rfl)) nmh_RX8 pmd_12 hx (Nat.le_of_ble_eq_true rfl)
theorem cal_X8_valueAt {x : ev_I} (hx : (ev_ms 244).2.2.2.2.2 + 1 ≤ x.2.2.2.2.2) : ev_cal ev_ms x 244 2 := ev_cal_mk x_X8_valueAt rfl rfl (lw_m6 (List.mem_of_getElem? (i := 11) rfl)) (lw_m0 (List.mem_of_getElem? (i := 7) rfl)) nmh_RX8 pmd_12 hx (Nat.le_of_ble_eq_true rfl)
theorem cal_J0_getBytes_840e7 {x : ev_I} (hx : (ev_ms 245).2.2.2.2.2 + 1 ≤ x.2.2.2.2.2) : ev_cal ev_ms x 245 3 := ev_cal_mk x_J0_getBytes_840e7 rfl rfl (lw_m2 (List.mem_of_getElem? (i := 29) rfl)) (lw_m0 (List.mem_of_getElem? (i := 28) rfl)) nmh_RJ0 pmd_57 hx (Nat.le_of_ble_eq_true rfl)
theorem cal_J0_init_db425 {x : ev_I} (hx : (ev_ms 246).2.2.2.2.2 + 1 ≤ x.2.2.2.2.2) : ev_cal ev_ms x 246 2 := ev_cal_mk x_J0_init_db425 rfl rfl (lw_m1 (List.mem_of_getElem? (i := 164) rfl)) (lw_m0 (List.mem_of_getElem? (i := 28) rfl)) nmh_RJ0 pmd_58 hx (Nat.le_of_ble_eq_true rfl)
theorem cal_J4_append_bf812 {x : ev_I} (hx : (ev_ms 247).2.2.2.2.2 + 1 ≤ x.2.2.2.2.2) : ev_cal ev_ms x 247 1 := ev_cal_mk x_J4_append_bf812 rfl rfl (lw_m1 (List.mem_of_getElem? (i := 122) rfl)) (lw_m0 (List.mem_of_getElem? (i := 27) rfl)) nmh_RJ4 pmd_59 hx (Nat.le_of_ble_eq_true rfl)
theorem cal_J5_inflate_da8c8 {x : ev_I} (hx : (ev_ms 248).2.2.2.2.2 + 1 ≤ x.2.2.2.2.2) : ev_cal ev_ms x 248 0 := ev_cal_mk x_J5_inflate_da8c8 rfl rfl (lw_m1 (List.mem_of_getElem? (i := 77) rfl)) (lw_m0 (List.mem_of_getElem? (i := 26) rfl)) nmh_RJ5 pmd_13 hx (Nat.le_of_ble_eq_true rfl)
theorem cal_Jx4a65c_add_72be8 {x : ev_I} (hx : (ev_ms 249).2.2.2.2.2 + 1 ≤ x.2.2.2.2.2) : ev_cal ev_ms x 249 3 := ev_cal_mk x_Jx4a65c_add_72be8 rfl rfl (lw_m5 (List.mem_of_getElem? (i := 102) rfl)) (lw_m0 (List.mem_of_getElem? (i := 11) rfl)) nmh_RJx4a65c pmd_60 hx (Nat.le_of_ble_eq_true rfl)
theorem cal_L_get {x : ev_I} (hx : (ev_ms 250).2.2.2.2.2 + 1 ≤ x.2.2.2.2.2) : ev_calW ev_ms x 250 4 := ev_calW_mk x_L_get rfl (fun e => by cases e) (lw_m3 (List.mem_of_getElem? (i := 135) rfl)) (lw_m0 (List.mem_of_getElem? (i := 0) rfl)) nmh_RL pmd_44 hx (Nat.le_of_ble_eq_true rfl)
theorem cal_L_getOr {x : ev_I} (hx : (ev_ms 251).2.2.2.2.2 + 1 ≤ x.2.2.2.2.2) : ev_calW ev_ms x 251 5 := ev_calW_mk x_L_getOr rfl (fun e => by cases e) (lw_m3 (List.mem_of_getElem? (i := 143) rfl)) (lw_m0 (List.mem_of_getElem? (i := 0) rfl)) nmh_RL pmd_52 hx (Nat.le_of_ble_eq_true rfl)
theorem cal_L_put {x : ev_I} (hx : (ev_ms 252).2.2.2.2.2 + 1 ≤ x.2.2.2.2.2) : ev_calW ev_ms x 252 5 := ev_calW_mk x_L_put rfl (fun e => by cases e) (lw_m3 (List.mem_of_getElem? (i := 66) rfl)) (lw_m0 (List.mem_of_getElem? (i := 0) rfl)) nmh_RL pmd_52 hx (Nat.le_of_ble_eq_true rfl)
theorem cal_L_rest {x : ev_I} (hx : (ev_ms 253).2.2.2.2.2 + 1 ≤ x.2.2.2.2.2) : ev_calW ev_ms x 253 3 := ev_calW_mk x_L_rest rfl (fun e => by cases e) (lw_m4 (List.mem_of_getElem? (i := 67) rfl)) (lw_m0 (List.mem_of_getElem? (i := 0) rfl)) nmh_RL pmd_43 hx (Nat.le_of_ble_eq_true rfl)
theorem cal_X5_askOne {x : ev_I} (hx : (ev_ms 254).2.2.2.2.2 + 1 ≤ x.2.2.2.2.2) : ev_cal ev_ms x 254 1 := ev_cal_mk x_X5_askOne rfl rfl (lw_m4 (List.mem_of_getElem? (i := 92) rfl)) (lw_m0 (List.mem_of_getElem? (i := 1) rfl)) nmh_RX5 pmd_4 hx (Nat.le_of_ble_eq_true rfl)
theorem cal_X5_putIfAbsent {x : ev_I} (hx : (ev_ms 255).2.2.2.2.2 + 1 ≤ x.2.2.2.2.2) : ev_cal ev_ms x 255 3 := ev_cal_mk x_X5_putIfAbsent rfl rfl (lw_m3 (List.mem_of_getElem? (i := 108) rfl)) (lw_m0 (List.mem_of_getElem? (i := 1) rfl)) nmh_RX5 pmd_27 hx (Nat.le_of_ble_eq_true rfl)
theorem cal_X8_best {x : ev_I} (hx : (ev_ms 256).2.2.2.2.2 + 1 ≤ x.2.2.2.2.2) : ev_cal ev_ms x 256 1 := ev_cal_mk x_X8_best rfl rfl (lw_m6 (List.mem_of_getElem? (i := 232) rfl)) (lw_m0 (List.mem_of_getElem? (i := 7) rfl)) nmh_RX8 pmd_4 hx (Nat.le_of_ble_eq_true rfl)
theorem cal_X8_depthOf {x : ev_I} (hx : (ev_ms 257).2.2.2.2.2 + 1 ≤ x.2.2.2.2.2) : ev_cal ev_ms x 257 2 := ev_cal_mk x_X8_depthOf rfl rfl (lw_m6 (List.mem_of_getElem? (i := 102) rfl)) (lw_m0 (List.mem_of_getElem? (i := 7) rfl)) nmh_RX8 pmd_12 hx (Nat.le_of_ble_eq_true rfl)
theorem cal_X8_houseNow {x : ev_I} (hx : (ev_ms 258).2.2.2.2.2 + 1 ≤ x.2.2.2.2.2) : ev_cal ev_ms x 258 1 := ev_cal_mk x_X8_houseNow rfl rfl (lw_m7 (List.mem_of_getElem? (i := 4) rfl)) (lw_m0 (List.mem_of_getElem? (i := 7) rfl)) nmh_RX8 pmd_4 hx (Nat.le_of_ble_eq_true rfl)
theorem cal_J0_init_81219 {x : ev_I} (hx : (ev_ms 259).2.2.2.2.2 + 1 ≤ x.2.2.2.2.2) : ev_cal ev_ms x 259 1 := ev_cal_mk x_J0_init_81219 rfl rfl (lw_m1 (List.mem_of_getElem? (i := 161) rfl)) (lw_m0 (List.mem_of_getElem? (i := 28) rfl)) nmh_RJ0 pmd_61 hx (Nat.le_of_ble_eq_true rfl)
theorem cal_J5_append_3fe6f {x : ev_I} (hx : (ev_ms 260).2.2.2.2.2 + 1 ≤ x.2.2.2.2.2) : ev_cal ev_ms x 260 1 := ev_cal_mk x_J5_append_3fe6f rfl rfl (lw_m1 (List.mem_of_getElem? (i := 30) rfl)) (lw_m0 (List.mem_of_getElem? (i := 26) rfl)) nmh_RJ5 pmd_62 hx (Nat.le_of_ble_eq_true rfl)
theorem cal_J5_inflateIfNeededFor_a7421 {x : ev_I} (hx : (ev_ms 261).2.2.2.2.2 + 1 ≤ x.2.2.2.2.2) : ev_cal ev_ms x 261 1 := ev_cal_mk x_J5_inflateIfNeededFor_a7421 rfl rfl (lw_m2 (List.mem_of_getElem? (i := 24) rfl)) (lw_m0 (List.mem_of_getElem? (i := 26) rfl)) nmh_RJ5 pmd_63 hx (Nat.le_of_ble_eq_true rfl)
theorem cal_Jx4a65c_add_9ea2d {x : ev_I} (hx : (ev_ms 262).2.2.2.2.2 + 1 ≤ x.2.2.2.2.2) : ev_cal ev_ms x 262 1 := ev_cal_mk x_Jx4a65c_add_9ea2d rfl rfl (lw_m5 (List.mem_of_getElem? (i := 98) rfl)) (lw_m0 (List.mem_of_getElem? (i := 11) rfl)) nmh_RJx4a65c pmd_64 hx (Nat.le_of_ble_eq_true rfl)
theorem cal_L_putIfAbsent {x : ev_I} (hx : (ev_ms 263).2.2.2.2.2 + 1 ≤ x.2.2.2.2.2) : ev_calW ev_ms x 263 5 := ev_calW_mk x_L_putIfAbsent rfl (fun e => by cases e) (lw_m3 (List.mem_of_getElem? (i := 103) rfl)) (lw_m0 (List.mem_of_getElem? (i := 0) rfl)) nmh_RL pmd_52 hx (Nat.le_of_ble_eq_true rfl)
theorem cal_X5_ask {x : ev_I} (hx : (ev_ms 264).2.2.2.2.2 + 1 ≤ x.2.2.2.2.2) : ev_cal ev_ms x 264 1 := ev_cal_mk x_X5_ask rfl rfl (lw_m4 (List.mem_of_getElem? (i := 83) rfl)) (lw_m0 (List.mem_of_getElem? (i := 1) rfl)) nmh_RX5 pmd_4 hx (Nat.le_of_ble_eq_true rfl)
theorem cal_X5_askRow {x : ev_I} (hx : (ev_ms 265).2.2.2.2.2 + 1 ≤ x.2.2.2.2.2) : ev_cal ev_ms x 265 3 := ev_cal_mk x_X5_askRow rfl rfl (lw_m4 (List.mem_of_getElem? (i := 120) rfl)) (lw_m0 (List.mem_of_getElem? (i := 1) rfl)) nmh_RX5 pmd_27 hx (Nat.le_of_ble_eq_true rfl)
theorem cal_X8_depth {x : ev_I} (hx : (ev_ms 266).2.2.2.2.2 + 1 ≤ x.2.2.2.2.2) : ev_cal ev_ms x 266 1 := ev_cal_mk x_X8_depth rfl rfl (lw_m6 (List.mem_of_getElem? (i := 163) rfl)) (lw_m0 (List.mem_of_getElem? (i := 7) rfl)) nmh_RX8 pmd_4 hx (Nat.le_of_ble_eq_true rfl)
theorem cal_X8_depthAt {x : ev_I} (hx : (ev_ms 267).2.2.2.2.2 + 1 ≤ x.2.2.2.2.2) : ev_cal ev_ms x 267 1 := ev_cal_mk x_X8_depthAt rfl rfl (lw_m6 (List.mem_of_getElem? (i := 159) rfl)) (lw_m0 (List.mem_of_getElem? (i := 7) rfl)) nmh_RX8 pmd_4 hx (Nat.le_of_ble_eq_true rfl)
theorem cal_X8_house {x : ev_I} (hx : (ev_ms 268).2.2.2.2.2 + 1 ≤ x.2.2.2.2.2) : ev_cal ev_ms x 268 1 := ev_cal_mk x_X8_house rfl rfl (lw_m7 (List.mem_of_getElem? (i := 0) rfl)) (lw_m0 (List.mem_of_getElem? (i := 7) rfl)) nmh_RX8 pmd_4 hx (Nat.le_of_ble_eq_true rfl)
theorem cal_X8_isHit {x : ev_I} (hx : (ev_ms 269).2.2.2.2.2 + 1 ≤ x.2.2.2.2.2) : ev_cal ev_ms x 269 2 := ev_cal_mk x_X8_isHit rfl rfl (lw_m6 (List.mem_of_getElem? (i := 204) rfl)) (lw_m0 (List.mem_of_getElem? (i := 7) rfl)) nmh_RX8 pmd_24 hx (Nat.le_of_ble_eq_true rfl)
theorem cal_X8_isKept {x : ev_I} (hx : (ev_ms 270).2.2.2.2.2 + 1 ≤ x.2.2.2.2.2) : ev_cal ev_ms x 270 2 := ev_cal_mk x_X8_isKept rfl rfl (lw_m6 (List.mem_of_getElem? (i := 192) rfl)) (lw_m0 (List.mem_of_getElem? (i := 7) rfl)) nmh_RX8 pmd_24 hx (Nat.le_of_ble_eq_true rfl)
theorem cal_X8_keyWith {x : ev_I} (hx : (ev_ms 271).2.2.2.2.2 + 1 ≤ x.2.2.2.2.2) : ev_cal ev_ms x 271 2 := ev_cal_mk x_X8_keyWith rfl rfl (lw_m6 (List.mem_of_getElem? (i := 175) rfl)) (lw_m0 (List.mem_of_getElem? (i := 7) rfl)) nmh_RX8 pmd_12 hx (Nat.le_of_ble_eq_true rfl)
theorem cal_X8_withDepth {x : ev_I} (hx : (ev_ms 272).2.2.2.2.2 + 1 ≤ x.2.2.2.2.2) : ev_cal ev_ms x 272 1 := ev_cal_mk x_X8_withDepth rfl rfl (lw_m6 (List.mem_of_getElem? (i := 228) rfl)) (lw_m0 (List.mem_of_getElem? (i := 7) rfl)) nmh_RX8 pmd_4 hx (Nat.le_of_ble_eq_true rfl)
theorem cal_J4_append_cf468 {x : ev_I} (hx : (ev_ms 273).2.2.2.2.2 + 1 ≤ x.2.2.2.2.2) : ev_cal ev_ms x 273 1 := ev_cal_mk x_J4_append_cf468 rfl rfl (lw_m1 (List.mem_of_getElem? (i := 27) rfl)) (lw_m0 (List.mem_of_getElem? (i := 27) rfl)) nmh_RJ4 pmd_65 hx (Nat.le_of_ble_eq_true rfl)
theorem cal_J4_toString_0e30d {x : ev_I} (hx : (ev_ms 274).2.2.2.2.2 + 1 ≤ x.2.2.2.2.2) : ev_cal ev_ms x 274 0 := ev_cal_mk x_J4_toString_0e30d rfl rfl (lw_m1 (List.mem_of_getElem? (i := 156) rfl)) (lw_m0 (List.mem_of_getElem? (i := 27) rfl)) nmh_RJ4 pmd_66 hx (Nat.le_of_ble_eq_true rfl)
theorem cal_J5_putStringAt_47b60 {x : ev_I} (hx : (ev_ms 275).2.2.2.2.2 + 1 ≤ x.2.2.2.2.2) : ev_cal ev_ms x 275 2 := ev_cal_mk x_J5_putStringAt_47b60 rfl rfl (lw_m2 (List.mem_of_getElem? (i := 20) rfl)) (lw_m0 (List.mem_of_getElem? (i := 26) rfl)) nmh_RJ5 pmd_67 hx (Nat.le_of_ble_eq_true rfl)
theorem cal_L_ask {x : ev_I} (hx : (ev_ms 276).2.2.2.2.2 + 1 ≤ x.2.2.2.2.2) : ev_calW ev_ms x 276 3 := ev_calW_mk x_L_ask rfl (fun e => by cases e) (lw_m4 (List.mem_of_getElem? (i := 79) rfl)) (lw_m0 (List.mem_of_getElem? (i := 0) rfl)) nmh_RL pmd_43 hx (Nat.le_of_ble_eq_true rfl)
theorem cal_L_askRow {x : ev_I} (hx : (ev_ms 277).2.2.2.2.2 + 1 ≤ x.2.2.2.2.2) : ev_calW ev_ms x 277 5 := ev_calW_mk x_L_askRow rfl (fun e => by cases e) (lw_m4 (List.mem_of_getElem? (i := 116) rfl)) (lw_m0 (List.mem_of_getElem? (i := 0) rfl)) nmh_RL pmd_52 hx (Nat.le_of_ble_eq_true rfl)
theorem cal_X7_asked {x : ev_I} (hx : (ev_ms 278).2.2.2.2.2 + 1 ≤ x.2.2.2.2.2) : ev_cal ev_ms x 278 1 := ev_cal_mk x_X7_asked rfl rfl (lw_m5 (List.mem_of_getElem? (i := 85) rfl)) (lw_m0 (List.mem_of_getElem? (i := 8) rfl)) nmh_RX7 pmd_18 hx (Nat.le_of_ble_eq_true rfl)
theorem cal_X8_asks {x : ev_I} (hx : (ev_ms 279).2.2.2.2.2 + 1 ≤ x.2.2.2.2.2) : ev_cal ev_ms x 279 1 := ev_cal_mk x_X8_asks rfl rfl (lw_m6 (List.mem_of_getElem? (i := 98) rfl)) (lw_m0 (List.mem_of_getElem? (i := 7) rfl)) nmh_RX8 pmd_4 hx (Nat.le_of_ble_eq_true rfl)
theorem cal_X8_copy {x : ev_I} (hx : (ev_ms 280).2.2.2.2.2 + 1 ≤ x.2.2.2.2.2) : ev_cal ev_ms x 280 2 := ev_cal_mk x_X8_copy rfl rfl (lw_m5 (List.mem_of_getElem? (i := 185) rfl)) (lw_m0 (List.mem_of_getElem? (i := 7) rfl)) nmh_RX8 pmd_12 hx (Nat.le_of_ble_eq_true rfl)
theorem cal_X8_keeps {x : ev_I} (hx : (ev_ms 281).2.2.2.2.2 + 1 ≤ x.2.2.2.2.2) : ev_cal ev_ms x 281 2 := ev_cal_mk x_X8_keeps rfl rfl (lw_m6 (List.mem_of_getElem? (i := 188) rfl)) (lw_m0 (List.mem_of_getElem? (i := 7) rfl)) nmh_RX8 pmd_24 hx (Nat.le_of_ble_eq_true rfl)
theorem cal_X8_lostNow {x : ev_I} (hx : (ev_ms 282).2.2.2.2.2 + 1 ≤ x.2.2.2.2.2) : ev_cal ev_ms x 282 1 := ev_cal_mk x_X8_lostNow rfl rfl (lw_m6 (List.mem_of_getElem? (i := 224) rfl)) (lw_m0 (List.mem_of_getElem? (i := 7) rfl)) nmh_RX8 pmd_4 hx (Nat.le_of_ble_eq_true rfl)
theorem cal_X8_missesNow {x : ev_I} (hx : (ev_ms 283).2.2.2.2.2 + 1 ≤ x.2.2.2.2.2) : ev_cal ev_ms x 283 1 := ev_cal_mk x_X8_missesNow rfl rfl (lw_m6 (List.mem_of_getElem? (i := 212) rfl)) (lw_m0 (List.mem_of_getElem? (i := 7) rfl)) nmh_RX8 pmd_4 hx (Nat.le_of_ble_eq_true rfl)
theorem cal_X8_takenNow {x : ev_I} (hx : (ev_ms 284).2.2.2.2.2 + 1 ≤ x.2.2.2.2.2) : ev_cal ev_ms x 284 2 := ev_cal_mk x_X8_takenNow rfl rfl (lw_m6 (List.mem_of_getElem? (i := 200) rfl)) (lw_m0 (List.mem_of_getElem? (i := 7) rfl)) nmh_RX8 pmd_12 hx (Nat.le_of_ble_eq_true rfl)
theorem cal_J5_append_cf1ce {x : ev_I} (hx : (ev_ms 285).2.2.2.2.2 + 1 ≤ x.2.2.2.2.2) : ev_cal ev_ms x 285 1 := ev_cal_mk x_J5_append_cf1ce rfl rfl (lw_m2 (List.mem_of_getElem? (i := 0) rfl)) (lw_m0 (List.mem_of_getElem? (i := 26) rfl)) nmh_RJ5 pmd_68 hx (Nat.le_of_ble_eq_true rfl)
theorem cal_X2_written {x : ev_I} (hx : (ev_ms 286).2.2.2.2.2 + 1 ≤ x.2.2.2.2.2) : ev_cal ev_ms x 286 1 := ev_cal_mk x_X2_written rfl rfl (lw_m0 (List.mem_of_getElem? (i := 231) rfl)) (lw_m0 (List.mem_of_getElem? (i := 3) rfl)) nmh_RX2 pmd_69 hx (Nat.le_of_ble_eq_true rfl)
theorem cal_X8_addAskings {x : ev_I} (hx : (ev_ms 287).2.2.2.2.2 + 1 ≤ x.2.2.2.2.2) : ev_cal ev_ms x 287 1 := ev_cal_mk x_X8_addAskings rfl rfl (lw_m7 (List.mem_of_getElem? (i := 22) rfl)) (lw_m0 (List.mem_of_getElem? (i := 7) rfl)) nmh_RX8 pmd_70 hx (Nat.le_of_ble_eq_true rfl)
theorem cal_X8_ask {x : ev_I} (hx : (ev_ms 288).2.2.2.2.2 + 1 ≤ x.2.2.2.2.2) : ev_cal ev_ms x 288 1 := ev_cal_mk x_X8_ask rfl rfl (lw_m6 (List.mem_of_getElem? (i := 94) rfl)) (lw_m0 (List.mem_of_getElem? (i := 7) rfl)) nmh_RX8 pmd_4 hx (Nat.le_of_ble_eq_true rfl)
theorem cal_X8_askRow {x : ev_I} (hx : (ev_ms 289).2.2.2.2.2 + 1 ≤ x.2.2.2.2.2) : ev_cal ev_ms x 289 3 := ev_cal_mk x_X8_askRow rfl rfl (lw_m6 (List.mem_of_getElem? (i := 143) rfl)) (lw_m0 (List.mem_of_getElem? (i := 7) rfl)) nmh_RX8 pmd_27 hx (Nat.le_of_ble_eq_true rfl)
theorem cal_X8_got {x : ev_I} (hx : (ev_ms 290).2.2.2.2.2 + 1 ≤ x.2.2.2.2.2) : ev_cal ev_ms x 290 3 := ev_cal_mk x_X8_got rfl rfl (lw_m5 (List.mem_of_getElem? (i := 161) rfl)) (lw_m0 (List.mem_of_getElem? (i := 7) rfl)) nmh_RX8 pmd_27 hx (Nat.le_of_ble_eq_true rfl)
theorem cal_X8_hits {x : ev_I} (hx : (ev_ms 291).2.2.2.2.2 + 1 ≤ x.2.2.2.2.2) : ev_cal ev_ms x 291 1 := ev_cal_mk x_X8_hits rfl rfl (lw_m6 (List.mem_of_getElem? (i := 216) rfl)) (lw_m0 (List.mem_of_getElem? (i := 7) rfl)) nmh_RX8 pmd_4 hx (Nat.le_of_ble_eq_true rfl)
theorem cal_X8_lost {x : ev_I} (hx : (ev_ms 292).2.2.2.2.2 + 1 ≤ x.2.2.2.2.2) : ev_cal ev_ms x 292 1 := ev_cal_mk x_X8_lost rfl rfl (lw_m6 (List.mem_of_getElem? (i := 220) rfl)) (lw_m0 (List.mem_of_getElem? (i := 7) rfl)) nmh_RX8 pmd_4 hx (Nat.le_of_ble_eq_true rfl)
theorem cal_X8_misses {x : ev_I} (hx : (ev_ms 293).2.2.2.2.2 + 1 ≤ x.2.2.2.2.2) : ev_cal ev_ms x 293 1 := ev_cal_mk x_X8_misses rfl rfl (lw_m6 (List.mem_of_getElem? (i := 208) rfl)) (lw_m0 (List.mem_of_getElem? (i := 7) rfl)) nmh_RX8 pmd_4 hx (Nat.le_of_ble_eq_true rfl)
theorem cal_X8_put {x : ev_I} (hx : (ev_ms 294).2.2.2.2.2 + 1 ≤ x.2.2.2.2.2) : ev_cal ev_ms x 294 3 := ev_cal_mk x_X8_put rfl rfl (lw_m5 (List.mem_of_getElem? (i := 61) rfl)) (lw_m0 (List.mem_of_getElem? (i := 7) rfl)) nmh_RX8 pmd_27 hx (Nat.le_of_ble_eq_true rfl)
theorem cal_X8_putIfAbsent {x : ev_I} (hx : (ev_ms 295).2.2.2.2.2 + 1 ≤ x.2.2.2.2.2) : ev_cal ev_ms x 295 3 := ev_cal_mk x_X8_putIfAbsent rfl rfl (lw_m5 (List.mem_of_getElem? (i := 149) rfl)) (lw_m0 (List.mem_of_getElem? (i := 7) rfl)) nmh_RX8 pmd_27 hx (Nat.le_of_ble_eq_true rfl)
theorem cal_X8_takenAt {x : ev_I} (hx : (ev_ms 296).2.2.2.2.2 + 1 ≤ x.2.2.2.2.2) : ev_cal ev_ms x 296 2 := ev_cal_mk x_X8_takenAt rfl rfl (lw_m6 (List.mem_of_getElem? (i := 196) rfl)) (lw_m0 (List.mem_of_getElem? (i := 7) rfl)) nmh_RX8 pmd_12 hx (Nat.le_of_ble_eq_true rfl)
theorem cal_X8_text {x : ev_I} (hx : (ev_ms 297).2.2.2.2.2 + 1 ≤ x.2.2.2.2.2) : ev_cal ev_ms x 297 2 := ev_cal_mk x_X8_text rfl rfl (lw_m6 (List.mem_of_getElem? (i := 31) rfl)) (lw_m0 (List.mem_of_getElem? (i := 7) rfl)) nmh_RX8 pmd_71 hx (Nat.le_of_ble_eq_true rfl)
theorem cal_J4_append_15ec4 {x : ev_I} (hx : (ev_ms 298).2.2.2.2.2 + 1 ≤ x.2.2.2.2.2) : ev_cal ev_ms x 298 1 := ev_cal_mk x_J4_append_15ec4 rfl rfl (lw_m1 (List.mem_of_getElem? (i := 237) rfl)) (lw_m0 (List.mem_of_getElem? (i := 27) rfl)) nmh_RJ4 pmd_72 hx (Nat.le_of_ble_eq_true rfl)
theorem cal_X5_kept {x : ev_I} (hx : (ev_ms 299).2.2.2.2.2 + 1 ≤ x.2.2.2.2.2) : ev_cal ev_ms x 299 1 := ev_cal_mk x_X5_kept rfl rfl (lw_m4 (List.mem_of_getElem? (i := 136) rfl)) (lw_m0 (List.mem_of_getElem? (i := 1) rfl)) nmh_RX5 pmd_69 hx (Nat.le_of_ble_eq_true rfl)
theorem cal_X5_stack {x : ev_I} (hx : (ev_ms 300).2.2.2.2.2 + 1 ≤ x.2.2.2.2.2) : ev_cal ev_ms x 300 0 := ev_cal_mk x_X5_stack rfl rfl (lw_m0 (List.mem_of_getElem? (i := 227) rfl)) (lw_m0 (List.mem_of_getElem? (i := 1) rfl)) nmh_RX5 pmd_66 hx (Nat.le_of_ble_eq_true rfl)
theorem cal_X5_text {x : ev_I} (hx : (ev_ms 301).2.2.2.2.2 + 1 ≤ x.2.2.2.2.2) : ev_cal ev_ms x 301 2 := ev_cal_mk x_X5_text rfl rfl (lw_m4 (List.mem_of_getElem? (i := 8) rfl)) (lw_m0 (List.mem_of_getElem? (i := 1) rfl)) nmh_RX5 pmd_71 hx (Nat.le_of_ble_eq_true rfl)
theorem cal_X8_digest {x : ev_I} (hx : (ev_ms 302).2.2.2.2.2 + 1 ≤ x.2.2.2.2.2) : ev_cal ev_ms x 302 0 := ev_cal_mk x_X8_digest rfl rfl (lw_m7 (List.mem_of_getElem? (i := 16) rfl)) (lw_m0 (List.mem_of_getElem? (i := 7) rfl)) nmh_RX8 pmd_56 hx (Nat.le_of_ble_eq_true rfl)
theorem cal_X8_get {x : ev_I} (hx : (ev_ms 303).2.2.2.2.2 + 1 ≤ x.2.2.2.2.2) : ev_cal ev_ms x 303 2 := ev_cal_mk x_X8_get rfl rfl (lw_m5 (List.mem_of_getElem? (i := 153) rfl)) (lw_m0 (List.mem_of_getElem? (i := 7) rfl)) nmh_RX8 pmd_12 hx (Nat.le_of_ble_eq_true rfl)
theorem cal_X8_getOr {x : ev_I} (hx : (ev_ms 304).2.2.2.2.2 + 1 ≤ x.2.2.2.2.2) : ev_cal ev_ms x 304 3 := ev_cal_mk x_X8_getOr rfl rfl (lw_m5 (List.mem_of_getElem? (i := 165) rfl)) (lw_m0 (List.mem_of_getElem? (i := 7) rfl)) nmh_RX8 pmd_27 hx (Nat.le_of_ble_eq_true rfl)
theorem cal_L_kept {x : ev_I} (hx : (ev_ms 305).2.2.2.2.2 + 1 ≤ x.2.2.2.2.2) : ev_calW ev_ms x 305 3 := ev_calW_mk x_L_kept rfl (fun e => by cases e) (lw_m4 (List.mem_of_getElem? (i := 132) rfl)) (lw_m0 (List.mem_of_getElem? (i := 0) rfl)) nmh_RL pmd_43 hx (Nat.le_of_ble_eq_true rfl)
theorem cal_L_text {x : ev_I} (hx : (ev_ms 306).2.2.2.2.2 + 1 ≤ x.2.2.2.2.2) : ev_calW ev_ms x 306 4 := ev_calW_mk x_L_text rfl (fun e => by cases e) (lw_m4 (List.mem_of_getElem? (i := 4) rfl)) (lw_m0 (List.mem_of_getElem? (i := 0) rfl)) nmh_RL pmd_44 hx (Nat.le_of_ble_eq_true rfl)
theorem cal_X8_keys {x : ev_I} (hx : (ev_ms 307).2.2.2.2.2 + 1 ≤ x.2.2.2.2.2) : ev_cal ev_ms x 307 1 := ev_cal_mk x_X8_keys rfl rfl (lw_m6 (List.mem_of_getElem? (i := 171) rfl)) (lw_m0 (List.mem_of_getElem? (i := 7) rfl)) nmh_RX8 pmd_69 hx (Nat.le_of_ble_eq_true rfl)
theorem cal_X8_kept {x : ev_I} (hx : (ev_ms 308).2.2.2.2.2 + 1 ≤ x.2.2.2.2.2) : ev_cal ev_ms x 308 1 := ev_cal_mk x_X8_kept rfl rfl (lw_m6 (List.mem_of_getElem? (i := 181) rfl)) (lw_m0 (List.mem_of_getElem? (i := 7) rfl)) nmh_RX8 pmd_69 hx (Nat.le_of_ble_eq_true rfl)
theorem cal_X8_stack {x : ev_I} (hx : (ev_ms 309).2.2.2.2.2 + 1 ≤ x.2.2.2.2.2) : ev_cal ev_ms x 309 0 := ev_cal_mk x_X8_stack rfl rfl (lw_m6 (List.mem_of_getElem? (i := 167) rfl)) (lw_m0 (List.mem_of_getElem? (i := 7) rfl)) nmh_RX8 pmd_66 hx (Nat.le_of_ble_eq_true rfl)
theorem ta_RX5_62_1_a : ∀ w ∈ vx_atS RX5 62 "java/lang/IllegalArgumentException" ["java/lang/RuntimeException", "java/lang/Exception"], w ∈ lw_tbl ∧ ev_gd w = true := by decide +kernel
theorem ta_RX5_62_1_b : ∀ w ∈ Cond.initialized "java/lang/IllegalArgumentException" :: vx_atS RX5 62 "java/lang/IllegalArgumentException" ["java/lang/RuntimeException", "java/lang/Exception"], vx_ot w = true := by decide +kernel
theorem ta_RX5_62_1 {i : Nat} : (∀ w ∈ vx_atS RX5 62 "java/lang/IllegalArgumentException" ["java/lang/RuntimeException", "java/lang/Exception"], w ∈ lw_tbl ∧ ev_gd w = true) ∧ ∀ w ∈ Cond.classLink RX5 i "java/lang/IllegalArgumentException" :: Cond.initialized "java/lang/IllegalArgumentException" :: vx_atS RX5 62 "java/lang/IllegalArgumentException" ["java/lang/RuntimeException", "java/lang/Exception"], vx_ot w = true := ⟨ta_RX5_62_1_a, fun w h => (List.mem_cons.mp h).elim (fun e => by rw [e]; rfl) (fun h => ta_RX5_62_1_b w h)⟩
theorem ta_RX5_98_2_a : ∀ w ∈ vx_atS RX5 98 "java/lang/IllegalStateException" ["java/lang/RuntimeException", "java/lang/Exception"], w ∈ lw_tbl ∧ ev_gd w = true := by decide +kernel
theorem ta_RX5_98_2_b : ∀ w ∈ Cond.initialized "java/lang/IllegalStateException" :: vx_atS RX5 98 "java/lang/IllegalStateException" ["java/lang/RuntimeException", "java/lang/Exception"], vx_ot w = true := by decide +kernel
theorem ta_RX5_98_2 {i : Nat} : (∀ w ∈ vx_atS RX5 98 "java/lang/IllegalStateException" ["java/lang/RuntimeException", "java/lang/Exception"], w ∈ lw_tbl ∧ ev_gd w = true) ∧ ∀ w ∈ Cond.classLink RX5 i "java/lang/IllegalStateException" :: Cond.initialized "java/lang/IllegalStateException" :: vx_atS RX5 98 "java/lang/IllegalStateException" ["java/lang/RuntimeException", "java/lang/Exception"], vx_ot w = true := ⟨ta_RX5_98_2_a, fun w h => (List.mem_cons.mp h).elim (fun e => by rw [e]; rfl) (fun h => ta_RX5_98_2_b w h)⟩
theorem ta_RX5_306_0_a : ∀ w ∈ vx_atS RX5 306 "java/lang/IndexOutOfBoundsException" ["java/lang/RuntimeException", "java/lang/Exception"], w ∈ lw_tbl ∧ ev_gd w = true := by decide +kernel
theorem ta_RX5_306_0_b : ∀ w ∈ Cond.initialized "java/lang/IndexOutOfBoundsException" :: vx_atS RX5 306 "java/lang/IndexOutOfBoundsException" ["java/lang/RuntimeException", "java/lang/Exception"], vx_ot w = true := by decide +kernel
theorem ta_RX5_306_0 {i : Nat} : (∀ w ∈ vx_atS RX5 306 "java/lang/IndexOutOfBoundsException" ["java/lang/RuntimeException", "java/lang/Exception"], w ∈ lw_tbl ∧ ev_gd w = true) ∧ ∀ w ∈ Cond.classLink RX5 i "java/lang/IndexOutOfBoundsException" :: Cond.initialized "java/lang/IndexOutOfBoundsException" :: vx_atS RX5 306 "java/lang/IndexOutOfBoundsException" ["java/lang/RuntimeException", "java/lang/Exception"], vx_ot w = true := ⟨ta_RX5_306_0_a, fun w h => (List.mem_cons.mp h).elim (fun e => by rw [e]; rfl) (fun h => ta_RX5_306_0_b w h)⟩
theorem str_RX5_60 {X : ev_E} (hG : ev_Good X) : ∃ sa, vk_R RX5 60 "most is not NONE and not 1 to 12" sa X.1 := hG.2.2.2.2.2.2.2.1 _ _ _ (lw_m3 (List.mem_of_getElem? (i := 59) rfl))
theorem str_RX5_96 {X : ev_E} (hG : ev_Good X) : ∃ sa, vk_R RX5 96 "the table has a most" sa X.1 := hG.2.2.2.2.2.2.2.1 _ _ _ (lw_m3 (List.mem_of_getElem? (i := 118) rfl))
theorem str_RX5_155 {X : ev_E} (hG : ev_Good X) : ∃ sa, vk_R RX5 155 "what is not 0 to 4" sa X.1 := hG.2.2.2.2.2.2.2.1 _ _ _ (lw_m2 (List.mem_of_getElem? (i := 163) rfl))
theorem str_RX5_188 {X : ev_E} (hG : ev_Good X) : ∃ sa, vk_R RX5 188 "step is not 0 to 19" sa X.1 := hG.2.2.2.2.2.2.2.1 _ _ _ (lw_m4 (List.mem_of_getElem? (i := 121) rfl))
theorem str_RX5_190 {X : ev_E} (hG : ev_Good X) : ∃ sa, vk_R RX5 190 "many is not 1 to 12" sa X.1 := hG.2.2.2.2.2.2.2.1 _ _ _ (lw_m4 (List.mem_of_getElem? (i := 122) rfl))
theorem str_RX5_304 {X : ev_E} (hG : ev_Good X) : ∃ sa, vk_R RX5 304 "there is no such table" sa X.1 := hG.2.2.2.2.2.2.2.1 _ _ _ (lw_m2 (List.mem_of_getElem? (i := 190) rfl))
theorem str_RX5_307 {X : ev_E} (hG : ev_Good X) : ∃ sa, vk_R RX5 307 "size is not 1 to 6" sa X.1 := hG.2.2.2.2.2.2.2.1 _ _ _ (lw_m3 (List.mem_of_getElem? (i := 15) rfl))
theorem str_RX5_309 {X : ev_E} (hG : ev_Good X) : ∃ sa, vk_R RX5 309 "key is not 0 to 19" sa X.1 := hG.2.2.2.2.2.2.2.1 _ _ _ (lw_m3 (List.mem_of_getElem? (i := 31) rfl))
theorem str_RX5_311 {X : ev_E} (hG : ev_Good X) : ∃ sa, vk_R RX5 311 "value is not 0 to 99" sa X.1 := hG.2.2.2.2.2.2.2.1 _ _ _ (lw_m3 (List.mem_of_getElem? (i := 74) rfl))
theorem str_RX5_313 {X : ev_E} (hG : ev_Good X) : ∃ sa, vk_R RX5 313 "what is not 0 to 2" sa X.1 := hG.2.2.2.2.2.2.2.1 _ _ _ (lw_m4 (List.mem_of_getElem? (i := 12) rfl))
theorem str_RX5_315 {X : ev_E} (hG : ev_Good X) : ∃ sa, vk_R RX5 315 "there would be more than 60 askings" sa X.1 := hG.2.2.2.2.2.2.2.1 _ _ _ (lw_m4 (List.mem_of_getElem? (i := 88) rfl))
