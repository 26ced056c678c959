/-! ===== decode rows that are named ===== -/
theorem dX0_init_7 : decode cX0_init 7 = .ok (.newarray .int, 2) := by decide +kernel
theorem dX0_init_15 : decode cX0_init 15 = .ok (.newarray .int, 2) := by decide +kernel
theorem dX0_init_23 : decode cX0_init 23 = .ok (.newarray .int, 2) := by decide +kernel
theorem dX0_init_31 : decode cX0_init 31 = .ok (.newarray .int, 2) := by decide +kernel
theorem dX0_init_39 : decode cX0_init 39 = .ok (.newarray .int, 2) := by decide +kernel
theorem dX2_init_7 : decode cX2_init 7 = .ok (.newarray .int, 2) := by decide +kernel
theorem dX2_init_15 : decode cX2_init 15 = .ok (.newarray .int, 2) := by decide +kernel
theorem dX5_init_48 : decode cX5_init 48 = .ok (.newarray .int, 2) := by decide +kernel
theorem dX5_make_23 : decode cX5_make 23 = .ok (.new 58, 3) := by decide +kernel
theorem dX5_make_26 : decode cX5_make 26 = .ok (.dup, 1) := by decide +kernel
theorem dX5_make_27 : decode cX5_make 27 = .ok (.ldc 60, 2) := by decide +kernel
theorem dX5_make_29 : decode cX5_make 29 = .ok (.invokespecial 62, 3) := by decide +kernel
theorem dX5_make_32 : decode cX5_make 32 = .ok (.athrow, 1) := by decide +kernel
theorem dX5_putIfAbsent_27 : decode cX5_putIfAbsent 27 = .ok (.new 94, 3) := by decide +kernel
theorem dX5_putIfAbsent_30 : decode cX5_putIfAbsent 30 = .ok (.dup, 1) := by decide +kernel
theorem dX5_putIfAbsent_31 : decode cX5_putIfAbsent 31 = .ok (.ldc 96, 2) := by decide +kernel
theorem dX5_putIfAbsent_33 : decode cX5_putIfAbsent 33 = .ok (.invokespecial 98, 3) := by decide +kernel
theorem dX5_putIfAbsent_36 : decode cX5_putIfAbsent 36 = .ok (.athrow, 1) := by decide +kernel
theorem dX5_ofTable_10 : decode cX5_ofTable 10 = .ok (.tableswitch 67 0 4 #[34, 47, 52, 57, 62], 34) := by decide +kernel
theorem dX5_ofTable_77 : decode cX5_ofTable 77 = .ok (.new 58, 3) := by decide +kernel
theorem dX5_ofTable_80 : decode cX5_ofTable 80 = .ok (.dup, 1) := by decide +kernel
theorem dX5_ofTable_81 : decode cX5_ofTable 81 = .ok (.ldc 155, 2) := by decide +kernel
theorem dX5_ofTable_83 : decode cX5_ofTable 83 = .ok (.invokespecial 62, 3) := by decide +kernel
theorem dX5_ofTable_86 : decode cX5_ofTable 86 = .ok (.athrow, 1) := by decide +kernel
theorem dX5_askRow_14 : decode cX5_askRow 14 = .ok (.new 58, 3) := by decide +kernel
theorem dX5_askRow_17 : decode cX5_askRow 17 = .ok (.dup, 1) := by decide +kernel
theorem dX5_askRow_18 : decode cX5_askRow 18 = .ok (.ldc 188, 2) := by decide +kernel
theorem dX5_askRow_20 : decode cX5_askRow 20 = .ok (.invokespecial 62, 3) := by decide +kernel
theorem dX5_askRow_23 : decode cX5_askRow 23 = .ok (.athrow, 1) := by decide +kernel
theorem dX5_askRow_35 : decode cX5_askRow 35 = .ok (.new 58, 3) := by decide +kernel
theorem dX5_askRow_38 : decode cX5_askRow 38 = .ok (.dup, 1) := by decide +kernel
theorem dX5_askRow_39 : decode cX5_askRow 39 = .ok (.ldc 190, 2) := by decide +kernel
theorem dX5_askRow_41 : decode cX5_askRow 41 = .ok (.invokespecial 62, 3) := by decide +kernel
theorem dX5_askRow_44 : decode cX5_askRow 44 = .ok (.athrow, 1) := by decide +kernel
theorem dX5_house_1 : decode cX5_house 1 = .ok (.tableswitch 66 0 4 #[35, 40, 48, 56, 61], 35) := by decide +kernel
theorem dX5_house_67 : decode cX5_house 67 = .ok (.new 58, 3) := by decide +kernel
theorem dX5_house_70 : decode cX5_house 70 = .ok (.dup, 1) := by decide +kernel
theorem dX5_house_71 : decode cX5_house 71 = .ok (.ldc 155, 2) := by decide +kernel
theorem dX5_house_73 : decode cX5_house 73 = .ok (.invokespecial 62, 3) := by decide +kernel
theorem dX5_house_76 : decode cX5_house 76 = .ok (.athrow, 1) := by decide +kernel
theorem dX5_tableOf_9 : decode cX5_tableOf 9 = .ok (.new 302, 3) := by decide +kernel
theorem dX5_tableOf_12 : decode cX5_tableOf 12 = .ok (.dup, 1) := by decide +kernel
theorem dX5_tableOf_13 : decode cX5_tableOf 13 = .ok (.ldc_w 304, 3) := by decide +kernel
theorem dX5_tableOf_16 : decode cX5_tableOf 16 = .ok (.invokespecial 306, 3) := by decide +kernel
theorem dX5_tableOf_19 : decode cX5_tableOf 19 = .ok (.athrow, 1) := by decide +kernel
theorem dX5_demandSize_11 : decode cX5_demandSize 11 = .ok (.new 58, 3) := by decide +kernel
theorem dX5_demandSize_14 : decode cX5_demandSize 14 = .ok (.dup, 1) := by decide +kernel
theorem dX5_demandSize_15 : decode cX5_demandSize 15 = .ok (.ldc_w 307, 3) := by decide +kernel
theorem dX5_demandSize_18 : decode cX5_demandSize 18 = .ok (.invokespecial 62, 3) := by decide +kernel
theorem dX5_demandSize_21 : decode cX5_demandSize 21 = .ok (.athrow, 1) := by decide +kernel
theorem dX5_demandKey_10 : decode cX5_demandKey 10 = .ok (.new 58, 3) := by decide +kernel
theorem dX5_demandKey_13 : decode cX5_demandKey 13 = .ok (.dup, 1) := by decide +kernel
theorem dX5_demandKey_14 : decode cX5_demandKey 14 = .ok (.ldc_w 309, 3) := by decide +kernel
theorem dX5_demandKey_17 : decode cX5_demandKey 17 = .ok (.invokespecial 62, 3) := by decide +kernel
theorem dX5_demandKey_20 : decode cX5_demandKey 20 = .ok (.athrow, 1) := by decide +kernel
theorem dX5_demandValue_10 : decode cX5_demandValue 10 = .ok (.new 58, 3) := by decide +kernel
theorem dX5_demandValue_13 : decode cX5_demandValue 13 = .ok (.dup, 1) := by decide +kernel
theorem dX5_demandValue_14 : decode cX5_demandValue 14 = .ok (.ldc_w 311, 3) := by decide +kernel
theorem dX5_demandValue_17 : decode cX5_demandValue 17 = .ok (.invokespecial 62, 3) := by decide +kernel
theorem dX5_demandValue_20 : decode cX5_demandValue 20 = .ok (.athrow, 1) := by decide +kernel
theorem dX5_demandKindOfWalk_9 : decode cX5_demandKindOfWalk 9 = .ok (.new 58, 3) := by decide +kernel
theorem dX5_demandKindOfWalk_12 : decode cX5_demandKindOfWalk 12 = .ok (.dup, 1) := by decide +kernel
theorem dX5_demandKindOfWalk_13 : decode cX5_demandKindOfWalk 13 = .ok (.ldc_w 313, 3) := by decide +kernel
theorem dX5_demandKindOfWalk_16 : decode cX5_demandKindOfWalk 16 = .ok (.invokespecial 62, 3) := by decide +kernel
theorem dX5_demandKindOfWalk_19 : decode cX5_demandKindOfWalk 19 = .ok (.athrow, 1) := by decide +kernel
theorem dX5_demandRoomFor_14 : decode cX5_demandRoomFor 14 = .ok (.new 94, 3) := by decide +kernel
theorem dX5_demandRoomFor_17 : decode cX5_demandRoomFor 17 = .ok (.dup, 1) := by decide +kernel
theorem dX5_demandRoomFor_18 : decode cX5_demandRoomFor 18 = .ok (.ldc_w 315, 3) := by decide +kernel
theorem dX5_demandRoomFor_21 : decode cX5_demandRoomFor 21 = .ok (.invokespecial 98, 3) := by decide +kernel
theorem dX5_demandRoomFor_24 : decode cX5_demandRoomFor 24 = .ok (.athrow, 1) := by decide +kernel
theorem dX8_put_114 : decode cX8_put 114 = .ok (.newarray .int, 2) := by decide +kernel
theorem dX8_putIfAbsent_95 : decode cX8_putIfAbsent 95 = .ok (.newarray .int, 2) := by decide +kernel
theorem dX8_copy_54 : decode cX8_copy 54 = .ok (.invokeinterface 104 1, 5) := by decide +kernel
theorem dX8_copy_64 : decode cX8_copy 64 = .ok (.invokeinterface 110 1, 5) := by decide +kernel
theorem dX8_copy_76 : decode cX8_copy 76 = .ok (.newarray .int, 2) := by decide +kernel
theorem dX8_copy_123 : decode cX8_copy 123 = .ok (.invokeinterface 104 1, 5) := by decide +kernel
theorem dX8_copy_133 : decode cX8_copy 133 = .ok (.invokeinterface 110 1, 5) := by decide +kernel
theorem dX8_text_44 : decode cX8_text 44 = .ok (.invokeinterface 104 1, 5) := by decide +kernel
theorem dX8_text_54 : decode cX8_text 54 = .ok (.invokeinterface 110 1, 5) := by decide +kernel
theorem dX8_tableNow_21 : decode cX8_tableNow 21 = .ok (.invokeinterface 104 1, 5) := by decide +kernel
theorem dX8_tableNow_31 : decode cX8_tableNow 31 = .ok (.invokeinterface 110 1, 5) := by decide +kernel
theorem dX8_tableNow_54 : decode cX8_tableNow 54 = .ok (.newarray .int, 2) := by decide +kernel
theorem dX8_bestNow_2 : decode cX8_bestNow 2 = .ok (.newarray .int, 2) := by decide +kernel
theorem dX8_houseNow_45 : decode cX8_houseNow 45 = .ok (.newarray .int, 2) := by decide +kernel
theorem dJ5_init_d00df_12 : decode cJ5_init_d00df 12 = .ok (.newarray .byte, 2) := by decide +kernel
theorem dJ2_newBytesFor_77867_4 : decode cJ2_newBytesFor_77867 4 = .ok (.newarray .byte, 2) := by decide +kernel
theorem dJ2_compress_39247_1 : decode cJ2_compress_39247 1 = .ok (.newarray .byte, 2) := by decide +kernel
theorem dJ7_copyOf_9075b_15 : decode cJ7_copyOf_9075b 15 = .ok (.newarray .byte, 2) := by decide +kernel
theorem dJ7_copyOfRangeByte_39247_10 : decode cJ7_copyOfRangeByte_39247 10 = .ok (.newarray .byte, 2) := by decide +kernel
theorem dL_make_16 : decode cL_make 16 = .ok (.astore 5, 2) := by decide +kernel
theorem dL_make_20 : decode cL_make 20 = .ok (.astore 5, 2) := by decide +kernel
theorem dL_put_16 : decode cL_put 16 = .ok (.astore 5, 2) := by decide +kernel
theorem dL_put_20 : decode cL_put 20 = .ok (.astore 5, 2) := by decide +kernel
theorem dL_putIfAbsent_16 : decode cL_putIfAbsent 16 = .ok (.astore 5, 2) := by decide +kernel
theorem dL_putIfAbsent_20 : decode cL_putIfAbsent 20 = .ok (.astore 5, 2) := by decide +kernel
theorem dL_putIfAbsent_24 : decode cL_putIfAbsent 24 = .ok (.astore 5, 2) := by decide +kernel
theorem dL_get_14 : decode cL_get 14 = .ok (.astore 4, 2) := by decide +kernel
theorem dL_get_18 : decode cL_get 18 = .ok (.astore 4, 2) := by decide +kernel
theorem dL_getOr_16 : decode cL_getOr 16 = .ok (.astore 5, 2) := by decide +kernel
theorem dL_getOr_20 : decode cL_getOr 20 = .ok (.astore 5, 2) := by decide +kernel
theorem dL_remove_14 : decode cL_remove 14 = .ok (.astore 4, 2) := by decide +kernel
theorem dL_remove_18 : decode cL_remove 18 = .ok (.astore 4, 2) := by decide +kernel
theorem dL_clear_13 : decode cL_clear 13 = .ok (.astore_n 3, 1) := by decide +kernel
theorem dL_set_16 : decode cL_set 16 = .ok (.astore 5, 2) := by decide +kernel
theorem dL_set_20 : decode cL_set 20 = .ok (.astore 5, 2) := by decide +kernel
theorem dL_copy_14 : decode cL_copy 14 = .ok (.astore 4, 2) := by decide +kernel
theorem dL_has_21 : decode cL_has 21 = .ok (.astore 4, 2) := by decide +kernel
theorem dL_has_25 : decode cL_has 25 = .ok (.astore 4, 2) := by decide +kernel
theorem dL_size_13 : decode cL_size 13 = .ok (.astore_n 3, 1) := by decide +kernel
theorem dL_keyAt_14 : decode cL_keyAt 14 = .ok (.astore 4, 2) := by decide +kernel
theorem dL_valueAt_14 : decode cL_valueAt 14 = .ok (.astore 4, 2) := by decide +kernel
theorem dL_pairAt_14 : decode cL_pairAt 14 = .ok (.astore 4, 2) := by decide +kernel
theorem dL_placeOf_14 : decode cL_placeOf 14 = .ok (.astore 4, 2) := by decide +kernel
theorem dL_placeOf_18 : decode cL_placeOf 18 = .ok (.astore 4, 2) := by decide +kernel
theorem dL_eldest_13 : decode cL_eldest 13 = .ok (.astore_n 3, 1) := by decide +kernel
theorem dL_latest_13 : decode cL_latest 13 = .ok (.astore_n 3, 1) := by decide +kernel
theorem dL_text_13 : decode cL_text 13 = .ok (.astore 4, 2) := by decide +kernel
theorem dL_text_17 : decode cL_text 17 = .ok (.astore 4, 2) := by decide +kernel
theorem dL_ofTable_14 : decode cL_ofTable 14 = .ok (.astore 4, 2) := by decide +kernel
theorem dL_ofTable_18 : decode cL_ofTable 18 = .ok (.astore 4, 2) := by decide +kernel
theorem dL_walk_14 : decode cL_walk 14 = .ok (.astore 4, 2) := by decide +kernel
theorem dL_walk_18 : decode cL_walk 18 = .ok (.astore 4, 2) := by decide +kernel
theorem dL_step_13 : decode cL_step 13 = .ok (.astore_n 3, 1) := by decide +kernel
theorem dL_cut_13 : decode cL_cut 13 = .ok (.astore_n 3, 1) := by decide +kernel
theorem dL_hasMore_20 : decode cL_hasMore 20 = .ok (.astore_n 3, 1) := by decide +kernel
theorem dL_isStale_20 : decode cL_isStale 20 = .ok (.astore_n 3, 1) := by decide +kernel
theorem dL_rest_13 : decode cL_rest 13 = .ok (.astore_n 3, 1) := by decide +kernel
theorem dL_ask_13 : decode cL_ask 13 = .ok (.astore_n 3, 1) := by decide +kernel
theorem dL_ask_16 : decode cL_ask 16 = .ok (.astore_n 3, 1) := by decide +kernel
theorem dL_askRow_16 : decode cL_askRow 16 = .ok (.astore 5, 2) := by decide +kernel
theorem dL_askRow_20 : decode cL_askRow 20 = .ok (.astore 5, 2) := by decide +kernel
theorem dL_depth_13 : decode cL_depth 13 = .ok (.astore_n 3, 1) := by decide +kernel
theorem dL_kept_12 : decode cL_kept 12 = .ok (.astore_n 3, 1) := by decide +kernel
theorem dL_keeps_21 : decode cL_keeps 21 = .ok (.astore 4, 2) := by decide +kernel
theorem dL_takenAt_14 : decode cL_takenAt 14 = .ok (.astore 4, 2) := by decide +kernel
theorem dL_misses_13 : decode cL_misses 13 = .ok (.astore_n 3, 1) := by decide +kernel
theorem dL_hits_13 : decode cL_hits 13 = .ok (.astore_n 3, 1) := by decide +kernel
theorem dL_lost_13 : decode cL_lost 13 = .ok (.astore_n 3, 1) := by decide +kernel
theorem dL_best_13 : decode cL_best 13 = .ok (.astore_n 3, 1) := by decide +kernel
theorem dL_house_13 : decode cL_house 13 = .ok (.astore_n 3, 1) := by decide +kernel
theorem dL_law_43 : decode cL_law 43 = .ok (.tableswitch 1699 0 44 #[193, 261, 313, 365, 405, 457, 497, 525, 577, 617, 657, 685, 725, 794, 834, 874, 902, 930, 970, 1010, 1050, 1078, 1106, 1134, 1162, 1190, 1218, 1270, 1283, 1296, 1321, 1346, 1374, 1387, 1415, 1455, 1495, 1523, 1551, 1579, 1604, 1632, 1660, 1673, 1686], 193) := by decide +kernel
