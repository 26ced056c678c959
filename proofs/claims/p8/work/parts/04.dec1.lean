theorem dX5_tableOf_20 : decode cX5_tableOf 20 = .ok (.aload_n 0, 1) := by decide +kernel
theorem dX5_tableOf_21 : decode cX5_tableOf 21 = .ok (.getfield 11, 3) := by decide +kernel
theorem dX5_tableOf_24 : decode cX5_tableOf 24 = .ok (.iload_n 1, 1) := by decide +kernel
theorem dX5_tableOf_25 : decode cX5_tableOf 25 = .ok (.aaload, 1) := by decide +kernel
theorem dX5_tableOf_26 : decode cX5_tableOf 26 = .ok (.areturn, 1) := by decide +kernel
theorem dX5_keeperOf_0 : decode cX5_keeperOf 0 = .ok (.iload_n 1, 1) := by decide +kernel
theorem dX5_keeperOf_1 : decode cX5_keeperOf 1 = .ok (.invokestatic 222, 3) := by decide +kernel
theorem dX5_keeperOf_4 : decode cX5_keeperOf 4 = .ok (.aload_n 0, 1) := by decide +kernel
theorem dX5_keeperOf_5 : decode cX5_keeperOf 5 = .ok (.getfield 33, 3) := by decide +kernel
theorem dX5_keeperOf_8 : decode cX5_keeperOf 8 = .ok (.iload_n 1, 1) := by decide +kernel
theorem dX5_keeperOf_9 : decode cX5_keeperOf 9 = .ok (.iconst 1, 1) := by decide +kernel
theorem dX5_keeperOf_10 : decode cX5_keeperOf 10 = .ok (.isub, 1) := by decide +kernel
theorem dX5_keeperOf_11 : decode cX5_keeperOf 11 = .ok (.aaload, 1) := by decide +kernel
theorem dX5_keeperOf_12 : decode cX5_keeperOf 12 = .ok (.areturn, 1) := by decide +kernel
theorem dX5_demandSize_0 : decode cX5_demandSize 0 = .ok (.iload_n 0, 1) := by decide +kernel
theorem dX5_demandSize_1 : decode cX5_demandSize 1 = .ok (.iconst 1, 1) := by decide +kernel
theorem dX5_demandSize_2 : decode cX5_demandSize 2 = .ok (.if_icmp .lt 9, 3) := by decide +kernel
theorem dX5_demandSize_5 : decode cX5_demandSize 5 = .ok (.iload_n 0, 1) := by decide +kernel
theorem dX5_demandSize_6 : decode cX5_demandSize 6 = .ok (.bipush 6, 2) := by decide +kernel
theorem dX5_demandSize_8 : decode cX5_demandSize 8 = .ok (.if_icmp .le 14, 3) := by decide +kernel
theorem dX5_demandSize_11 : decode cX5_demandSize 11 = .ok (.new 58, 3) := by decide +kernel
theorem dX5_demandSize_14 : decode cX5_demandSize 14 = .ok (.dup, 1) := by decide +kernel
theorem dX5_demandSize_15 : decode cX5_demandSize 15 = .ok (.ldc_w 307, 3) := by decide +kernel
theorem dX5_demandSize_18 : decode cX5_demandSize 18 = .ok (.invokespecial 62, 3) := by decide +kernel
theorem dX5_demandSize_21 : decode cX5_demandSize 21 = .ok (.athrow, 1) := by decide +kernel
theorem dX5_demandSize_22 : decode cX5_demandSize 22 = .ok (.return_, 1) := by decide +kernel
theorem dX5_demandKey_0 : decode cX5_demandKey 0 = .ok (.iload_n 0, 1) := by decide +kernel
theorem dX5_demandKey_1 : decode cX5_demandKey 1 = .ok (.ifCond .lt 9, 3) := by decide +kernel
theorem dX5_demandKey_4 : decode cX5_demandKey 4 = .ok (.iload_n 0, 1) := by decide +kernel
theorem dX5_demandKey_5 : decode cX5_demandKey 5 = .ok (.bipush 20, 2) := by decide +kernel
theorem dX5_demandKey_7 : decode cX5_demandKey 7 = .ok (.if_icmp .lt 14, 3) := by decide +kernel
theorem dX5_demandKey_10 : decode cX5_demandKey 10 = .ok (.new 58, 3) := by decide +kernel
theorem dX5_demandKey_13 : decode cX5_demandKey 13 = .ok (.dup, 1) := by decide +kernel
theorem dX5_demandKey_14 : decode cX5_demandKey 14 = .ok (.ldc_w 309, 3) := by decide +kernel
theorem dX5_demandKey_17 : decode cX5_demandKey 17 = .ok (.invokespecial 62, 3) := by decide +kernel
theorem dX5_demandKey_20 : decode cX5_demandKey 20 = .ok (.athrow, 1) := by decide +kernel
theorem dX5_demandKey_21 : decode cX5_demandKey 21 = .ok (.return_, 1) := by decide +kernel
theorem dX5_demandValue_0 : decode cX5_demandValue 0 = .ok (.iload_n 0, 1) := by decide +kernel
theorem dX5_demandValue_1 : decode cX5_demandValue 1 = .ok (.ifCond .lt 9, 3) := by decide +kernel
theorem dX5_demandValue_4 : decode cX5_demandValue 4 = .ok (.iload_n 0, 1) := by decide +kernel
theorem dX5_demandValue_5 : decode cX5_demandValue 5 = .ok (.bipush 100, 2) := by decide +kernel
theorem dX5_demandValue_7 : decode cX5_demandValue 7 = .ok (.if_icmp .lt 14, 3) := by decide +kernel
theorem dX5_demandValue_10 : decode cX5_demandValue 10 = .ok (.new 58, 3) := by decide +kernel
theorem dX5_demandValue_13 : decode cX5_demandValue 13 = .ok (.dup, 1) := by decide +kernel
theorem dX5_demandValue_14 : decode cX5_demandValue 14 = .ok (.ldc_w 311, 3) := by decide +kernel
theorem dX5_demandValue_17 : decode cX5_demandValue 17 = .ok (.invokespecial 62, 3) := by decide +kernel
theorem dX5_demandValue_20 : decode cX5_demandValue 20 = .ok (.athrow, 1) := by decide +kernel
theorem dX5_demandValue_21 : decode cX5_demandValue 21 = .ok (.return_, 1) := by decide +kernel
theorem dX5_demandKindOfWalk_0 : decode cX5_demandKindOfWalk 0 = .ok (.iload_n 0, 1) := by decide +kernel
theorem dX5_demandKindOfWalk_1 : decode cX5_demandKindOfWalk 1 = .ok (.ifCond .lt 8, 3) := by decide +kernel
theorem dX5_demandKindOfWalk_4 : decode cX5_demandKindOfWalk 4 = .ok (.iload_n 0, 1) := by decide +kernel
theorem dX5_demandKindOfWalk_5 : decode cX5_demandKindOfWalk 5 = .ok (.iconst 2, 1) := by decide +kernel
theorem dX5_demandKindOfWalk_6 : decode cX5_demandKindOfWalk 6 = .ok (.if_icmp .le 14, 3) := by decide +kernel
theorem dX5_demandKindOfWalk_9 : decode cX5_demandKindOfWalk 9 = .ok (.new 58, 3) := by decide +kernel
theorem dX5_demandKindOfWalk_12 : decode cX5_demandKindOfWalk 12 = .ok (.dup, 1) := by decide +kernel
theorem dX5_demandKindOfWalk_13 : decode cX5_demandKindOfWalk 13 = .ok (.ldc_w 313, 3) := by decide +kernel
theorem dX5_demandKindOfWalk_16 : decode cX5_demandKindOfWalk 16 = .ok (.invokespecial 62, 3) := by decide +kernel
theorem dX5_demandKindOfWalk_19 : decode cX5_demandKindOfWalk 19 = .ok (.athrow, 1) := by decide +kernel
theorem dX5_demandKindOfWalk_20 : decode cX5_demandKindOfWalk 20 = .ok (.return_, 1) := by decide +kernel
theorem dX5_demandRoomFor_0 : decode cX5_demandRoomFor 0 = .ok (.aload_n 0, 1) := by decide +kernel
theorem dX5_demandRoomFor_1 : decode cX5_demandRoomFor 1 = .ok (.getfield 18, 3) := by decide +kernel
theorem dX5_demandRoomFor_4 : decode cX5_demandRoomFor 4 = .ok (.getfield 192, 3) := by decide +kernel
theorem dX5_demandRoomFor_7 : decode cX5_demandRoomFor 7 = .ok (.iload_n 1, 1) := by decide +kernel
theorem dX5_demandRoomFor_8 : decode cX5_demandRoomFor 8 = .ok (.iadd, 1) := by decide +kernel
theorem dX5_demandRoomFor_9 : decode cX5_demandRoomFor 9 = .ok (.bipush 60, 2) := by decide +kernel
theorem dX5_demandRoomFor_11 : decode cX5_demandRoomFor 11 = .ok (.if_icmp .le 14, 3) := by decide +kernel
theorem dX5_demandRoomFor_14 : decode cX5_demandRoomFor 14 = .ok (.new 94, 3) := by decide +kernel
theorem dX5_demandRoomFor_17 : decode cX5_demandRoomFor 17 = .ok (.dup, 1) := by decide +kernel
theorem dX5_demandRoomFor_18 : decode cX5_demandRoomFor 18 = .ok (.ldc_w 315, 3) := by decide +kernel
theorem dX5_demandRoomFor_21 : decode cX5_demandRoomFor 21 = .ok (.invokespecial 98, 3) := by decide +kernel
theorem dX5_demandRoomFor_24 : decode cX5_demandRoomFor 24 = .ok (.athrow, 1) := by decide +kernel
theorem dX5_demandRoomFor_25 : decode cX5_demandRoomFor 25 = .ok (.return_, 1) := by decide +kernel
theorem dX5_refuse_0 : decode cX5_refuse 0 = .ok (.aload_n 0, 1) := by decide +kernel
theorem dX5_refuse_1 : decode cX5_refuse 1 = .ok (.dup, 1) := by decide +kernel
theorem dX5_refuse_2 : decode cX5_refuse 2 = .ok (.getfield 41, 3) := by decide +kernel
theorem dX5_refuse_5 : decode cX5_refuse 5 = .ok (.iconst 1, 1) := by decide +kernel
theorem dX5_refuse_6 : decode cX5_refuse 6 = .ok (.iadd, 1) := by decide +kernel
theorem dX5_refuse_7 : decode cX5_refuse 7 = .ok (.putfield 41, 3) := by decide +kernel
theorem dX5_refuse_10 : decode cX5_refuse 10 = .ok (.bipush (-9), 2) := by decide +kernel
theorem dX5_refuse_12 : decode cX5_refuse 12 = .ok (.ireturn, 1) := by decide +kernel
theorem dX5_askOne_0 : decode cX5_askOne 0 = .ok (.aload_n 0, 1) := by decide +kernel
theorem dX5_askOne_1 : decode cX5_askOne 1 = .ok (.getfield 18, 3) := by decide +kernel
theorem dX5_askOne_4 : decode cX5_askOne 4 = .ok (.getfield 192, 3) := by decide +kernel
theorem dX5_askOne_7 : decode cX5_askOne 7 = .ok (.istore_n 2, 1) := by decide +kernel
theorem dX5_askOne_8 : decode cX5_askOne 8 = .ok (.aload_n 0, 1) := by decide +kernel
theorem dX5_askOne_9 : decode cX5_askOne 9 = .ok (.getfield 18, 3) := by decide +kernel
theorem dX5_askOne_12 : decode cX5_askOne 12 = .ok (.iload_n 1, 1) := by decide +kernel
theorem dX5_askOne_13 : decode cX5_askOne 13 = .ok (.aload_n 0, 1) := by decide +kernel
theorem dX5_askOne_14 : decode cX5_askOne 14 = .ok (.iload_n 1, 1) := by decide +kernel
theorem dX5_askOne_15 : decode cX5_askOne 15 = .ok (.invokevirtual 205, 3) := by decide +kernel
theorem dX5_askOne_18 : decode cX5_askOne 18 = .ok (.invokevirtual 317, 3) := by decide +kernel
theorem dX5_askOne_21 : decode cX5_askOne 21 = .ok (.iconst 0, 1) := by decide +kernel
theorem dX5_askOne_22 : decode cX5_askOne 22 = .ok (.istore_n 3, 1) := by decide +kernel
theorem dX5_askOne_23 : decode cX5_askOne 23 = .ok (.aload_n 0, 1) := by decide +kernel
theorem dX5_askOne_24 : decode cX5_askOne 24 = .ok (.getfield 33, 3) := by decide +kernel
theorem dX5_askOne_27 : decode cX5_askOne 27 = .ok (.astore 4, 2) := by decide +kernel
theorem dX5_askOne_29 : decode cX5_askOne 29 = .ok (.aload 4, 2) := by decide +kernel
theorem dX5_askOne_31 : decode cX5_askOne 31 = .ok (.arraylength, 1) := by decide +kernel
theorem dX5_askOne_32 : decode cX5_askOne 32 = .ok (.istore 5, 2) := by decide +kernel
theorem dX5_askOne_34 : decode cX5_askOne 34 = .ok (.iconst 0, 1) := by decide +kernel
theorem dX5_askOne_35 : decode cX5_askOne 35 = .ok (.istore 6, 2) := by decide +kernel
theorem dX5_askOne_37 : decode cX5_askOne 37 = .ok (.iload 6, 2) := by decide +kernel
theorem dX5_askOne_39 : decode cX5_askOne 39 = .ok (.iload 5, 2) := by decide +kernel
theorem dX5_askOne_41 : decode cX5_askOne 41 = .ok (.if_icmp .ge 29, 3) := by decide +kernel
theorem dX5_askOne_44 : decode cX5_askOne 44 = .ok (.aload 4, 2) := by decide +kernel
theorem dX5_askOne_46 : decode cX5_askOne 46 = .ok (.iload 6, 2) := by decide +kernel
theorem dX5_askOne_48 : decode cX5_askOne 48 = .ok (.aaload, 1) := by decide +kernel
theorem dX5_askOne_49 : decode cX5_askOne 49 = .ok (.astore 7, 2) := by decide +kernel
theorem dX5_askOne_51 : decode cX5_askOne 51 = .ok (.aload 7, 2) := by decide +kernel
theorem dX5_askOne_53 : decode cX5_askOne 53 = .ok (.iload_n 1, 1) := by decide +kernel
theorem dX5_askOne_54 : decode cX5_askOne 54 = .ok (.iload_n 2, 1) := by decide +kernel
theorem dX5_askOne_55 : decode cX5_askOne 55 = .ok (.invokevirtual 321, 3) := by decide +kernel
theorem dX5_askOne_58 : decode cX5_askOne 58 = .ok (.ifCond .eq 6, 3) := by decide +kernel
theorem dX5_askOne_61 : decode cX5_askOne 61 = .ok (.iinc 3 1, 3) := by decide +kernel
theorem dX5_askOne_64 : decode cX5_askOne 64 = .ok (.iinc 6 1, 3) := by decide +kernel
theorem dX5_askOne_67 : decode cX5_askOne 67 = .ok (.goto (-30), 3) := by decide +kernel
theorem dX5_askOne_70 : decode cX5_askOne 70 = .ok (.aload_n 0, 1) := by decide +kernel
theorem dX5_askOne_71 : decode cX5_askOne 71 = .ok (.getfield 27, 3) := by decide +kernel
theorem dX5_askOne_74 : decode cX5_askOne 74 = .ok (.iload_n 1, 1) := by decide +kernel
theorem dX5_askOne_75 : decode cX5_askOne 75 = .ok (.iload_n 2, 1) := by decide +kernel
theorem dX5_askOne_76 : decode cX5_askOne 76 = .ok (.invokevirtual 325, 3) := by decide +kernel
theorem dX5_askOne_79 : decode cX5_askOne 79 = .ok (.pop, 1) := by decide +kernel
theorem dX5_askOne_80 : decode cX5_askOne 80 = .ok (.iload_n 3, 1) := by decide +kernel
theorem dX5_askOne_81 : decode cX5_askOne 81 = .ok (.ireturn, 1) := by decide +kernel
theorem dX5_depthNow_0 : decode cX5_depthNow 0 = .ok (.aload_n 0, 1) := by decide +kernel
theorem dX5_depthNow_1 : decode cX5_depthNow 1 = .ok (.getfield 27, 3) := by decide +kernel
theorem dX5_depthNow_4 : decode cX5_depthNow 4 = .ok (.iload_n 1, 1) := by decide +kernel
theorem dX5_depthNow_5 : decode cX5_depthNow 5 = .ok (.invokevirtual 129, 3) := by decide +kernel
theorem dX5_depthNow_8 : decode cX5_depthNow 8 = .ok (.istore_n 2, 1) := by decide +kernel
theorem dX5_depthNow_9 : decode cX5_depthNow 9 = .ok (.iload_n 2, 1) := by decide +kernel
theorem dX5_depthNow_10 : decode cX5_depthNow 10 = .ok (.iconst (-1), 1) := by decide +kernel
theorem dX5_depthNow_11 : decode cX5_depthNow 11 = .ok (.if_icmp .ne 7, 3) := by decide +kernel
theorem dX5_depthNow_14 : decode cX5_depthNow 14 = .ok (.iconst 0, 1) := by decide +kernel
theorem dX5_depthNow_15 : decode cX5_depthNow 15 = .ok (.goto 12, 3) := by decide +kernel
theorem dX5_depthNow_18 : decode cX5_depthNow 18 = .ok (.aload_n 0, 1) := by decide +kernel
theorem dX5_depthNow_19 : decode cX5_depthNow 19 = .ok (.getfield 27, 3) := by decide +kernel
theorem dX5_depthNow_22 : decode cX5_depthNow 22 = .ok (.getfield 126, 3) := by decide +kernel
theorem dX5_depthNow_25 : decode cX5_depthNow 25 = .ok (.iload_n 2, 1) := by decide +kernel
theorem dX5_depthNow_26 : decode cX5_depthNow 26 = .ok (.isub, 1) := by decide +kernel
theorem dX5_depthNow_27 : decode cX5_depthNow 27 = .ok (.ireturn, 1) := by decide +kernel
theorem dX5_pairsOfTables_0 : decode cX5_pairsOfTables 0 = .ok (.iconst 0, 1) := by decide +kernel
theorem dX5_pairsOfTables_1 : decode cX5_pairsOfTables 1 = .ok (.istore_n 1, 1) := by decide +kernel
theorem dX5_pairsOfTables_2 : decode cX5_pairsOfTables 2 = .ok (.aload_n 0, 1) := by decide +kernel
theorem dX5_pairsOfTables_3 : decode cX5_pairsOfTables 3 = .ok (.getfield 11, 3) := by decide +kernel
theorem dX5_pairsOfTables_6 : decode cX5_pairsOfTables 6 = .ok (.astore_n 2, 1) := by decide +kernel
theorem dX5_pairsOfTables_7 : decode cX5_pairsOfTables 7 = .ok (.aload_n 2, 1) := by decide +kernel
theorem dX5_pairsOfTables_8 : decode cX5_pairsOfTables 8 = .ok (.arraylength, 1) := by decide +kernel
theorem dX5_pairsOfTables_9 : decode cX5_pairsOfTables 9 = .ok (.istore_n 3, 1) := by decide +kernel
theorem dX5_pairsOfTables_10 : decode cX5_pairsOfTables 10 = .ok (.iconst 0, 1) := by decide +kernel
theorem dX5_pairsOfTables_11 : decode cX5_pairsOfTables 11 = .ok (.istore 4, 2) := by decide +kernel
theorem dX5_pairsOfTables_13 : decode cX5_pairsOfTables 13 = .ok (.iload 4, 2) := by decide +kernel
theorem dX5_pairsOfTables_15 : decode cX5_pairsOfTables 15 = .ok (.iload_n 3, 1) := by decide +kernel
theorem dX5_pairsOfTables_16 : decode cX5_pairsOfTables 16 = .ok (.if_icmp .ge 26, 3) := by decide +kernel
theorem dX5_pairsOfTables_19 : decode cX5_pairsOfTables 19 = .ok (.aload_n 2, 1) := by decide +kernel
theorem dX5_pairsOfTables_20 : decode cX5_pairsOfTables 20 = .ok (.iload 4, 2) := by decide +kernel
theorem dX5_pairsOfTables_22 : decode cX5_pairsOfTables 22 = .ok (.aaload, 1) := by decide +kernel
theorem dX5_pairsOfTables_23 : decode cX5_pairsOfTables 23 = .ok (.astore 5, 2) := by decide +kernel
theorem dX5_pairsOfTables_25 : decode cX5_pairsOfTables 25 = .ok (.iload_n 1, 1) := by decide +kernel
theorem dX5_pairsOfTables_26 : decode cX5_pairsOfTables 26 = .ok (.aload 5, 2) := by decide +kernel
theorem dX5_pairsOfTables_28 : decode cX5_pairsOfTables 28 = .ok (.getfield 74, 3) := by decide +kernel
theorem dX5_pairsOfTables_31 : decode cX5_pairsOfTables 31 = .ok (.getfield 126, 3) := by decide +kernel
theorem dX5_pairsOfTables_34 : decode cX5_pairsOfTables 34 = .ok (.iadd, 1) := by decide +kernel
theorem dX5_pairsOfTables_35 : decode cX5_pairsOfTables 35 = .ok (.istore_n 1, 1) := by decide +kernel
theorem dX5_pairsOfTables_36 : decode cX5_pairsOfTables 36 = .ok (.iinc 4 1, 3) := by decide +kernel
theorem dX5_pairsOfTables_39 : decode cX5_pairsOfTables 39 = .ok (.goto (-26), 3) := by decide +kernel
theorem dX5_pairsOfTables_42 : decode cX5_pairsOfTables 42 = .ok (.iload_n 1, 1) := by decide +kernel
theorem dX5_pairsOfTables_43 : decode cX5_pairsOfTables 43 = .ok (.ireturn, 1) := by decide +kernel
theorem dX5_isNoTableAboveMost_0 : decode cX5_isNoTableAboveMost 0 = .ok (.aload_n 0, 1) := by decide +kernel
theorem dX5_isNoTableAboveMost_1 : decode cX5_isNoTableAboveMost 1 = .ok (.getfield 11, 3) := by decide +kernel
theorem dX5_isNoTableAboveMost_4 : decode cX5_isNoTableAboveMost 4 = .ok (.astore_n 1, 1) := by decide +kernel
theorem dX5_isNoTableAboveMost_5 : decode cX5_isNoTableAboveMost 5 = .ok (.aload_n 1, 1) := by decide +kernel
theorem dX5_isNoTableAboveMost_6 : decode cX5_isNoTableAboveMost 6 = .ok (.arraylength, 1) := by decide +kernel
theorem dX5_isNoTableAboveMost_7 : decode cX5_isNoTableAboveMost 7 = .ok (.istore_n 2, 1) := by decide +kernel
theorem dX5_isNoTableAboveMost_8 : decode cX5_isNoTableAboveMost 8 = .ok (.iconst 0, 1) := by decide +kernel
theorem dX5_isNoTableAboveMost_9 : decode cX5_isNoTableAboveMost 9 = .ok (.istore_n 3, 1) := by decide +kernel
theorem dX5_isNoTableAboveMost_10 : decode cX5_isNoTableAboveMost 10 = .ok (.iload_n 3, 1) := by decide +kernel
theorem dX5_isNoTableAboveMost_11 : decode cX5_isNoTableAboveMost 11 = .ok (.iload_n 2, 1) := by decide +kernel
theorem dX5_isNoTableAboveMost_12 : decode cX5_isNoTableAboveMost 12 = .ok (.if_icmp .ge 27, 3) := by decide +kernel
theorem dX5_isNoTableAboveMost_15 : decode cX5_isNoTableAboveMost 15 = .ok (.aload_n 1, 1) := by decide +kernel
theorem dX5_isNoTableAboveMost_16 : decode cX5_isNoTableAboveMost 16 = .ok (.iload_n 3, 1) := by decide +kernel
theorem dX5_isNoTableAboveMost_17 : decode cX5_isNoTableAboveMost 17 = .ok (.aaload, 1) := by decide +kernel
theorem dX5_isNoTableAboveMost_18 : decode cX5_isNoTableAboveMost 18 = .ok (.astore 4, 2) := by decide +kernel
theorem dX5_isNoTableAboveMost_20 : decode cX5_isNoTableAboveMost 20 = .ok (.aload 4, 2) := by decide +kernel
theorem dX5_isNoTableAboveMost_22 : decode cX5_isNoTableAboveMost 22 = .ok (.getfield 74, 3) := by decide +kernel
theorem dX5_isNoTableAboveMost_25 : decode cX5_isNoTableAboveMost 25 = .ok (.invokevirtual 328, 3) := by decide +kernel
theorem dX5_isNoTableAboveMost_28 : decode cX5_isNoTableAboveMost 28 = .ok (.ifCond .eq 5, 3) := by decide +kernel
theorem dX5_isNoTableAboveMost_31 : decode cX5_isNoTableAboveMost 31 = .ok (.iconst 0, 1) := by decide +kernel
theorem dX5_isNoTableAboveMost_32 : decode cX5_isNoTableAboveMost 32 = .ok (.ireturn, 1) := by decide +kernel
theorem dX5_isNoTableAboveMost_33 : decode cX5_isNoTableAboveMost 33 = .ok (.iinc 3 1, 3) := by decide +kernel
theorem dX5_isNoTableAboveMost_36 : decode cX5_isNoTableAboveMost 36 = .ok (.goto (-26), 3) := by decide +kernel
theorem dX5_isNoTableAboveMost_39 : decode cX5_isNoTableAboveMost 39 = .ok (.aload_n 0, 1) := by decide +kernel
theorem dX5_isNoTableAboveMost_40 : decode cX5_isNoTableAboveMost 40 = .ok (.getfield 33, 3) := by decide +kernel
theorem dX5_isNoTableAboveMost_43 : decode cX5_isNoTableAboveMost 43 = .ok (.astore_n 1, 1) := by decide +kernel
theorem dX5_isNoTableAboveMost_44 : decode cX5_isNoTableAboveMost 44 = .ok (.aload_n 1, 1) := by decide +kernel
theorem dX5_isNoTableAboveMost_45 : decode cX5_isNoTableAboveMost 45 = .ok (.arraylength, 1) := by decide +kernel
theorem dX5_isNoTableAboveMost_46 : decode cX5_isNoTableAboveMost 46 = .ok (.istore_n 2, 1) := by decide +kernel
theorem dX5_isNoTableAboveMost_47 : decode cX5_isNoTableAboveMost 47 = .ok (.iconst 0, 1) := by decide +kernel
theorem dX5_isNoTableAboveMost_48 : decode cX5_isNoTableAboveMost 48 = .ok (.istore_n 3, 1) := by decide +kernel
theorem dX5_isNoTableAboveMost_49 : decode cX5_isNoTableAboveMost 49 = .ok (.iload_n 3, 1) := by decide +kernel
theorem dX5_isNoTableAboveMost_50 : decode cX5_isNoTableAboveMost 50 = .ok (.iload_n 2, 1) := by decide +kernel
theorem dX5_isNoTableAboveMost_51 : decode cX5_isNoTableAboveMost 51 = .ok (.if_icmp .ge 27, 3) := by decide +kernel
theorem dX5_isNoTableAboveMost_54 : decode cX5_isNoTableAboveMost 54 = .ok (.aload_n 1, 1) := by decide +kernel
theorem dX5_isNoTableAboveMost_55 : decode cX5_isNoTableAboveMost 55 = .ok (.iload_n 3, 1) := by decide +kernel
theorem dX5_isNoTableAboveMost_56 : decode cX5_isNoTableAboveMost 56 = .ok (.aaload, 1) := by decide +kernel
theorem dX5_isNoTableAboveMost_57 : decode cX5_isNoTableAboveMost 57 = .ok (.astore 4, 2) := by decide +kernel
theorem dX5_isNoTableAboveMost_59 : decode cX5_isNoTableAboveMost 59 = .ok (.aload 4, 2) := by decide +kernel
theorem dX5_isNoTableAboveMost_61 : decode cX5_isNoTableAboveMost 61 = .ok (.getfield 212, 3) := by decide +kernel
theorem dX5_isNoTableAboveMost_64 : decode cX5_isNoTableAboveMost 64 = .ok (.invokevirtual 328, 3) := by decide +kernel
theorem dX5_isNoTableAboveMost_67 : decode cX5_isNoTableAboveMost 67 = .ok (.ifCond .eq 5, 3) := by decide +kernel
theorem dX5_isNoTableAboveMost_70 : decode cX5_isNoTableAboveMost 70 = .ok (.iconst 0, 1) := by decide +kernel
theorem dX5_isNoTableAboveMost_71 : decode cX5_isNoTableAboveMost 71 = .ok (.ireturn, 1) := by decide +kernel
theorem dX5_isNoTableAboveMost_72 : decode cX5_isNoTableAboveMost 72 = .ok (.iinc 3 1, 3) := by decide +kernel
theorem dX5_isNoTableAboveMost_75 : decode cX5_isNoTableAboveMost 75 = .ok (.goto (-26), 3) := by decide +kernel
theorem dX5_isNoTableAboveMost_78 : decode cX5_isNoTableAboveMost 78 = .ok (.iconst 1, 1) := by decide +kernel
theorem dX5_isNoTableAboveMost_79 : decode cX5_isNoTableAboveMost 79 = .ok (.ireturn, 1) := by decide +kernel
theorem dX5_areKeepersLastOfStack_0 : decode cX5_areKeepersLastOfStack 0 = .ok (.aload_n 0, 1) := by decide +kernel
theorem dX5_areKeepersLastOfStack_1 : decode cX5_areKeepersLastOfStack 1 = .ok (.getfield 33, 3) := by decide +kernel
theorem dX5_areKeepersLastOfStack_4 : decode cX5_areKeepersLastOfStack 4 = .ok (.astore_n 1, 1) := by decide +kernel
theorem dX5_areKeepersLastOfStack_5 : decode cX5_areKeepersLastOfStack 5 = .ok (.aload_n 1, 1) := by decide +kernel
theorem dX5_areKeepersLastOfStack_6 : decode cX5_areKeepersLastOfStack 6 = .ok (.arraylength, 1) := by decide +kernel
theorem dX5_areKeepersLastOfStack_7 : decode cX5_areKeepersLastOfStack 7 = .ok (.istore_n 2, 1) := by decide +kernel
theorem dX5_areKeepersLastOfStack_8 : decode cX5_areKeepersLastOfStack 8 = .ok (.iconst 0, 1) := by decide +kernel
theorem dX5_areKeepersLastOfStack_9 : decode cX5_areKeepersLastOfStack 9 = .ok (.istore_n 3, 1) := by decide +kernel
theorem dX5_areKeepersLastOfStack_10 : decode cX5_areKeepersLastOfStack 10 = .ok (.iload_n 3, 1) := by decide +kernel
theorem dX5_areKeepersLastOfStack_11 : decode cX5_areKeepersLastOfStack 11 = .ok (.iload_n 2, 1) := by decide +kernel
theorem dX5_areKeepersLastOfStack_12 : decode cX5_areKeepersLastOfStack 12 = .ok (.if_icmp .ge 31, 3) := by decide +kernel
theorem dX5_areKeepersLastOfStack_15 : decode cX5_areKeepersLastOfStack 15 = .ok (.aload_n 1, 1) := by decide +kernel
theorem dX5_areKeepersLastOfStack_16 : decode cX5_areKeepersLastOfStack 16 = .ok (.iload_n 3, 1) := by decide +kernel
theorem dX5_areKeepersLastOfStack_17 : decode cX5_areKeepersLastOfStack 17 = .ok (.aaload, 1) := by decide +kernel
theorem dX5_areKeepersLastOfStack_18 : decode cX5_areKeepersLastOfStack 18 = .ok (.astore 4, 2) := by decide +kernel
theorem dX5_areKeepersLastOfStack_20 : decode cX5_areKeepersLastOfStack 20 = .ok (.aload 4, 2) := by decide +kernel
theorem dX5_areKeepersLastOfStack_22 : decode cX5_areKeepersLastOfStack 22 = .ok (.getfield 212, 3) := by decide +kernel
theorem dX5_areKeepersLastOfStack_25 : decode cX5_areKeepersLastOfStack 25 = .ok (.aload_n 0, 1) := by decide +kernel
theorem dX5_areKeepersLastOfStack_26 : decode cX5_areKeepersLastOfStack 26 = .ok (.getfield 27, 3) := by decide +kernel
theorem dX5_areKeepersLastOfStack_29 : decode cX5_areKeepersLastOfStack 29 = .ok (.invokevirtual 331, 3) := by decide +kernel
theorem dX5_areKeepersLastOfStack_32 : decode cX5_areKeepersLastOfStack 32 = .ok (.ifCond .ne 5, 3) := by decide +kernel
theorem dX5_areKeepersLastOfStack_35 : decode cX5_areKeepersLastOfStack 35 = .ok (.iconst 0, 1) := by decide +kernel
theorem dX5_areKeepersLastOfStack_36 : decode cX5_areKeepersLastOfStack 36 = .ok (.ireturn, 1) := by decide +kernel
theorem dX5_areKeepersLastOfStack_37 : decode cX5_areKeepersLastOfStack 37 = .ok (.iinc 3 1, 3) := by decide +kernel
theorem dX5_areKeepersLastOfStack_40 : decode cX5_areKeepersLastOfStack 40 = .ok (.goto (-30), 3) := by decide +kernel
theorem dX5_areKeepersLastOfStack_43 : decode cX5_areKeepersLastOfStack 43 = .ok (.iconst 1, 1) := by decide +kernel
theorem dX5_areKeepersLastOfStack_44 : decode cX5_areKeepersLastOfStack 44 = .ok (.ireturn, 1) := by decide +kernel
theorem dX5_areMissesByDepth_0 : decode cX5_areMissesByDepth 0 = .ok (.aload_n 0, 1) := by decide +kernel
theorem dX5_areMissesByDepth_1 : decode cX5_areMissesByDepth 1 = .ok (.getfield 33, 3) := by decide +kernel
theorem dX5_areMissesByDepth_4 : decode cX5_areMissesByDepth 4 = .ok (.astore_n 1, 1) := by decide +kernel
theorem dX5_areMissesByDepth_5 : decode cX5_areMissesByDepth 5 = .ok (.aload_n 1, 1) := by decide +kernel
theorem dX5_areMissesByDepth_6 : decode cX5_areMissesByDepth 6 = .ok (.arraylength, 1) := by decide +kernel
theorem dX5_areMissesByDepth_7 : decode cX5_areMissesByDepth 7 = .ok (.istore_n 2, 1) := by decide +kernel
theorem dX5_areMissesByDepth_8 : decode cX5_areMissesByDepth 8 = .ok (.iconst 0, 1) := by decide +kernel
theorem dX5_areMissesByDepth_9 : decode cX5_areMissesByDepth 9 = .ok (.istore_n 3, 1) := by decide +kernel
theorem dX5_areMissesByDepth_10 : decode cX5_areMissesByDepth 10 = .ok (.iload_n 3, 1) := by decide +kernel
theorem dX5_areMissesByDepth_11 : decode cX5_areMissesByDepth 11 = .ok (.iload_n 2, 1) := by decide +kernel
theorem dX5_areMissesByDepth_12 : decode cX5_areMissesByDepth 12 = .ok (.if_icmp .ge 39, 3) := by decide +kernel
theorem dX5_areMissesByDepth_15 : decode cX5_areMissesByDepth 15 = .ok (.aload_n 1, 1) := by decide +kernel
theorem dX5_areMissesByDepth_16 : decode cX5_areMissesByDepth 16 = .ok (.iload_n 3, 1) := by decide +kernel
theorem dX5_areMissesByDepth_17 : decode cX5_areMissesByDepth 17 = .ok (.aaload, 1) := by decide +kernel
theorem dX5_areMissesByDepth_18 : decode cX5_areMissesByDepth 18 = .ok (.astore 4, 2) := by decide +kernel
theorem dX5_areMissesByDepth_20 : decode cX5_areMissesByDepth 20 = .ok (.aload 4, 2) := by decide +kernel
theorem dX5_areMissesByDepth_22 : decode cX5_areMissesByDepth 22 = .ok (.getfield 213, 3) := by decide +kernel
theorem dX5_areMissesByDepth_25 : decode cX5_areMissesByDepth 25 = .ok (.aload_n 0, 1) := by decide +kernel
theorem dX5_areMissesByDepth_26 : decode cX5_areMissesByDepth 26 = .ok (.getfield 18, 3) := by decide +kernel
theorem dX5_areMissesByDepth_29 : decode cX5_areMissesByDepth 29 = .ok (.aload 4, 2) := by decide +kernel
theorem dX5_areMissesByDepth_31 : decode cX5_areMissesByDepth 31 = .ok (.getfield 212, 3) := by decide +kernel
theorem dX5_areMissesByDepth_34 : decode cX5_areMissesByDepth 34 = .ok (.getfield 91, 3) := by decide +kernel
theorem dX5_areMissesByDepth_37 : decode cX5_areMissesByDepth 37 = .ok (.invokevirtual 335, 3) := by decide +kernel
theorem dX5_areMissesByDepth_40 : decode cX5_areMissesByDepth 40 = .ok (.if_icmp .eq 5, 3) := by decide +kernel
theorem dX5_areMissesByDepth_43 : decode cX5_areMissesByDepth 43 = .ok (.iconst 0, 1) := by decide +kernel
theorem dX5_areMissesByDepth_44 : decode cX5_areMissesByDepth 44 = .ok (.ireturn, 1) := by decide +kernel
theorem dX5_areMissesByDepth_45 : decode cX5_areMissesByDepth 45 = .ok (.iinc 3 1, 3) := by decide +kernel
theorem dX5_areMissesByDepth_48 : decode cX5_areMissesByDepth 48 = .ok (.goto (-38), 3) := by decide +kernel
theorem dX5_areMissesByDepth_51 : decode cX5_areMissesByDepth 51 = .ok (.iconst 1, 1) := by decide +kernel
theorem dX5_areMissesByDepth_52 : decode cX5_areMissesByDepth 52 = .ok (.ireturn, 1) := by decide +kernel
theorem dX5_areBestsWithinMisses_0 : decode cX5_areBestsWithinMisses 0 = .ok (.iconst 0, 1) := by decide +kernel
theorem dX5_areBestsWithinMisses_1 : decode cX5_areBestsWithinMisses 1 = .ok (.istore_n 1, 1) := by decide +kernel
theorem dX5_areBestsWithinMisses_2 : decode cX5_areBestsWithinMisses 2 = .ok (.iload_n 1, 1) := by decide +kernel
theorem dX5_areBestsWithinMisses_3 : decode cX5_areBestsWithinMisses 3 = .ok (.bipush 6, 2) := by decide +kernel
theorem dX5_areBestsWithinMisses_5 : decode cX5_areBestsWithinMisses 5 = .ok (.if_icmp .ge 29, 3) := by decide +kernel
theorem dX5_areBestsWithinMisses_8 : decode cX5_areBestsWithinMisses 8 = .ok (.aload_n 0, 1) := by decide +kernel
theorem dX5_areBestsWithinMisses_9 : decode cX5_areBestsWithinMisses 9 = .ok (.getfield 37, 3) := by decide +kernel
theorem dX5_areBestsWithinMisses_12 : decode cX5_areBestsWithinMisses 12 = .ok (.iload_n 1, 1) := by decide +kernel
theorem dX5_areBestsWithinMisses_13 : decode cX5_areBestsWithinMisses 13 = .ok (.iaload, 1) := by decide +kernel
theorem dX5_areBestsWithinMisses_14 : decode cX5_areBestsWithinMisses 14 = .ok (.aload_n 0, 1) := by decide +kernel
theorem dX5_areBestsWithinMisses_15 : decode cX5_areBestsWithinMisses 15 = .ok (.getfield 33, 3) := by decide +kernel
theorem dX5_areBestsWithinMisses_18 : decode cX5_areBestsWithinMisses 18 = .ok (.iload_n 1, 1) := by decide +kernel
theorem dX5_areBestsWithinMisses_19 : decode cX5_areBestsWithinMisses 19 = .ok (.aaload, 1) := by decide +kernel
theorem dX5_areBestsWithinMisses_20 : decode cX5_areBestsWithinMisses 20 = .ok (.getfield 213, 3) := by decide +kernel
theorem dX5_areBestsWithinMisses_23 : decode cX5_areBestsWithinMisses 23 = .ok (.if_icmp .le 5, 3) := by decide +kernel
theorem dX5_areBestsWithinMisses_26 : decode cX5_areBestsWithinMisses 26 = .ok (.iconst 0, 1) := by decide +kernel
theorem dX5_areBestsWithinMisses_27 : decode cX5_areBestsWithinMisses 27 = .ok (.ireturn, 1) := by decide +kernel
theorem dX5_areBestsWithinMisses_28 : decode cX5_areBestsWithinMisses 28 = .ok (.iinc 1 1, 3) := by decide +kernel
theorem dX5_areBestsWithinMisses_31 : decode cX5_areBestsWithinMisses 31 = .ok (.goto (-29), 3) := by decide +kernel
theorem dX5_areBestsWithinMisses_34 : decode cX5_areBestsWithinMisses 34 = .ok (.iconst 1, 1) := by decide +kernel
theorem dX5_areBestsWithinMisses_35 : decode cX5_areBestsWithinMisses 35 = .ok (.ireturn, 1) := by decide +kernel
theorem dX5_isNoneGrowingWithSize_0 : decode cX5_isNoneGrowingWithSize 0 = .ok (.iconst 1, 1) := by decide +kernel
theorem dX5_isNoneGrowingWithSize_1 : decode cX5_isNoneGrowingWithSize 1 = .ok (.istore_n 1, 1) := by decide +kernel
theorem dX5_isNoneGrowingWithSize_2 : decode cX5_isNoneGrowingWithSize 2 = .ok (.iload_n 1, 1) := by decide +kernel
theorem dX5_isNoneGrowingWithSize_3 : decode cX5_isNoneGrowingWithSize 3 = .ok (.bipush 6, 2) := by decide +kernel
theorem dX5_isNoneGrowingWithSize_5 : decode cX5_isNoneGrowingWithSize 5 = .ok (.if_icmp .ge 51, 3) := by decide +kernel
theorem dX5_isNoneGrowingWithSize_8 : decode cX5_isNoneGrowingWithSize 8 = .ok (.aload_n 0, 1) := by decide +kernel
theorem dX5_isNoneGrowingWithSize_9 : decode cX5_isNoneGrowingWithSize 9 = .ok (.getfield 33, 3) := by decide +kernel
theorem dX5_isNoneGrowingWithSize_12 : decode cX5_isNoneGrowingWithSize 12 = .ok (.iload_n 1, 1) := by decide +kernel
theorem dX5_isNoneGrowingWithSize_13 : decode cX5_isNoneGrowingWithSize 13 = .ok (.aaload, 1) := by decide +kernel
theorem dX5_isNoneGrowingWithSize_14 : decode cX5_isNoneGrowingWithSize 14 = .ok (.getfield 213, 3) := by decide +kernel
theorem dX5_isNoneGrowingWithSize_17 : decode cX5_isNoneGrowingWithSize 17 = .ok (.aload_n 0, 1) := by decide +kernel
theorem dX5_isNoneGrowingWithSize_18 : decode cX5_isNoneGrowingWithSize 18 = .ok (.getfield 33, 3) := by decide +kernel
theorem dX5_isNoneGrowingWithSize_21 : decode cX5_isNoneGrowingWithSize 21 = .ok (.iload_n 1, 1) := by decide +kernel
theorem dX5_isNoneGrowingWithSize_22 : decode cX5_isNoneGrowingWithSize 22 = .ok (.iconst 1, 1) := by decide +kernel
theorem dX5_isNoneGrowingWithSize_23 : decode cX5_isNoneGrowingWithSize 23 = .ok (.isub, 1) := by decide +kernel
theorem dX5_isNoneGrowingWithSize_24 : decode cX5_isNoneGrowingWithSize 24 = .ok (.aaload, 1) := by decide +kernel
theorem dX5_isNoneGrowingWithSize_25 : decode cX5_isNoneGrowingWithSize 25 = .ok (.getfield 213, 3) := by decide +kernel
theorem dX5_isNoneGrowingWithSize_28 : decode cX5_isNoneGrowingWithSize 28 = .ok (.if_icmp .gt 20, 3) := by decide +kernel
theorem dX5_isNoneGrowingWithSize_31 : decode cX5_isNoneGrowingWithSize 31 = .ok (.aload_n 0, 1) := by decide +kernel
theorem dX5_isNoneGrowingWithSize_32 : decode cX5_isNoneGrowingWithSize 32 = .ok (.getfield 37, 3) := by decide +kernel
theorem dX5_isNoneGrowingWithSize_35 : decode cX5_isNoneGrowingWithSize 35 = .ok (.iload_n 1, 1) := by decide +kernel
theorem dX5_isNoneGrowingWithSize_36 : decode cX5_isNoneGrowingWithSize 36 = .ok (.iaload, 1) := by decide +kernel
theorem dX5_isNoneGrowingWithSize_37 : decode cX5_isNoneGrowingWithSize 37 = .ok (.aload_n 0, 1) := by decide +kernel
theorem dX5_isNoneGrowingWithSize_38 : decode cX5_isNoneGrowingWithSize 38 = .ok (.getfield 37, 3) := by decide +kernel
theorem dX5_isNoneGrowingWithSize_41 : decode cX5_isNoneGrowingWithSize 41 = .ok (.iload_n 1, 1) := by decide +kernel
theorem dX5_isNoneGrowingWithSize_42 : decode cX5_isNoneGrowingWithSize 42 = .ok (.iconst 1, 1) := by decide +kernel
theorem dX5_isNoneGrowingWithSize_43 : decode cX5_isNoneGrowingWithSize 43 = .ok (.isub, 1) := by decide +kernel
theorem dX5_isNoneGrowingWithSize_44 : decode cX5_isNoneGrowingWithSize 44 = .ok (.iaload, 1) := by decide +kernel
theorem dX5_isNoneGrowingWithSize_45 : decode cX5_isNoneGrowingWithSize 45 = .ok (.if_icmp .le 5, 3) := by decide +kernel
theorem dX5_isNoneGrowingWithSize_48 : decode cX5_isNoneGrowingWithSize 48 = .ok (.iconst 0, 1) := by decide +kernel
theorem dX5_isNoneGrowingWithSize_49 : decode cX5_isNoneGrowingWithSize 49 = .ok (.ireturn, 1) := by decide +kernel
theorem dX5_isNoneGrowingWithSize_50 : decode cX5_isNoneGrowingWithSize 50 = .ok (.iinc 1 1, 3) := by decide +kernel
theorem dX5_isNoneGrowingWithSize_53 : decode cX5_isNoneGrowingWithSize 53 = .ok (.goto (-51), 3) := by decide +kernel
theorem dX5_isNoneGrowingWithSize_56 : decode cX5_isNoneGrowingWithSize 56 = .ok (.iconst 1, 1) := by decide +kernel
theorem dX5_isNoneGrowingWithSize_57 : decode cX5_isNoneGrowingWithSize 57 = .ok (.ireturn, 1) := by decide +kernel
theorem dX5_isTheoremKept_0 : decode cX5_isTheoremKept 0 = .ok (.iconst 1, 1) := by decide +kernel
theorem dX5_isTheoremKept_1 : decode cX5_isTheoremKept 1 = .ok (.istore_n 1, 1) := by decide +kernel
theorem dX5_isTheoremKept_2 : decode cX5_isTheoremKept 2 = .ok (.iload_n 1, 1) := by decide +kernel
theorem dX5_isTheoremKept_3 : decode cX5_isTheoremKept 3 = .ok (.bipush 6, 2) := by decide +kernel
theorem dX5_isTheoremKept_5 : decode cX5_isTheoremKept 5 = .ok (.if_icmp .gt 54, 3) := by decide +kernel
theorem dX5_isTheoremKept_8 : decode cX5_isTheoremKept 8 = .ok (.iconst 1, 1) := by decide +kernel
theorem dX5_isTheoremKept_9 : decode cX5_isTheoremKept 9 = .ok (.istore_n 2, 1) := by decide +kernel
theorem dX5_isTheoremKept_10 : decode cX5_isTheoremKept 10 = .ok (.iload_n 2, 1) := by decide +kernel
theorem dX5_isTheoremKept_11 : decode cX5_isTheoremKept 11 = .ok (.iload_n 1, 1) := by decide +kernel
theorem dX5_isTheoremKept_12 : decode cX5_isTheoremKept 12 = .ok (.if_icmp .gt 41, 3) := by decide +kernel
theorem dX5_isTheoremKept_15 : decode cX5_isTheoremKept 15 = .ok (.aload_n 0, 1) := by decide +kernel
theorem dX5_isTheoremKept_16 : decode cX5_isTheoremKept 16 = .ok (.getfield 33, 3) := by decide +kernel
theorem dX5_isTheoremKept_19 : decode cX5_isTheoremKept 19 = .ok (.iload_n 1, 1) := by decide +kernel
theorem dX5_isTheoremKept_20 : decode cX5_isTheoremKept 20 = .ok (.iconst 1, 1) := by decide +kernel
theorem dX5_isTheoremKept_21 : decode cX5_isTheoremKept 21 = .ok (.isub, 1) := by decide +kernel
theorem dX5_isTheoremKept_22 : decode cX5_isTheoremKept 22 = .ok (.aaload, 1) := by decide +kernel
theorem dX5_isTheoremKept_23 : decode cX5_isTheoremKept 23 = .ok (.getfield 213, 3) := by decide +kernel
theorem dX5_isTheoremKept_26 : decode cX5_isTheoremKept 26 = .ok (.iload_n 1, 1) := by decide +kernel
theorem dX5_isTheoremKept_27 : decode cX5_isTheoremKept 27 = .ok (.iload_n 2, 1) := by decide +kernel
theorem dX5_isTheoremKept_28 : decode cX5_isTheoremKept 28 = .ok (.isub, 1) := by decide +kernel
theorem dX5_isTheoremKept_29 : decode cX5_isTheoremKept 29 = .ok (.iconst 1, 1) := by decide +kernel
theorem dX5_isTheoremKept_30 : decode cX5_isTheoremKept 30 = .ok (.iadd, 1) := by decide +kernel
theorem dX5_isTheoremKept_31 : decode cX5_isTheoremKept 31 = .ok (.imul, 1) := by decide +kernel
theorem dX5_isTheoremKept_32 : decode cX5_isTheoremKept 32 = .ok (.aload_n 0, 1) := by decide +kernel
theorem dX5_isTheoremKept_33 : decode cX5_isTheoremKept 33 = .ok (.getfield 37, 3) := by decide +kernel
theorem dX5_isTheoremKept_36 : decode cX5_isTheoremKept 36 = .ok (.iload_n 2, 1) := by decide +kernel
theorem dX5_isTheoremKept_37 : decode cX5_isTheoremKept 37 = .ok (.iconst 1, 1) := by decide +kernel
theorem dX5_isTheoremKept_38 : decode cX5_isTheoremKept 38 = .ok (.isub, 1) := by decide +kernel
theorem dX5_isTheoremKept_39 : decode cX5_isTheoremKept 39 = .ok (.iaload, 1) := by decide +kernel
theorem dX5_isTheoremKept_40 : decode cX5_isTheoremKept 40 = .ok (.iload_n 1, 1) := by decide +kernel
theorem dX5_isTheoremKept_41 : decode cX5_isTheoremKept 41 = .ok (.imul, 1) := by decide +kernel
theorem dX5_isTheoremKept_42 : decode cX5_isTheoremKept 42 = .ok (.if_icmp .le 5, 3) := by decide +kernel
theorem dX5_isTheoremKept_45 : decode cX5_isTheoremKept 45 = .ok (.iconst 0, 1) := by decide +kernel
theorem dX5_isTheoremKept_46 : decode cX5_isTheoremKept 46 = .ok (.ireturn, 1) := by decide +kernel
theorem dX5_isTheoremKept_47 : decode cX5_isTheoremKept 47 = .ok (.iinc 2 1, 3) := by decide +kernel
theorem dX5_isTheoremKept_50 : decode cX5_isTheoremKept 50 = .ok (.goto (-40), 3) := by decide +kernel
theorem dX5_isTheoremKept_53 : decode cX5_isTheoremKept 53 = .ok (.iinc 1 1, 3) := by decide +kernel
theorem dX5_isTheoremKept_56 : decode cX5_isTheoremKept 56 = .ok (.goto (-54), 3) := by decide +kernel
theorem dX5_isTheoremKept_59 : decode cX5_isTheoremKept 59 = .ok (.iconst 1, 1) := by decide +kernel
theorem dX5_isTheoremKept_60 : decode cX5_isTheoremKept 60 = .ok (.ireturn, 1) := by decide +kernel
theorem dX6_init_0 : decode cX6_init 0 = .ok (.aload_n 0, 1) := by decide +kernel
theorem dX6_init_1 : decode cX6_init 1 = .ok (.invokespecial 1, 3) := by decide +kernel
theorem dX6_init_4 : decode cX6_init 4 = .ok (.return_, 1) := by decide +kernel
theorem dX7_init_0 : decode cX7_init 0 = .ok (.aload_n 0, 1) := by decide +kernel
theorem dX7_init_1 : decode cX7_init 1 = .ok (.invokespecial 3, 3) := by decide +kernel
theorem dX7_init_4 : decode cX7_init 4 = .ok (.aload_n 0, 1) := by decide +kernel
theorem dX7_init_5 : decode cX7_init 5 = .ok (.new 9, 3) := by decide +kernel
theorem dX7_init_8 : decode cX7_init 8 = .ok (.dup, 1) := by decide +kernel
theorem dX7_init_9 : decode cX7_init 9 = .ok (.invokespecial 11, 3) := by decide +kernel
theorem dX7_init_12 : decode cX7_init 12 = .ok (.putfield 12, 3) := by decide +kernel
theorem dX7_init_15 : decode cX7_init 15 = .ok (.aload_n 0, 1) := by decide +kernel
theorem dX7_init_16 : decode cX7_init 16 = .ok (.iconst (-1), 1) := by decide +kernel
theorem dX7_init_17 : decode cX7_init 17 = .ok (.putfield 18, 3) := by decide +kernel
theorem dX7_init_20 : decode cX7_init 20 = .ok (.aload_n 0, 1) := by decide +kernel
theorem dX7_init_21 : decode cX7_init 21 = .ok (.iconst (-1), 1) := by decide +kernel
theorem dX7_init_22 : decode cX7_init 22 = .ok (.putfield 22, 3) := by decide +kernel
theorem dX7_init_25 : decode cX7_init 25 = .ok (.aload_n 0, 1) := by decide +kernel
theorem dX7_init_26 : decode cX7_init 26 = .ok (.iconst (-1), 1) := by decide +kernel
theorem dX7_init_27 : decode cX7_init 27 = .ok (.putfield 25, 3) := by decide +kernel
theorem dX7_init_30 : decode cX7_init 30 = .ok (.return_, 1) := by decide +kernel
theorem dX7_place_0 : decode cX7_place 0 = .ok (.iconst 0, 1) := by decide +kernel
theorem dX7_place_1 : decode cX7_place 1 = .ok (.istore_n 2, 1) := by decide +kernel
theorem dX7_place_2 : decode cX7_place 2 = .ok (.iload_n 2, 1) := by decide +kernel
theorem dX7_place_3 : decode cX7_place 3 = .ok (.aload_n 0, 1) := by decide +kernel
theorem dX7_place_4 : decode cX7_place 4 = .ok (.getfield 12, 3) := by decide +kernel
theorem dX7_place_7 : decode cX7_place 7 = .ok (.invokevirtual 28, 3) := by decide +kernel
theorem dX7_place_10 : decode cX7_place 10 = .ok (.if_icmp .ge 28, 3) := by decide +kernel
theorem dX7_place_13 : decode cX7_place 13 = .ok (.aload_n 0, 1) := by decide +kernel
theorem dX7_place_14 : decode cX7_place 14 = .ok (.getfield 12, 3) := by decide +kernel
theorem dX7_place_17 : decode cX7_place 17 = .ok (.iload_n 2, 1) := by decide +kernel
theorem dX7_place_18 : decode cX7_place 18 = .ok (.invokevirtual 32, 3) := by decide +kernel
theorem dX7_place_21 : decode cX7_place 21 = .ok (.checkcast 36, 3) := by decide +kernel
theorem dX7_place_24 : decode cX7_place 24 = .ok (.iconst 0, 1) := by decide +kernel
theorem dX7_place_25 : decode cX7_place 25 = .ok (.iaload, 1) := by decide +kernel
theorem dX7_place_26 : decode cX7_place 26 = .ok (.iload_n 1, 1) := by decide +kernel
theorem dX7_place_27 : decode cX7_place 27 = .ok (.if_icmp .ne 5, 3) := by decide +kernel
theorem dX7_place_30 : decode cX7_place 30 = .ok (.iload_n 2, 1) := by decide +kernel
theorem dX7_place_31 : decode cX7_place 31 = .ok (.ireturn, 1) := by decide +kernel
theorem dX7_place_32 : decode cX7_place 32 = .ok (.iinc 2 1, 3) := by decide +kernel
theorem dX7_place_35 : decode cX7_place 35 = .ok (.goto (-33), 3) := by decide +kernel
theorem dX7_place_38 : decode cX7_place 38 = .ok (.iconst (-1), 1) := by decide +kernel
theorem dX7_place_39 : decode cX7_place 39 = .ok (.ireturn, 1) := by decide +kernel
theorem dX7_asked_0 : decode cX7_asked 0 = .ok (.aload_n 0, 1) := by decide +kernel
theorem dX7_asked_1 : decode cX7_asked 1 = .ok (.getfield 38, 3) := by decide +kernel
theorem dX7_asked_4 : decode cX7_asked 4 = .ok (.ifCond .eq 22, 3) := by decide +kernel
theorem dX7_asked_7 : decode cX7_asked 7 = .ok (.aload_n 0, 1) := by decide +kernel
theorem dX7_asked_8 : decode cX7_asked 8 = .ok (.getfield 12, 3) := by decide +kernel
theorem dX7_asked_11 : decode cX7_asked 11 = .ok (.aload_n 0, 1) := by decide +kernel
theorem dX7_asked_12 : decode cX7_asked 12 = .ok (.getfield 12, 3) := by decide +kernel
theorem dX7_asked_15 : decode cX7_asked 15 = .ok (.iload_n 1, 1) := by decide +kernel
theorem dX7_asked_16 : decode cX7_asked 16 = .ok (.invokevirtual 42, 3) := by decide +kernel
theorem dX7_asked_19 : decode cX7_asked 19 = .ok (.checkcast 36, 3) := by decide +kernel
theorem dX7_asked_22 : decode cX7_asked 22 = .ok (.invokevirtual 45, 3) := by decide +kernel
theorem dX7_asked_25 : decode cX7_asked 25 = .ok (.pop, 1) := by decide +kernel
theorem dX7_asked_26 : decode cX7_asked 26 = .ok (.return_, 1) := by decide +kernel
theorem dX7_anew_0 : decode cX7_anew 0 = .ok (.aload_n 0, 1) := by decide +kernel
theorem dX7_anew_1 : decode cX7_anew 1 = .ok (.iload_n 1, 1) := by decide +kernel
theorem dX7_anew_2 : decode cX7_anew 2 = .ok (.putfield 38, 3) := by decide +kernel
theorem dX7_anew_5 : decode cX7_anew 5 = .ok (.aload_n 0, 1) := by decide +kernel
theorem dX7_anew_6 : decode cX7_anew 6 = .ok (.iload_n 2, 1) := by decide +kernel
theorem dX7_anew_7 : decode cX7_anew 7 = .ok (.putfield 18, 3) := by decide +kernel
theorem dX7_anew_10 : decode cX7_anew 10 = .ok (.aload_n 0, 1) := by decide +kernel
theorem dX7_anew_11 : decode cX7_anew 11 = .ok (.iconst 0, 1) := by decide +kernel
theorem dX7_anew_12 : decode cX7_anew 12 = .ok (.putfield 49, 3) := by decide +kernel
theorem dX7_anew_15 : decode cX7_anew 15 = .ok (.aload_n 0, 1) := by decide +kernel
theorem dX7_anew_16 : decode cX7_anew 16 = .ok (.iconst (-1), 1) := by decide +kernel
theorem dX7_anew_17 : decode cX7_anew 17 = .ok (.putfield 22, 3) := by decide +kernel
theorem dX7_anew_20 : decode cX7_anew 20 = .ok (.return_, 1) := by decide +kernel
theorem dX7_isOn_0 : decode cX7_isOn 0 = .ok (.aload_n 0, 1) := by decide +kernel
theorem dX7_isOn_1 : decode cX7_isOn 1 = .ok (.getfield 25, 3) := by decide +kernel
theorem dX7_isOn_4 : decode cX7_isOn 4 = .ok (.iconst (-1), 1) := by decide +kernel
theorem dX7_isOn_5 : decode cX7_isOn 5 = .ok (.if_icmp .eq 14, 3) := by decide +kernel
theorem dX7_isOn_8 : decode cX7_isOn 8 = .ok (.aload_n 0, 1) := by decide +kernel
theorem dX7_isOn_9 : decode cX7_isOn 9 = .ok (.getfield 52, 3) := by decide +kernel
theorem dX7_isOn_12 : decode cX7_isOn 12 = .ok (.ifCond .ne 7, 3) := by decide +kernel
theorem dX7_isOn_15 : decode cX7_isOn 15 = .ok (.iconst 1, 1) := by decide +kernel
theorem dX7_isOn_16 : decode cX7_isOn 16 = .ok (.goto 4, 3) := by decide +kernel
theorem dX7_isOn_19 : decode cX7_isOn 19 = .ok (.iconst 0, 1) := by decide +kernel
theorem dX7_isOn_20 : decode cX7_isOn 20 = .ok (.ireturn, 1) := by decide +kernel
theorem dX7_hasMore_0 : decode cX7_hasMore 0 = .ok (.aload_n 0, 1) := by decide +kernel
theorem dX7_hasMore_1 : decode cX7_hasMore 1 = .ok (.invokevirtual 55, 3) := by decide +kernel
theorem dX7_hasMore_4 : decode cX7_hasMore 4 = .ok (.ifCond .eq 21, 3) := by decide +kernel
theorem dX7_hasMore_7 : decode cX7_hasMore 7 = .ok (.aload_n 0, 1) := by decide +kernel
theorem dX7_hasMore_8 : decode cX7_hasMore 8 = .ok (.getfield 59, 3) := by decide +kernel
theorem dX7_hasMore_11 : decode cX7_hasMore 11 = .ok (.aload_n 0, 1) := by decide +kernel
theorem dX7_hasMore_12 : decode cX7_hasMore 12 = .ok (.getfield 12, 3) := by decide +kernel
theorem dX7_hasMore_15 : decode cX7_hasMore 15 = .ok (.invokevirtual 28, 3) := by decide +kernel
theorem dX7_hasMore_18 : decode cX7_hasMore 18 = .ok (.if_icmp .ge 7, 3) := by decide +kernel
theorem dX7_hasMore_21 : decode cX7_hasMore 21 = .ok (.iconst 1, 1) := by decide +kernel
theorem dX7_hasMore_22 : decode cX7_hasMore 22 = .ok (.goto 4, 3) := by decide +kernel
theorem dX7_hasMore_25 : decode cX7_hasMore 25 = .ok (.iconst 0, 1) := by decide +kernel
theorem dX7_hasMore_26 : decode cX7_hasMore 26 = .ok (.ireturn, 1) := by decide +kernel
theorem dX7_step_0 : decode cX7_step 0 = .ok (.aload_n 0, 1) := by decide +kernel
theorem dX7_step_1 : decode cX7_step 1 = .ok (.getfield 12, 3) := by decide +kernel
theorem dX7_step_4 : decode cX7_step 4 = .ok (.aload_n 0, 1) := by decide +kernel
theorem dX7_step_5 : decode cX7_step 5 = .ok (.getfield 59, 3) := by decide +kernel
theorem dX7_step_8 : decode cX7_step 8 = .ok (.invokevirtual 32, 3) := by decide +kernel
theorem dX7_step_11 : decode cX7_step 11 = .ok (.checkcast 36, 3) := by decide +kernel
theorem dX7_step_14 : decode cX7_step 14 = .ok (.astore_n 1, 1) := by decide +kernel
theorem dX7_step_15 : decode cX7_step 15 = .ok (.aload_n 0, 1) := by decide +kernel
theorem dX7_step_16 : decode cX7_step 16 = .ok (.dup, 1) := by decide +kernel
theorem dX7_step_17 : decode cX7_step 17 = .ok (.getfield 59, 3) := by decide +kernel
theorem dX7_step_20 : decode cX7_step 20 = .ok (.iconst 1, 1) := by decide +kernel
theorem dX7_step_21 : decode cX7_step 21 = .ok (.iadd, 1) := by decide +kernel
theorem dX7_step_22 : decode cX7_step 22 = .ok (.putfield 59, 3) := by decide +kernel
theorem dX7_step_25 : decode cX7_step 25 = .ok (.aload_n 0, 1) := by decide +kernel
theorem dX7_step_26 : decode cX7_step 26 = .ok (.iconst 1, 1) := by decide +kernel
theorem dX7_step_27 : decode cX7_step 27 = .ok (.putfield 62, 3) := by decide +kernel
theorem dX7_step_30 : decode cX7_step 30 = .ok (.aload_n 0, 1) := by decide +kernel
theorem dX7_step_31 : decode cX7_step 31 = .ok (.getfield 25, 3) := by decide +kernel
theorem dX7_step_34 : decode cX7_step 34 = .ok (.ifCond .ne 9, 3) := by decide +kernel
theorem dX7_step_37 : decode cX7_step 37 = .ok (.aload_n 1, 1) := by decide +kernel
theorem dX7_step_38 : decode cX7_step 38 = .ok (.iconst 0, 1) := by decide +kernel
theorem dX7_step_39 : decode cX7_step 39 = .ok (.iaload, 1) := by decide +kernel
theorem dX7_step_40 : decode cX7_step 40 = .ok (.goto 27, 3) := by decide +kernel
theorem dX7_step_43 : decode cX7_step 43 = .ok (.aload_n 0, 1) := by decide +kernel
theorem dX7_step_44 : decode cX7_step 44 = .ok (.getfield 25, 3) := by decide +kernel
theorem dX7_step_47 : decode cX7_step 47 = .ok (.iconst 1, 1) := by decide +kernel
theorem dX7_step_48 : decode cX7_step 48 = .ok (.if_icmp .ne 9, 3) := by decide +kernel
theorem dX7_step_51 : decode cX7_step 51 = .ok (.aload_n 1, 1) := by decide +kernel
theorem dX7_step_52 : decode cX7_step 52 = .ok (.iconst 1, 1) := by decide +kernel
theorem dX7_step_53 : decode cX7_step 53 = .ok (.iaload, 1) := by decide +kernel
theorem dX7_step_54 : decode cX7_step 54 = .ok (.goto 13, 3) := by decide +kernel
theorem dX7_step_57 : decode cX7_step 57 = .ok (.aload_n 1, 1) := by decide +kernel
theorem dX7_step_58 : decode cX7_step 58 = .ok (.iconst 0, 1) := by decide +kernel
theorem dX7_step_59 : decode cX7_step 59 = .ok (.iaload, 1) := by decide +kernel
theorem dX7_step_60 : decode cX7_step 60 = .ok (.bipush 100, 2) := by decide +kernel
theorem dX7_step_62 : decode cX7_step 62 = .ok (.imul, 1) := by decide +kernel
theorem dX7_step_63 : decode cX7_step 63 = .ok (.aload_n 1, 1) := by decide +kernel
theorem dX7_step_64 : decode cX7_step 64 = .ok (.iconst 1, 1) := by decide +kernel
theorem dX7_step_65 : decode cX7_step 65 = .ok (.iaload, 1) := by decide +kernel
theorem dX7_step_66 : decode cX7_step 66 = .ok (.iadd, 1) := by decide +kernel
theorem dX7_step_67 : decode cX7_step 67 = .ok (.ireturn, 1) := by decide +kernel
theorem dX8_init_0 : decode cX8_init 0 = .ok (.aload_n 0, 1) := by decide +kernel
theorem dX8_init_1 : decode cX8_init 1 = .ok (.invokespecial 1, 3) := by decide +kernel
theorem dX8_init_4 : decode cX8_init 4 = .ok (.aload_n 0, 1) := by decide +kernel
theorem dX8_init_5 : decode cX8_init 5 = .ok (.iconst 4, 1) := by decide +kernel
theorem dX8_init_6 : decode cX8_init 6 = .ok (.anewarray 7, 3) := by decide +kernel
theorem dX8_init_9 : decode cX8_init 9 = .ok (.dup, 1) := by decide +kernel
theorem dX8_init_10 : decode cX8_init 10 = .ok (.iconst 0, 1) := by decide +kernel
theorem dX8_init_11 : decode cX8_init 11 = .ok (.new 7, 3) := by decide +kernel
theorem dX8_init_14 : decode cX8_init 14 = .ok (.dup, 1) := by decide +kernel
theorem dX8_init_15 : decode cX8_init 15 = .ok (.invokespecial 9, 3) := by decide +kernel
theorem dX8_init_18 : decode cX8_init 18 = .ok (.aastore, 1) := by decide +kernel
theorem dX8_init_19 : decode cX8_init 19 = .ok (.dup, 1) := by decide +kernel
theorem dX8_init_20 : decode cX8_init 20 = .ok (.iconst 1, 1) := by decide +kernel
theorem dX8_init_21 : decode cX8_init 21 = .ok (.new 7, 3) := by decide +kernel
theorem dX8_init_24 : decode cX8_init 24 = .ok (.dup, 1) := by decide +kernel
theorem dX8_init_25 : decode cX8_init 25 = .ok (.invokespecial 9, 3) := by decide +kernel
theorem dX8_init_28 : decode cX8_init 28 = .ok (.aastore, 1) := by decide +kernel
theorem dX8_init_29 : decode cX8_init 29 = .ok (.dup, 1) := by decide +kernel
theorem dX8_init_30 : decode cX8_init 30 = .ok (.iconst 2, 1) := by decide +kernel
theorem dX8_init_31 : decode cX8_init 31 = .ok (.new 7, 3) := by decide +kernel
theorem dX8_init_34 : decode cX8_init 34 = .ok (.dup, 1) := by decide +kernel
theorem dX8_init_35 : decode cX8_init 35 = .ok (.invokespecial 9, 3) := by decide +kernel
theorem dX8_init_38 : decode cX8_init 38 = .ok (.aastore, 1) := by decide +kernel
theorem dX8_init_39 : decode cX8_init 39 = .ok (.dup, 1) := by decide +kernel
theorem dX8_init_40 : decode cX8_init 40 = .ok (.iconst 3, 1) := by decide +kernel
theorem dX8_init_41 : decode cX8_init 41 = .ok (.new 7, 3) := by decide +kernel
theorem dX8_init_44 : decode cX8_init 44 = .ok (.dup, 1) := by decide +kernel
theorem dX8_init_45 : decode cX8_init 45 = .ok (.invokespecial 9, 3) := by decide +kernel
theorem dX8_init_48 : decode cX8_init 48 = .ok (.aastore, 1) := by decide +kernel
theorem dX8_init_49 : decode cX8_init 49 = .ok (.putfield 10, 3) := by decide +kernel
theorem dX8_init_52 : decode cX8_init 52 = .ok (.aload_n 0, 1) := by decide +kernel
theorem dX8_init_53 : decode cX8_init 53 = .ok (.new 16, 3) := by decide +kernel
theorem dX8_init_56 : decode cX8_init 56 = .ok (.dup, 1) := by decide +kernel
theorem dX8_init_57 : decode cX8_init 57 = .ok (.invokespecial 18, 3) := by decide +kernel
theorem dX8_init_60 : decode cX8_init 60 = .ok (.putfield 19, 3) := by decide +kernel
theorem dX8_init_63 : decode cX8_init 63 = .ok (.return_, 1) := by decide +kernel
theorem dX8_thrown_0 : decode cX8_thrown 0 = .ok (.aload_n 0, 1) := by decide +kernel
theorem dX8_thrown_1 : decode cX8_thrown 1 = .ok (.getfield 23, 3) := by decide +kernel
theorem dX8_thrown_4 : decode cX8_thrown 4 = .ok (.ireturn, 1) := by decide +kernel
theorem dX8_fails_0 : decode cX8_fails 0 = .ok (.aload_n 0, 1) := by decide +kernel
theorem dX8_fails_1 : decode cX8_fails 1 = .ok (.iload_n 1, 1) := by decide +kernel
theorem dX8_fails_2 : decode cX8_fails 2 = .ok (.ifCond .eq 7, 3) := by decide +kernel
theorem dX8_fails_5 : decode cX8_fails 5 = .ok (.iconst 1, 1) := by decide +kernel
theorem dX8_fails_6 : decode cX8_fails 6 = .ok (.goto 20, 3) := by decide +kernel
theorem dX8_fails_9 : decode cX8_fails 9 = .ok (.iload_n 2, 1) := by decide +kernel
theorem dX8_fails_10 : decode cX8_fails 10 = .ok (.ifCond .eq 7, 3) := by decide +kernel
theorem dX8_fails_13 : decode cX8_fails 13 = .ok (.iconst 2, 1) := by decide +kernel
theorem dX8_fails_14 : decode cX8_fails 14 = .ok (.goto 12, 3) := by decide +kernel
theorem dX8_fails_17 : decode cX8_fails 17 = .ok (.iload_n 3, 1) := by decide +kernel
theorem dX8_fails_18 : decode cX8_fails 18 = .ok (.ifCond .eq 7, 3) := by decide +kernel
theorem dX8_fails_21 : decode cX8_fails 21 = .ok (.iconst 3, 1) := by decide +kernel
theorem dX8_fails_22 : decode cX8_fails 22 = .ok (.goto 4, 3) := by decide +kernel
theorem dX8_fails_25 : decode cX8_fails 25 = .ok (.iconst 0, 1) := by decide +kernel
theorem dX8_fails_26 : decode cX8_fails 26 = .ok (.putfield 23, 3) := by decide +kernel
theorem dX8_fails_29 : decode cX8_fails 29 = .ok (.aload_n 0, 1) := by decide +kernel
theorem dX8_fails_30 : decode cX8_fails 30 = .ok (.getfield 23, 3) := by decide +kernel
theorem dX8_fails_33 : decode cX8_fails 33 = .ok (.ifCond .le 7, 3) := by decide +kernel
theorem dX8_fails_36 : decode cX8_fails 36 = .ok (.iconst 1, 1) := by decide +kernel
theorem dX8_fails_37 : decode cX8_fails 37 = .ok (.goto 4, 3) := by decide +kernel
theorem dX8_fails_40 : decode cX8_fails 40 = .ok (.iconst 0, 1) := by decide +kernel
theorem dX8_fails_41 : decode cX8_fails 41 = .ok (.ireturn, 1) := by decide +kernel
theorem dX8_isOut_0 : decode cX8_isOut 0 = .ok (.iload_n 0, 1) := by decide +kernel
theorem dX8_isOut_1 : decode cX8_isOut 1 = .ok (.ifCond .lt 8, 3) := by decide +kernel
theorem dX8_isOut_4 : decode cX8_isOut 4 = .ok (.iload_n 0, 1) := by decide +kernel
theorem dX8_isOut_5 : decode cX8_isOut 5 = .ok (.iload_n 1, 1) := by decide +kernel
theorem dX8_isOut_6 : decode cX8_isOut 6 = .ok (.if_icmp .lt 7, 3) := by decide +kernel
theorem dX8_isOut_9 : decode cX8_isOut 9 = .ok (.iconst 1, 1) := by decide +kernel
theorem dX8_isOut_10 : decode cX8_isOut 10 = .ok (.goto 4, 3) := by decide +kernel
theorem dX8_isOut_13 : decode cX8_isOut 13 = .ok (.iconst 0, 1) := by decide +kernel
theorem dX8_isOut_14 : decode cX8_isOut 14 = .ok (.ireturn, 1) := by decide +kernel
theorem dX8_isNo_0 : decode cX8_isNo 0 = .ok (.iload_n 0, 1) := by decide +kernel
theorem dX8_isNo_1 : decode cX8_isNo 1 = .ok (.iconst 4, 1) := by decide +kernel
theorem dX8_isNo_2 : decode cX8_isNo 2 = .ok (.invokestatic 27, 3) := by decide +kernel
theorem dX8_isNo_5 : decode cX8_isNo 5 = .ok (.ireturn, 1) := by decide +kernel
theorem dX8_no_0 : decode cX8_no 0 = .ok (.aload_n 0, 1) := by decide +kernel
theorem dX8_no_1 : decode cX8_no 1 = .ok (.dup, 1) := by decide +kernel
theorem dX8_no_2 : decode cX8_no 2 = .ok (.getfield 31, 3) := by decide +kernel
theorem dX8_no_5 : decode cX8_no 5 = .ok (.iconst 1, 1) := by decide +kernel
theorem dX8_no_6 : decode cX8_no 6 = .ok (.iadd, 1) := by decide +kernel
theorem dX8_no_7 : decode cX8_no 7 = .ok (.putfield 31, 3) := by decide +kernel
theorem dX8_no_10 : decode cX8_no 10 = .ok (.bipush (-9), 2) := by decide +kernel
theorem dX8_no_12 : decode cX8_no 12 = .ok (.ireturn, 1) := by decide +kernel
theorem dX8_one_0 : decode cX8_one 0 = .ok (.iload_n 0, 1) := by decide +kernel
theorem dX8_one_1 : decode cX8_one 1 = .ok (.ifCond .eq 7, 3) := by decide +kernel
theorem dX8_one_4 : decode cX8_one 4 = .ok (.iconst 1, 1) := by decide +kernel
theorem dX8_one_5 : decode cX8_one 5 = .ok (.goto 4, 3) := by decide +kernel
theorem dX8_one_8 : decode cX8_one 8 = .ok (.iconst 0, 1) := by decide +kernel
theorem dX8_one_9 : decode cX8_one 9 = .ok (.ireturn, 1) := by decide +kernel
theorem dX8_make_0 : decode cX8_make 0 = .ok (.aload_n 0, 1) := by decide +kernel
theorem dX8_make_1 : decode cX8_make 1 = .ok (.iload_n 1, 1) := by decide +kernel
theorem dX8_make_2 : decode cX8_make 2 = .ok (.invokestatic 34, 3) := by decide +kernel
theorem dX8_make_5 : decode cX8_make 5 = .ok (.iload_n 3, 1) := by decide +kernel
theorem dX8_make_6 : decode cX8_make 6 = .ok (.iconst (-1), 1) := by decide +kernel
theorem dX8_make_7 : decode cX8_make 7 = .ok (.if_icmp .eq 18, 3) := by decide +kernel
theorem dX8_make_10 : decode cX8_make 10 = .ok (.iload_n 3, 1) := by decide +kernel
theorem dX8_make_11 : decode cX8_make 11 = .ok (.iconst 1, 1) := by decide +kernel
theorem dX8_make_12 : decode cX8_make 12 = .ok (.isub, 1) := by decide +kernel
theorem dX8_make_13 : decode cX8_make 13 = .ok (.bipush 12, 2) := by decide +kernel
theorem dX8_make_15 : decode cX8_make 15 = .ok (.invokestatic 27, 3) := by decide +kernel
theorem dX8_make_18 : decode cX8_make 18 = .ok (.ifCond .eq 7, 3) := by decide +kernel
theorem dX8_make_21 : decode cX8_make 21 = .ok (.iconst 1, 1) := by decide +kernel
theorem dX8_make_22 : decode cX8_make 22 = .ok (.goto 4, 3) := by decide +kernel
theorem dX8_make_25 : decode cX8_make 25 = .ok (.iconst 0, 1) := by decide +kernel
theorem dX8_make_26 : decode cX8_make 26 = .ok (.iconst 0, 1) := by decide +kernel
theorem dX8_make_27 : decode cX8_make 27 = .ok (.invokevirtual 38, 3) := by decide +kernel
theorem dX8_make_30 : decode cX8_make 30 = .ok (.ifCond .eq 5, 3) := by decide +kernel
theorem dX8_make_33 : decode cX8_make 33 = .ok (.iconst 0, 1) := by decide +kernel
theorem dX8_make_34 : decode cX8_make 34 = .ok (.ireturn, 1) := by decide +kernel
theorem dX8_make_35 : decode cX8_make 35 = .ok (.aload_n 0, 1) := by decide +kernel
theorem dX8_make_36 : decode cX8_make 36 = .ok (.getfield 10, 3) := by decide +kernel
theorem dX8_make_39 : decode cX8_make 39 = .ok (.iload_n 1, 1) := by decide +kernel
theorem dX8_make_40 : decode cX8_make 40 = .ok (.aaload, 1) := by decide +kernel
theorem dX8_make_41 : decode cX8_make 41 = .ok (.astore 4, 2) := by decide +kernel
theorem dX8_make_43 : decode cX8_make 43 = .ok (.aload 4, 2) := by decide +kernel
theorem dX8_make_45 : decode cX8_make 45 = .ok (.getfield 42, 3) := by decide +kernel
theorem dX8_make_48 : decode cX8_make 48 = .ok (.invokevirtual 45, 3) := by decide +kernel
theorem dX8_make_51 : decode cX8_make 51 = .ok (.istore 5, 2) := by decide +kernel
theorem dX8_make_53 : decode cX8_make 53 = .ok (.aload 4, 2) := by decide +kernel
theorem dX8_make_55 : decode cX8_make 55 = .ok (.getfield 42, 3) := by decide +kernel
theorem dX8_make_58 : decode cX8_make 58 = .ok (.invokevirtual 49, 3) := by decide +kernel
theorem dX8_make_61 : decode cX8_make 61 = .ok (.aload 4, 2) := by decide +kernel
theorem dX8_make_63 : decode cX8_make 63 = .ok (.iload_n 2, 1) := by decide +kernel
theorem dX8_make_64 : decode cX8_make 64 = .ok (.iload_n 3, 1) := by decide +kernel
theorem dX8_make_65 : decode cX8_make 65 = .ok (.invokevirtual 52, 3) := by decide +kernel
theorem dX8_make_68 : decode cX8_make 68 = .ok (.aload 4, 2) := by decide +kernel
theorem dX8_make_70 : decode cX8_make 70 = .ok (.iconst 1, 1) := by decide +kernel
theorem dX8_make_71 : decode cX8_make 71 = .ok (.putfield 56, 3) := by decide +kernel
theorem dX8_make_74 : decode cX8_make 74 = .ok (.iload 5, 2) := by decide +kernel
theorem dX8_make_76 : decode cX8_make 76 = .ok (.ireturn, 1) := by decide +kernel
theorem dX8_put_0 : decode cX8_put 0 = .ok (.aload_n 0, 1) := by decide +kernel
theorem dX8_put_1 : decode cX8_put 1 = .ok (.iload_n 1, 1) := by decide +kernel
theorem dX8_put_2 : decode cX8_put 2 = .ok (.invokestatic 34, 3) := by decide +kernel
theorem dX8_put_5 : decode cX8_put 5 = .ok (.iload_n 2, 1) := by decide +kernel
theorem dX8_put_6 : decode cX8_put 6 = .ok (.bipush 20, 2) := by decide +kernel
theorem dX8_put_8 : decode cX8_put 8 = .ok (.invokestatic 27, 3) := by decide +kernel
theorem dX8_put_11 : decode cX8_put 11 = .ok (.ifCond .ne 12, 3) := by decide +kernel
theorem dX8_put_14 : decode cX8_put 14 = .ok (.iload_n 3, 1) := by decide +kernel
theorem dX8_put_15 : decode cX8_put 15 = .ok (.bipush 100, 2) := by decide +kernel
theorem dX8_put_17 : decode cX8_put 17 = .ok (.invokestatic 27, 3) := by decide +kernel
theorem dX8_put_20 : decode cX8_put 20 = .ok (.ifCond .eq 7, 3) := by decide +kernel
theorem dX8_put_23 : decode cX8_put 23 = .ok (.iconst 1, 1) := by decide +kernel
theorem dX8_put_24 : decode cX8_put 24 = .ok (.goto 4, 3) := by decide +kernel
theorem dX8_put_27 : decode cX8_put 27 = .ok (.iconst 0, 1) := by decide +kernel
theorem dX8_put_28 : decode cX8_put 28 = .ok (.iconst 0, 1) := by decide +kernel
theorem dX8_put_29 : decode cX8_put 29 = .ok (.invokevirtual 38, 3) := by decide +kernel
theorem dX8_put_32 : decode cX8_put 32 = .ok (.ifCond .eq 5, 3) := by decide +kernel
theorem dX8_put_35 : decode cX8_put 35 = .ok (.iconst 0, 1) := by decide +kernel
theorem dX8_put_36 : decode cX8_put 36 = .ok (.ireturn, 1) := by decide +kernel
theorem dX8_put_37 : decode cX8_put 37 = .ok (.aload_n 0, 1) := by decide +kernel
theorem dX8_put_38 : decode cX8_put 38 = .ok (.getfield 10, 3) := by decide +kernel
theorem dX8_put_41 : decode cX8_put 41 = .ok (.iload_n 1, 1) := by decide +kernel
theorem dX8_put_42 : decode cX8_put 42 = .ok (.aaload, 1) := by decide +kernel
theorem dX8_put_43 : decode cX8_put 43 = .ok (.astore 4, 2) := by decide +kernel
theorem dX8_put_45 : decode cX8_put 45 = .ok (.aload 4, 2) := by decide +kernel
theorem dX8_put_47 : decode cX8_put 47 = .ok (.iconst 1, 1) := by decide +kernel
theorem dX8_put_48 : decode cX8_put 48 = .ok (.putfield 56, 3) := by decide +kernel
theorem dX8_put_51 : decode cX8_put 51 = .ok (.aload 4, 2) := by decide +kernel
theorem dX8_put_53 : decode cX8_put 53 = .ok (.iload_n 2, 1) := by decide +kernel
theorem dX8_put_54 : decode cX8_put 54 = .ok (.invokevirtual 60, 3) := by decide +kernel
theorem dX8_put_57 : decode cX8_put 57 = .ok (.istore 5, 2) := by decide +kernel
theorem dX8_put_59 : decode cX8_put 59 = .ok (.iload 5, 2) := by decide +kernel
theorem dX8_put_61 : decode cX8_put 61 = .ok (.iconst (-1), 1) := by decide +kernel
theorem dX8_put_62 : decode cX8_put 62 = .ok (.if_icmp .eq 46, 3) := by decide +kernel
theorem dX8_put_65 : decode cX8_put 65 = .ok (.aload 4, 2) := by decide +kernel
theorem dX8_put_67 : decode cX8_put 67 = .ok (.getfield 42, 3) := by decide +kernel
theorem dX8_put_70 : decode cX8_put 70 = .ok (.iload 5, 2) := by decide +kernel
theorem dX8_put_72 : decode cX8_put 72 = .ok (.invokevirtual 64, 3) := by decide +kernel
theorem dX8_put_75 : decode cX8_put 75 = .ok (.checkcast 68, 3) := by decide +kernel
theorem dX8_put_78 : decode cX8_put 78 = .ok (.iconst 1, 1) := by decide +kernel
theorem dX8_put_79 : decode cX8_put 79 = .ok (.iaload, 1) := by decide +kernel
theorem dX8_put_80 : decode cX8_put 80 = .ok (.istore 6, 2) := by decide +kernel
theorem dX8_put_82 : decode cX8_put 82 = .ok (.aload 4, 2) := by decide +kernel
theorem dX8_put_84 : decode cX8_put 84 = .ok (.getfield 42, 3) := by decide +kernel
theorem dX8_put_87 : decode cX8_put 87 = .ok (.iload 5, 2) := by decide +kernel
theorem dX8_put_89 : decode cX8_put 89 = .ok (.invokevirtual 64, 3) := by decide +kernel
theorem dX8_put_92 : decode cX8_put 92 = .ok (.checkcast 68, 3) := by decide +kernel
theorem dX8_put_95 : decode cX8_put 95 = .ok (.iconst 1, 1) := by decide +kernel
theorem dX8_put_96 : decode cX8_put 96 = .ok (.iload_n 3, 1) := by decide +kernel
theorem dX8_put_97 : decode cX8_put 97 = .ok (.iastore, 1) := by decide +kernel
theorem dX8_put_98 : decode cX8_put 98 = .ok (.aload 4, 2) := by decide +kernel
theorem dX8_put_100 : decode cX8_put 100 = .ok (.iload 5, 2) := by decide +kernel
theorem dX8_put_102 : decode cX8_put 102 = .ok (.invokevirtual 70, 3) := by decide +kernel
theorem dX8_put_105 : decode cX8_put 105 = .ok (.iload 6, 2) := by decide +kernel
theorem dX8_put_107 : decode cX8_put 107 = .ok (.ireturn, 1) := by decide +kernel
theorem dX8_put_108 : decode cX8_put 108 = .ok (.aload 4, 2) := by decide +kernel
theorem dX8_put_110 : decode cX8_put 110 = .ok (.getfield 42, 3) := by decide +kernel
theorem dX8_put_113 : decode cX8_put 113 = .ok (.iconst 2, 1) := by decide +kernel
theorem dX8_put_114 : decode cX8_put 114 = .ok (.newarray .int, 2) := by decide +kernel
theorem dX8_put_116 : decode cX8_put 116 = .ok (.dup, 1) := by decide +kernel
theorem dX8_put_117 : decode cX8_put 117 = .ok (.iconst 0, 1) := by decide +kernel
theorem dX8_put_118 : decode cX8_put 118 = .ok (.iload_n 2, 1) := by decide +kernel
theorem dX8_put_119 : decode cX8_put 119 = .ok (.iastore, 1) := by decide +kernel
theorem dX8_put_120 : decode cX8_put 120 = .ok (.dup, 1) := by decide +kernel
theorem dX8_put_121 : decode cX8_put 121 = .ok (.iconst 1, 1) := by decide +kernel
theorem dX8_put_122 : decode cX8_put 122 = .ok (.iload_n 3, 1) := by decide +kernel
theorem dX8_put_123 : decode cX8_put 123 = .ok (.iastore, 1) := by decide +kernel
theorem dX8_put_124 : decode cX8_put 124 = .ok (.invokevirtual 74, 3) := by decide +kernel
theorem dX8_put_127 : decode cX8_put 127 = .ok (.pop, 1) := by decide +kernel
theorem dX8_put_128 : decode cX8_put 128 = .ok (.aload 4, 2) := by decide +kernel
theorem dX8_put_130 : decode cX8_put 130 = .ok (.getfield 78, 3) := by decide +kernel
theorem dX8_put_133 : decode cX8_put 133 = .ok (.iconst (-1), 1) := by decide +kernel
theorem dX8_put_134 : decode cX8_put 134 = .ok (.if_icmp .eq 49, 3) := by decide +kernel
theorem dX8_put_137 : decode cX8_put 137 = .ok (.aload 4, 2) := by decide +kernel
theorem dX8_put_139 : decode cX8_put 139 = .ok (.getfield 42, 3) := by decide +kernel
theorem dX8_put_142 : decode cX8_put 142 = .ok (.invokevirtual 45, 3) := by decide +kernel
theorem dX8_put_145 : decode cX8_put 145 = .ok (.aload 4, 2) := by decide +kernel
theorem dX8_put_147 : decode cX8_put 147 = .ok (.getfield 78, 3) := by decide +kernel
theorem dX8_put_150 : decode cX8_put 150 = .ok (.if_icmp .le 33, 3) := by decide +kernel
theorem dX8_put_153 : decode cX8_put 153 = .ok (.aload 4, 2) := by decide +kernel
theorem dX8_put_155 : decode cX8_put 155 = .ok (.dup, 1) := by decide +kernel
theorem dX8_put_156 : decode cX8_put 156 = .ok (.getfield 81, 3) := by decide +kernel
theorem dX8_put_159 : decode cX8_put 159 = .ok (.iconst 1, 1) := by decide +kernel
theorem dX8_put_160 : decode cX8_put 160 = .ok (.iadd, 1) := by decide +kernel
theorem dX8_put_161 : decode cX8_put 161 = .ok (.putfield 81, 3) := by decide +kernel
theorem dX8_put_164 : decode cX8_put 164 = .ok (.aload 4, 2) := by decide +kernel
theorem dX8_put_166 : decode cX8_put 166 = .ok (.aload 4, 2) := by decide +kernel
theorem dX8_put_168 : decode cX8_put 168 = .ok (.getfield 42, 3) := by decide +kernel
theorem dX8_put_171 : decode cX8_put 171 = .ok (.iconst 0, 1) := by decide +kernel
theorem dX8_put_172 : decode cX8_put 172 = .ok (.invokevirtual 84, 3) := by decide +kernel
theorem dX8_put_175 : decode cX8_put 175 = .ok (.checkcast 68, 3) := by decide +kernel
theorem dX8_put_178 : decode cX8_put 178 = .ok (.iconst 0, 1) := by decide +kernel
theorem dX8_put_179 : decode cX8_put 179 = .ok (.iaload, 1) := by decide +kernel
theorem dX8_put_180 : decode cX8_put 180 = .ok (.putfield 87, 3) := by decide +kernel
theorem dX8_put_183 : decode cX8_put 183 = .ok (.iconst (-1), 1) := by decide +kernel
theorem dX8_put_184 : decode cX8_put 184 = .ok (.ireturn, 1) := by decide +kernel
theorem dX8_putIfAbsent_0 : decode cX8_putIfAbsent 0 = .ok (.aload_n 0, 1) := by decide +kernel
theorem dX8_putIfAbsent_1 : decode cX8_putIfAbsent 1 = .ok (.iload_n 1, 1) := by decide +kernel
theorem dX8_putIfAbsent_2 : decode cX8_putIfAbsent 2 = .ok (.invokestatic 34, 3) := by decide +kernel
theorem dX8_putIfAbsent_5 : decode cX8_putIfAbsent 5 = .ok (.iload_n 2, 1) := by decide +kernel
theorem dX8_putIfAbsent_6 : decode cX8_putIfAbsent 6 = .ok (.bipush 20, 2) := by decide +kernel
theorem dX8_putIfAbsent_8 : decode cX8_putIfAbsent 8 = .ok (.invokestatic 27, 3) := by decide +kernel
theorem dX8_putIfAbsent_11 : decode cX8_putIfAbsent 11 = .ok (.ifCond .ne 12, 3) := by decide +kernel
theorem dX8_putIfAbsent_14 : decode cX8_putIfAbsent 14 = .ok (.iload_n 3, 1) := by decide +kernel
theorem dX8_putIfAbsent_15 : decode cX8_putIfAbsent 15 = .ok (.bipush 100, 2) := by decide +kernel
theorem dX8_putIfAbsent_17 : decode cX8_putIfAbsent 17 = .ok (.invokestatic 27, 3) := by decide +kernel
theorem dX8_putIfAbsent_20 : decode cX8_putIfAbsent 20 = .ok (.ifCond .eq 7, 3) := by decide +kernel
theorem dX8_putIfAbsent_23 : decode cX8_putIfAbsent 23 = .ok (.iconst 1, 1) := by decide +kernel
theorem dX8_putIfAbsent_24 : decode cX8_putIfAbsent 24 = .ok (.goto 4, 3) := by decide +kernel
theorem dX8_putIfAbsent_27 : decode cX8_putIfAbsent 27 = .ok (.iconst 0, 1) := by decide +kernel
theorem dX8_putIfAbsent_28 : decode cX8_putIfAbsent 28 = .ok (.iload_n 1, 1) := by decide +kernel
theorem dX8_putIfAbsent_29 : decode cX8_putIfAbsent 29 = .ok (.invokestatic 34, 3) := by decide +kernel
theorem dX8_putIfAbsent_32 : decode cX8_putIfAbsent 32 = .ok (.ifCond .ne 20, 3) := by decide +kernel
theorem dX8_putIfAbsent_35 : decode cX8_putIfAbsent 35 = .ok (.aload_n 0, 1) := by decide +kernel
theorem dX8_putIfAbsent_36 : decode cX8_putIfAbsent 36 = .ok (.getfield 10, 3) := by decide +kernel
theorem dX8_putIfAbsent_39 : decode cX8_putIfAbsent 39 = .ok (.iload_n 1, 1) := by decide +kernel
theorem dX8_putIfAbsent_40 : decode cX8_putIfAbsent 40 = .ok (.aaload, 1) := by decide +kernel
theorem dX8_putIfAbsent_41 : decode cX8_putIfAbsent 41 = .ok (.getfield 78, 3) := by decide +kernel
theorem dX8_putIfAbsent_44 : decode cX8_putIfAbsent 44 = .ok (.iconst (-1), 1) := by decide +kernel
theorem dX8_putIfAbsent_45 : decode cX8_putIfAbsent 45 = .ok (.if_icmp .eq 7, 3) := by decide +kernel
theorem dX8_putIfAbsent_48 : decode cX8_putIfAbsent 48 = .ok (.iconst 1, 1) := by decide +kernel
theorem dX8_putIfAbsent_49 : decode cX8_putIfAbsent 49 = .ok (.goto 4, 3) := by decide +kernel
theorem dX8_putIfAbsent_52 : decode cX8_putIfAbsent 52 = .ok (.iconst 0, 1) := by decide +kernel
theorem dX8_putIfAbsent_53 : decode cX8_putIfAbsent 53 = .ok (.invokevirtual 38, 3) := by decide +kernel
theorem dX8_putIfAbsent_56 : decode cX8_putIfAbsent 56 = .ok (.ifCond .eq 5, 3) := by decide +kernel
theorem dX8_putIfAbsent_59 : decode cX8_putIfAbsent 59 = .ok (.iconst 0, 1) := by decide +kernel
theorem dX8_putIfAbsent_60 : decode cX8_putIfAbsent 60 = .ok (.ireturn, 1) := by decide +kernel
theorem dX8_putIfAbsent_61 : decode cX8_putIfAbsent 61 = .ok (.aload_n 0, 1) := by decide +kernel
theorem dX8_putIfAbsent_62 : decode cX8_putIfAbsent 62 = .ok (.getfield 10, 3) := by decide +kernel
theorem dX8_putIfAbsent_65 : decode cX8_putIfAbsent 65 = .ok (.iload_n 1, 1) := by decide +kernel
theorem dX8_putIfAbsent_66 : decode cX8_putIfAbsent 66 = .ok (.aaload, 1) := by decide +kernel
theorem dX8_putIfAbsent_67 : decode cX8_putIfAbsent 67 = .ok (.astore 4, 2) := by decide +kernel
theorem dX8_putIfAbsent_69 : decode cX8_putIfAbsent 69 = .ok (.aload 4, 2) := by decide +kernel
theorem dX8_putIfAbsent_71 : decode cX8_putIfAbsent 71 = .ok (.iconst 1, 1) := by decide +kernel
theorem dX8_putIfAbsent_72 : decode cX8_putIfAbsent 72 = .ok (.putfield 56, 3) := by decide +kernel
theorem dX8_putIfAbsent_75 : decode cX8_putIfAbsent 75 = .ok (.aload 4, 2) := by decide +kernel
theorem dX8_putIfAbsent_77 : decode cX8_putIfAbsent 77 = .ok (.iload_n 2, 1) := by decide +kernel
theorem dX8_putIfAbsent_78 : decode cX8_putIfAbsent 78 = .ok (.invokevirtual 60, 3) := by decide +kernel
theorem dX8_putIfAbsent_81 : decode cX8_putIfAbsent 81 = .ok (.istore 5, 2) := by decide +kernel
theorem dX8_putIfAbsent_83 : decode cX8_putIfAbsent 83 = .ok (.iload 5, 2) := by decide +kernel
theorem dX8_putIfAbsent_85 : decode cX8_putIfAbsent 85 = .ok (.iconst (-1), 1) := by decide +kernel
theorem dX8_putIfAbsent_86 : decode cX8_putIfAbsent 86 = .ok (.if_icmp .ne 25, 3) := by decide +kernel
theorem dX8_putIfAbsent_89 : decode cX8_putIfAbsent 89 = .ok (.aload 4, 2) := by decide +kernel
theorem dX8_putIfAbsent_91 : decode cX8_putIfAbsent 91 = .ok (.getfield 42, 3) := by decide +kernel
theorem dX8_putIfAbsent_94 : decode cX8_putIfAbsent 94 = .ok (.iconst 2, 1) := by decide +kernel
theorem dX8_putIfAbsent_95 : decode cX8_putIfAbsent 95 = .ok (.newarray .int, 2) := by decide +kernel
theorem dX8_putIfAbsent_97 : decode cX8_putIfAbsent 97 = .ok (.dup, 1) := by decide +kernel
theorem dX8_putIfAbsent_98 : decode cX8_putIfAbsent 98 = .ok (.iconst 0, 1) := by decide +kernel
theorem dX8_putIfAbsent_99 : decode cX8_putIfAbsent 99 = .ok (.iload_n 2, 1) := by decide +kernel
theorem dX8_putIfAbsent_100 : decode cX8_putIfAbsent 100 = .ok (.iastore, 1) := by decide +kernel
theorem dX8_putIfAbsent_101 : decode cX8_putIfAbsent 101 = .ok (.dup, 1) := by decide +kernel
theorem dX8_putIfAbsent_102 : decode cX8_putIfAbsent 102 = .ok (.iconst 1, 1) := by decide +kernel
theorem dX8_putIfAbsent_103 : decode cX8_putIfAbsent 103 = .ok (.iload_n 3, 1) := by decide +kernel
theorem dX8_putIfAbsent_104 : decode cX8_putIfAbsent 104 = .ok (.iastore, 1) := by decide +kernel
theorem dX8_putIfAbsent_105 : decode cX8_putIfAbsent 105 = .ok (.invokevirtual 74, 3) := by decide +kernel
theorem dX8_putIfAbsent_108 : decode cX8_putIfAbsent 108 = .ok (.pop, 1) := by decide +kernel
theorem dX8_putIfAbsent_109 : decode cX8_putIfAbsent 109 = .ok (.iconst (-1), 1) := by decide +kernel
theorem dX8_putIfAbsent_110 : decode cX8_putIfAbsent 110 = .ok (.ireturn, 1) := by decide +kernel
theorem dX8_putIfAbsent_111 : decode cX8_putIfAbsent 111 = .ok (.aload 4, 2) := by decide +kernel
theorem dX8_putIfAbsent_113 : decode cX8_putIfAbsent 113 = .ok (.getfield 42, 3) := by decide +kernel
theorem dX8_putIfAbsent_116 : decode cX8_putIfAbsent 116 = .ok (.iload 5, 2) := by decide +kernel
theorem dX8_putIfAbsent_118 : decode cX8_putIfAbsent 118 = .ok (.invokevirtual 64, 3) := by decide +kernel
theorem dX8_putIfAbsent_121 : decode cX8_putIfAbsent 121 = .ok (.checkcast 68, 3) := by decide +kernel
theorem dX8_putIfAbsent_124 : decode cX8_putIfAbsent 124 = .ok (.iconst 1, 1) := by decide +kernel
theorem dX8_putIfAbsent_125 : decode cX8_putIfAbsent 125 = .ok (.iaload, 1) := by decide +kernel
theorem dX8_putIfAbsent_126 : decode cX8_putIfAbsent 126 = .ok (.istore 6, 2) := by decide +kernel
theorem dX8_putIfAbsent_128 : decode cX8_putIfAbsent 128 = .ok (.aload 4, 2) := by decide +kernel
theorem dX8_putIfAbsent_130 : decode cX8_putIfAbsent 130 = .ok (.iload 5, 2) := by decide +kernel
theorem dX8_putIfAbsent_132 : decode cX8_putIfAbsent 132 = .ok (.invokevirtual 70, 3) := by decide +kernel
theorem dX8_putIfAbsent_135 : decode cX8_putIfAbsent 135 = .ok (.iload 6, 2) := by decide +kernel
theorem dX8_putIfAbsent_137 : decode cX8_putIfAbsent 137 = .ok (.ireturn, 1) := by decide +kernel
theorem dX8_got_0 : decode cX8_got 0 = .ok (.aload_n 0, 1) := by decide +kernel
theorem dX8_got_1 : decode cX8_got 1 = .ok (.getfield 10, 3) := by decide +kernel
theorem dX8_got_4 : decode cX8_got 4 = .ok (.iload_n 1, 1) := by decide +kernel
theorem dX8_got_5 : decode cX8_got 5 = .ok (.aaload, 1) := by decide +kernel
theorem dX8_got_6 : decode cX8_got 6 = .ok (.astore 4, 2) := by decide +kernel
theorem dX8_got_8 : decode cX8_got 8 = .ok (.aload 4, 2) := by decide +kernel
theorem dX8_got_10 : decode cX8_got 10 = .ok (.iconst 1, 1) := by decide +kernel
theorem dX8_got_11 : decode cX8_got 11 = .ok (.putfield 56, 3) := by decide +kernel
theorem dX8_got_14 : decode cX8_got 14 = .ok (.aload 4, 2) := by decide +kernel
theorem dX8_got_16 : decode cX8_got 16 = .ok (.iload_n 2, 1) := by decide +kernel
theorem dX8_got_17 : decode cX8_got 17 = .ok (.invokevirtual 60, 3) := by decide +kernel
theorem dX8_got_20 : decode cX8_got 20 = .ok (.istore 5, 2) := by decide +kernel
theorem dX8_got_22 : decode cX8_got 22 = .ok (.iload 5, 2) := by decide +kernel
theorem dX8_got_24 : decode cX8_got 24 = .ok (.iconst (-1), 1) := by decide +kernel
theorem dX8_got_25 : decode cX8_got 25 = .ok (.if_icmp .ne 5, 3) := by decide +kernel
theorem dX8_got_28 : decode cX8_got 28 = .ok (.iload_n 3, 1) := by decide +kernel
theorem dX8_got_29 : decode cX8_got 29 = .ok (.ireturn, 1) := by decide +kernel
theorem dX8_got_30 : decode cX8_got 30 = .ok (.aload 4, 2) := by decide +kernel
theorem dX8_got_32 : decode cX8_got 32 = .ok (.getfield 42, 3) := by decide +kernel
theorem dX8_got_35 : decode cX8_got 35 = .ok (.iload 5, 2) := by decide +kernel
theorem dX8_got_37 : decode cX8_got 37 = .ok (.invokevirtual 64, 3) := by decide +kernel
theorem dX8_got_40 : decode cX8_got 40 = .ok (.checkcast 68, 3) := by decide +kernel
theorem dX8_got_43 : decode cX8_got 43 = .ok (.iconst 1, 1) := by decide +kernel
theorem dX8_got_44 : decode cX8_got 44 = .ok (.iaload, 1) := by decide +kernel
theorem dX8_got_45 : decode cX8_got 45 = .ok (.istore 6, 2) := by decide +kernel
theorem dX8_got_47 : decode cX8_got 47 = .ok (.aload 4, 2) := by decide +kernel
theorem dX8_got_49 : decode cX8_got 49 = .ok (.iload 5, 2) := by decide +kernel
theorem dX8_got_51 : decode cX8_got 51 = .ok (.invokevirtual 70, 3) := by decide +kernel
theorem dX8_got_54 : decode cX8_got 54 = .ok (.iload 6, 2) := by decide +kernel
theorem dX8_got_56 : decode cX8_got 56 = .ok (.ireturn, 1) := by decide +kernel
theorem dX8_isNoKey_0 : decode cX8_isNoKey 0 = .ok (.aload_n 0, 1) := by decide +kernel
theorem dX8_isNoKey_1 : decode cX8_isNoKey 1 = .ok (.iload_n 1, 1) := by decide +kernel
theorem dX8_isNoKey_2 : decode cX8_isNoKey 2 = .ok (.invokestatic 34, 3) := by decide +kernel
theorem dX8_isNoKey_5 : decode cX8_isNoKey 5 = .ok (.iload_n 2, 1) := by decide +kernel
theorem dX8_isNoKey_6 : decode cX8_isNoKey 6 = .ok (.bipush 20, 2) := by decide +kernel
theorem dX8_isNoKey_8 : decode cX8_isNoKey 8 = .ok (.invokestatic 27, 3) := by decide +kernel
theorem dX8_isNoKey_11 : decode cX8_isNoKey 11 = .ok (.iconst 0, 1) := by decide +kernel
theorem dX8_isNoKey_12 : decode cX8_isNoKey 12 = .ok (.invokevirtual 38, 3) := by decide +kernel
theorem dX8_isNoKey_15 : decode cX8_isNoKey 15 = .ok (.ireturn, 1) := by decide +kernel
theorem dX8_get_0 : decode cX8_get 0 = .ok (.aload_n 0, 1) := by decide +kernel
theorem dX8_get_1 : decode cX8_get 1 = .ok (.iload_n 1, 1) := by decide +kernel
theorem dX8_get_2 : decode cX8_get 2 = .ok (.iload_n 2, 1) := by decide +kernel
theorem dX8_get_3 : decode cX8_get 3 = .ok (.invokevirtual 90, 3) := by decide +kernel
theorem dX8_get_6 : decode cX8_get 6 = .ok (.ifCond .eq 7, 3) := by decide +kernel
theorem dX8_get_9 : decode cX8_get 9 = .ok (.iconst 0, 1) := by decide +kernel
theorem dX8_get_10 : decode cX8_get 10 = .ok (.goto 10, 3) := by decide +kernel
theorem dX8_get_13 : decode cX8_get 13 = .ok (.aload_n 0, 1) := by decide +kernel
theorem dX8_get_14 : decode cX8_get 14 = .ok (.iload_n 1, 1) := by decide +kernel
theorem dX8_get_15 : decode cX8_get 15 = .ok (.iload_n 2, 1) := by decide +kernel
theorem dX8_get_16 : decode cX8_get 16 = .ok (.iconst (-1), 1) := by decide +kernel
theorem dX8_get_17 : decode cX8_get 17 = .ok (.invokevirtual 93, 3) := by decide +kernel
theorem dX8_get_20 : decode cX8_get 20 = .ok (.ireturn, 1) := by decide +kernel
theorem dX8_getOr_0 : decode cX8_getOr 0 = .ok (.aload_n 0, 1) := by decide +kernel
theorem dX8_getOr_1 : decode cX8_getOr 1 = .ok (.iload_n 1, 1) := by decide +kernel
theorem dX8_getOr_2 : decode cX8_getOr 2 = .ok (.iload_n 2, 1) := by decide +kernel
theorem dX8_getOr_3 : decode cX8_getOr 3 = .ok (.invokevirtual 90, 3) := by decide +kernel
theorem dX8_getOr_6 : decode cX8_getOr 6 = .ok (.ifCond .eq 7, 3) := by decide +kernel
theorem dX8_getOr_9 : decode cX8_getOr 9 = .ok (.iconst 0, 1) := by decide +kernel
theorem dX8_getOr_10 : decode cX8_getOr 10 = .ok (.goto 10, 3) := by decide +kernel
theorem dX8_getOr_13 : decode cX8_getOr 13 = .ok (.aload_n 0, 1) := by decide +kernel
theorem dX8_getOr_14 : decode cX8_getOr 14 = .ok (.iload_n 1, 1) := by decide +kernel
theorem dX8_getOr_15 : decode cX8_getOr 15 = .ok (.iload_n 2, 1) := by decide +kernel
theorem dX8_getOr_16 : decode cX8_getOr 16 = .ok (.iload_n 3, 1) := by decide +kernel
theorem dX8_getOr_17 : decode cX8_getOr 17 = .ok (.invokevirtual 93, 3) := by decide +kernel
theorem dX8_getOr_20 : decode cX8_getOr 20 = .ok (.ireturn, 1) := by decide +kernel
theorem dX8_remove_0 : decode cX8_remove 0 = .ok (.aload_n 0, 1) := by decide +kernel
theorem dX8_remove_1 : decode cX8_remove 1 = .ok (.iload_n 1, 1) := by decide +kernel
theorem dX8_remove_2 : decode cX8_remove 2 = .ok (.iload_n 2, 1) := by decide +kernel
theorem dX8_remove_3 : decode cX8_remove 3 = .ok (.invokevirtual 90, 3) := by decide +kernel
theorem dX8_remove_6 : decode cX8_remove 6 = .ok (.ifCond .eq 5, 3) := by decide +kernel
theorem dX8_remove_9 : decode cX8_remove 9 = .ok (.iconst 0, 1) := by decide +kernel
theorem dX8_remove_10 : decode cX8_remove 10 = .ok (.ireturn, 1) := by decide +kernel
theorem dX8_remove_11 : decode cX8_remove 11 = .ok (.aload_n 0, 1) := by decide +kernel
theorem dX8_remove_12 : decode cX8_remove 12 = .ok (.getfield 10, 3) := by decide +kernel
theorem dX8_remove_15 : decode cX8_remove 15 = .ok (.iload_n 1, 1) := by decide +kernel
theorem dX8_remove_16 : decode cX8_remove 16 = .ok (.aaload, 1) := by decide +kernel
theorem dX8_remove_17 : decode cX8_remove 17 = .ok (.astore_n 3, 1) := by decide +kernel
theorem dX8_remove_18 : decode cX8_remove 18 = .ok (.aload_n 3, 1) := by decide +kernel
theorem dX8_remove_19 : decode cX8_remove 19 = .ok (.iconst 1, 1) := by decide +kernel
theorem dX8_remove_20 : decode cX8_remove 20 = .ok (.putfield 56, 3) := by decide +kernel
theorem dX8_remove_23 : decode cX8_remove 23 = .ok (.aload_n 3, 1) := by decide +kernel
theorem dX8_remove_24 : decode cX8_remove 24 = .ok (.iload_n 2, 1) := by decide +kernel
theorem dX8_remove_25 : decode cX8_remove 25 = .ok (.invokevirtual 60, 3) := by decide +kernel
theorem dX8_remove_28 : decode cX8_remove 28 = .ok (.istore 4, 2) := by decide +kernel
theorem dX8_remove_30 : decode cX8_remove 30 = .ok (.iload 4, 2) := by decide +kernel
theorem dX8_remove_32 : decode cX8_remove 32 = .ok (.iconst (-1), 1) := by decide +kernel
theorem dX8_remove_33 : decode cX8_remove 33 = .ok (.if_icmp .ne 7, 3) := by decide +kernel
theorem dX8_remove_36 : decode cX8_remove 36 = .ok (.iconst (-1), 1) := by decide +kernel
theorem dX8_remove_37 : decode cX8_remove 37 = .ok (.goto 17, 3) := by decide +kernel
theorem dX8_remove_40 : decode cX8_remove 40 = .ok (.aload_n 3, 1) := by decide +kernel
theorem dX8_remove_41 : decode cX8_remove 41 = .ok (.getfield 42, 3) := by decide +kernel
theorem dX8_remove_44 : decode cX8_remove 44 = .ok (.iload 4, 2) := by decide +kernel
theorem dX8_remove_46 : decode cX8_remove 46 = .ok (.invokevirtual 84, 3) := by decide +kernel
theorem dX8_remove_49 : decode cX8_remove 49 = .ok (.checkcast 68, 3) := by decide +kernel
theorem dX8_remove_52 : decode cX8_remove 52 = .ok (.iconst 1, 1) := by decide +kernel
theorem dX8_remove_53 : decode cX8_remove 53 = .ok (.iaload, 1) := by decide +kernel
theorem dX8_remove_54 : decode cX8_remove 54 = .ok (.ireturn, 1) := by decide +kernel
theorem dX8_clear_0 : decode cX8_clear 0 = .ok (.aload_n 0, 1) := by decide +kernel
theorem dX8_clear_1 : decode cX8_clear 1 = .ok (.iload_n 1, 1) := by decide +kernel
theorem dX8_clear_2 : decode cX8_clear 2 = .ok (.invokestatic 34, 3) := by decide +kernel
theorem dX8_clear_5 : decode cX8_clear 5 = .ok (.iconst 0, 1) := by decide +kernel
theorem dX8_clear_6 : decode cX8_clear 6 = .ok (.iconst 0, 1) := by decide +kernel
theorem dX8_clear_7 : decode cX8_clear 7 = .ok (.invokevirtual 38, 3) := by decide +kernel
theorem dX8_clear_10 : decode cX8_clear 10 = .ok (.ifCond .eq 5, 3) := by decide +kernel
theorem dX8_clear_13 : decode cX8_clear 13 = .ok (.iconst 0, 1) := by decide +kernel
theorem dX8_clear_14 : decode cX8_clear 14 = .ok (.ireturn, 1) := by decide +kernel
theorem dX8_clear_15 : decode cX8_clear 15 = .ok (.aload_n 0, 1) := by decide +kernel
theorem dX8_clear_16 : decode cX8_clear 16 = .ok (.getfield 10, 3) := by decide +kernel
theorem dX8_clear_19 : decode cX8_clear 19 = .ok (.iload_n 1, 1) := by decide +kernel
theorem dX8_clear_20 : decode cX8_clear 20 = .ok (.aaload, 1) := by decide +kernel
theorem dX8_clear_21 : decode cX8_clear 21 = .ok (.getfield 42, 3) := by decide +kernel
theorem dX8_clear_24 : decode cX8_clear 24 = .ok (.invokevirtual 45, 3) := by decide +kernel
theorem dX8_clear_27 : decode cX8_clear 27 = .ok (.istore_n 2, 1) := by decide +kernel
theorem dX8_clear_28 : decode cX8_clear 28 = .ok (.aload_n 0, 1) := by decide +kernel
theorem dX8_clear_29 : decode cX8_clear 29 = .ok (.getfield 10, 3) := by decide +kernel
theorem dX8_clear_32 : decode cX8_clear 32 = .ok (.iload_n 1, 1) := by decide +kernel
theorem dX8_clear_33 : decode cX8_clear 33 = .ok (.aaload, 1) := by decide +kernel
theorem dX8_clear_34 : decode cX8_clear 34 = .ok (.getfield 42, 3) := by decide +kernel
theorem dX8_clear_37 : decode cX8_clear 37 = .ok (.invokevirtual 49, 3) := by decide +kernel
theorem dX8_clear_40 : decode cX8_clear 40 = .ok (.aload_n 0, 1) := by decide +kernel
theorem dX8_clear_41 : decode cX8_clear 41 = .ok (.getfield 10, 3) := by decide +kernel
theorem dX8_clear_44 : decode cX8_clear 44 = .ok (.iload_n 1, 1) := by decide +kernel
theorem dX8_clear_45 : decode cX8_clear 45 = .ok (.aaload, 1) := by decide +kernel
theorem dX8_clear_46 : decode cX8_clear 46 = .ok (.iconst 1, 1) := by decide +kernel
theorem dX8_clear_47 : decode cX8_clear 47 = .ok (.putfield 56, 3) := by decide +kernel
theorem dX8_clear_50 : decode cX8_clear 50 = .ok (.iload_n 2, 1) := by decide +kernel
theorem dX8_clear_51 : decode cX8_clear 51 = .ok (.ireturn, 1) := by decide +kernel
theorem dX8_set_0 : decode cX8_set 0 = .ok (.aload_n 0, 1) := by decide +kernel
theorem dX8_set_1 : decode cX8_set 1 = .ok (.iload_n 1, 1) := by decide +kernel
theorem dX8_set_2 : decode cX8_set 2 = .ok (.invokestatic 34, 3) := by decide +kernel
theorem dX8_set_5 : decode cX8_set 5 = .ok (.iload_n 3, 1) := by decide +kernel
theorem dX8_set_6 : decode cX8_set 6 = .ok (.bipush 100, 2) := by decide +kernel
theorem dX8_set_8 : decode cX8_set 8 = .ok (.invokestatic 27, 3) := by decide +kernel
theorem dX8_set_11 : decode cX8_set 11 = .ok (.iconst 0, 1) := by decide +kernel
theorem dX8_set_12 : decode cX8_set 12 = .ok (.invokevirtual 38, 3) := by decide +kernel
theorem dX8_set_15 : decode cX8_set 15 = .ok (.ifCond .eq 5, 3) := by decide +kernel
theorem dX8_set_18 : decode cX8_set 18 = .ok (.iconst 0, 1) := by decide +kernel
theorem dX8_set_19 : decode cX8_set 19 = .ok (.ireturn, 1) := by decide +kernel
theorem dX8_set_20 : decode cX8_set 20 = .ok (.iload_n 2, 1) := by decide +kernel
theorem dX8_set_21 : decode cX8_set 21 = .ok (.aload_n 0, 1) := by decide +kernel
theorem dX8_set_22 : decode cX8_set 22 = .ok (.getfield 10, 3) := by decide +kernel
theorem dX8_set_25 : decode cX8_set 25 = .ok (.iload_n 1, 1) := by decide +kernel
theorem dX8_set_26 : decode cX8_set 26 = .ok (.aaload, 1) := by decide +kernel
theorem dX8_set_27 : decode cX8_set 27 = .ok (.getfield 42, 3) := by decide +kernel
theorem dX8_set_30 : decode cX8_set 30 = .ok (.invokevirtual 45, 3) := by decide +kernel
theorem dX8_set_33 : decode cX8_set 33 = .ok (.invokestatic 27, 3) := by decide +kernel
theorem dX8_set_36 : decode cX8_set 36 = .ok (.ifCond .eq 8, 3) := by decide +kernel
theorem dX8_set_39 : decode cX8_set 39 = .ok (.aload_n 0, 1) := by decide +kernel
theorem dX8_set_40 : decode cX8_set 40 = .ok (.invokevirtual 97, 3) := by decide +kernel
theorem dX8_set_43 : decode cX8_set 43 = .ok (.ireturn, 1) := by decide +kernel
theorem dX8_set_44 : decode cX8_set 44 = .ok (.aload_n 0, 1) := by decide +kernel
theorem dX8_set_45 : decode cX8_set 45 = .ok (.getfield 10, 3) := by decide +kernel
theorem dX8_set_48 : decode cX8_set 48 = .ok (.iload_n 1, 1) := by decide +kernel
theorem dX8_set_49 : decode cX8_set 49 = .ok (.aaload, 1) := by decide +kernel
theorem dX8_set_50 : decode cX8_set 50 = .ok (.getfield 42, 3) := by decide +kernel
theorem dX8_set_53 : decode cX8_set 53 = .ok (.iload_n 2, 1) := by decide +kernel
theorem dX8_set_54 : decode cX8_set 54 = .ok (.invokevirtual 64, 3) := by decide +kernel
theorem dX8_set_57 : decode cX8_set 57 = .ok (.checkcast 68, 3) := by decide +kernel
theorem dX8_set_60 : decode cX8_set 60 = .ok (.iconst 1, 1) := by decide +kernel
theorem dX8_set_61 : decode cX8_set 61 = .ok (.iaload, 1) := by decide +kernel
theorem dX8_set_62 : decode cX8_set 62 = .ok (.istore 4, 2) := by decide +kernel
theorem dX8_set_64 : decode cX8_set 64 = .ok (.aload_n 0, 1) := by decide +kernel
theorem dX8_set_65 : decode cX8_set 65 = .ok (.getfield 10, 3) := by decide +kernel
theorem dX8_set_68 : decode cX8_set 68 = .ok (.iload_n 1, 1) := by decide +kernel
theorem dX8_set_69 : decode cX8_set 69 = .ok (.aaload, 1) := by decide +kernel
theorem dX8_set_70 : decode cX8_set 70 = .ok (.getfield 42, 3) := by decide +kernel
theorem dX8_set_73 : decode cX8_set 73 = .ok (.iload_n 2, 1) := by decide +kernel
theorem dX8_set_74 : decode cX8_set 74 = .ok (.invokevirtual 64, 3) := by decide +kernel
theorem dX8_set_77 : decode cX8_set 77 = .ok (.checkcast 68, 3) := by decide +kernel
theorem dX8_set_80 : decode cX8_set 80 = .ok (.iconst 1, 1) := by decide +kernel
theorem dX8_set_81 : decode cX8_set 81 = .ok (.iload_n 3, 1) := by decide +kernel
theorem dX8_set_82 : decode cX8_set 82 = .ok (.iastore, 1) := by decide +kernel
theorem dX8_set_83 : decode cX8_set 83 = .ok (.iload 4, 2) := by decide +kernel
theorem dX8_set_85 : decode cX8_set 85 = .ok (.ireturn, 1) := by decide +kernel
theorem dX8_copy_0 : decode cX8_copy 0 = .ok (.aload_n 0, 1) := by decide +kernel
theorem dX8_copy_1 : decode cX8_copy 1 = .ok (.iload_n 1, 1) := by decide +kernel
theorem dX8_copy_2 : decode cX8_copy 2 = .ok (.invokestatic 34, 3) := by decide +kernel
theorem dX8_copy_5 : decode cX8_copy 5 = .ok (.ifCond .ne 10, 3) := by decide +kernel
theorem dX8_copy_8 : decode cX8_copy 8 = .ok (.iload_n 2, 1) := by decide +kernel
theorem dX8_copy_9 : decode cX8_copy 9 = .ok (.invokestatic 34, 3) := by decide +kernel
theorem dX8_copy_12 : decode cX8_copy 12 = .ok (.ifCond .eq 7, 3) := by decide +kernel
theorem dX8_copy_15 : decode cX8_copy 15 = .ok (.iconst 1, 1) := by decide +kernel
theorem dX8_copy_16 : decode cX8_copy 16 = .ok (.goto 4, 3) := by decide +kernel
theorem dX8_copy_19 : decode cX8_copy 19 = .ok (.iconst 0, 1) := by decide +kernel
theorem dX8_copy_20 : decode cX8_copy 20 = .ok (.iconst 0, 1) := by decide +kernel
theorem dX8_copy_21 : decode cX8_copy 21 = .ok (.iconst 0, 1) := by decide +kernel
theorem dX8_copy_22 : decode cX8_copy 22 = .ok (.invokevirtual 38, 3) := by decide +kernel
theorem dX8_copy_25 : decode cX8_copy 25 = .ok (.ifCond .eq 5, 3) := by decide +kernel
theorem dX8_copy_28 : decode cX8_copy 28 = .ok (.iconst 0, 1) := by decide +kernel
theorem dX8_copy_29 : decode cX8_copy 29 = .ok (.ireturn, 1) := by decide +kernel
theorem dX8_copy_30 : decode cX8_copy 30 = .ok (.new 16, 3) := by decide +kernel
theorem dX8_copy_33 : decode cX8_copy 33 = .ok (.dup, 1) := by decide +kernel
theorem dX8_copy_34 : decode cX8_copy 34 = .ok (.invokespecial 18, 3) := by decide +kernel
theorem dX8_copy_37 : decode cX8_copy 37 = .ok (.astore_n 3, 1) := by decide +kernel
theorem dX8_copy_38 : decode cX8_copy 38 = .ok (.aload_n 0, 1) := by decide +kernel
theorem dX8_copy_39 : decode cX8_copy 39 = .ok (.getfield 10, 3) := by decide +kernel
theorem dX8_copy_42 : decode cX8_copy 42 = .ok (.iload_n 1, 1) := by decide +kernel
theorem dX8_copy_43 : decode cX8_copy 43 = .ok (.aaload, 1) := by decide +kernel
theorem dX8_copy_44 : decode cX8_copy 44 = .ok (.getfield 42, 3) := by decide +kernel
theorem dX8_copy_47 : decode cX8_copy 47 = .ok (.invokevirtual 100, 3) := by decide +kernel
theorem dX8_copy_50 : decode cX8_copy 50 = .ok (.astore 4, 2) := by decide +kernel
theorem dX8_copy_52 : decode cX8_copy 52 = .ok (.aload 4, 2) := by decide +kernel
theorem dX8_copy_54 : decode cX8_copy 54 = .ok (.invokeinterface 104 1, 5) := by decide +kernel
theorem dX8_copy_59 : decode cX8_copy 59 = .ok (.ifCond .eq 40, 3) := by decide +kernel
theorem dX8_copy_62 : decode cX8_copy 62 = .ok (.aload 4, 2) := by decide +kernel
theorem dX8_copy_64 : decode cX8_copy 64 = .ok (.invokeinterface 110 1, 5) := by decide +kernel
theorem dX8_copy_69 : decode cX8_copy 69 = .ok (.checkcast 68, 3) := by decide +kernel
theorem dX8_copy_72 : decode cX8_copy 72 = .ok (.astore 5, 2) := by decide +kernel
theorem dX8_copy_74 : decode cX8_copy 74 = .ok (.aload_n 3, 1) := by decide +kernel
theorem dX8_copy_75 : decode cX8_copy 75 = .ok (.iconst 2, 1) := by decide +kernel
theorem dX8_copy_76 : decode cX8_copy 76 = .ok (.newarray .int, 2) := by decide +kernel
theorem dX8_copy_78 : decode cX8_copy 78 = .ok (.dup, 1) := by decide +kernel
theorem dX8_copy_79 : decode cX8_copy 79 = .ok (.iconst 0, 1) := by decide +kernel
theorem dX8_copy_80 : decode cX8_copy 80 = .ok (.aload 5, 2) := by decide +kernel
theorem dX8_copy_82 : decode cX8_copy 82 = .ok (.iconst 0, 1) := by decide +kernel
theorem dX8_copy_83 : decode cX8_copy 83 = .ok (.iaload, 1) := by decide +kernel
theorem dX8_copy_84 : decode cX8_copy 84 = .ok (.iastore, 1) := by decide +kernel
theorem dX8_copy_85 : decode cX8_copy 85 = .ok (.dup, 1) := by decide +kernel
theorem dX8_copy_86 : decode cX8_copy 86 = .ok (.iconst 1, 1) := by decide +kernel
theorem dX8_copy_87 : decode cX8_copy 87 = .ok (.aload 5, 2) := by decide +kernel
theorem dX8_copy_89 : decode cX8_copy 89 = .ok (.iconst 1, 1) := by decide +kernel
theorem dX8_copy_90 : decode cX8_copy 90 = .ok (.iaload, 1) := by decide +kernel
theorem dX8_copy_91 : decode cX8_copy 91 = .ok (.iastore, 1) := by decide +kernel
theorem dX8_copy_92 : decode cX8_copy 92 = .ok (.invokevirtual 74, 3) := by decide +kernel
theorem dX8_copy_95 : decode cX8_copy 95 = .ok (.pop, 1) := by decide +kernel
theorem dX8_copy_96 : decode cX8_copy 96 = .ok (.goto (-44), 3) := by decide +kernel
theorem dX8_copy_99 : decode cX8_copy 99 = .ok (.aload_n 0, 1) := by decide +kernel
theorem dX8_copy_100 : decode cX8_copy 100 = .ok (.getfield 10, 3) := by decide +kernel
theorem dX8_copy_103 : decode cX8_copy 103 = .ok (.iload_n 2, 1) := by decide +kernel
theorem dX8_copy_104 : decode cX8_copy 104 = .ok (.aaload, 1) := by decide +kernel
theorem dX8_copy_105 : decode cX8_copy 105 = .ok (.astore 4, 2) := by decide +kernel
theorem dX8_copy_107 : decode cX8_copy 107 = .ok (.aload 4, 2) := by decide +kernel
theorem dX8_copy_109 : decode cX8_copy 109 = .ok (.getfield 42, 3) := by decide +kernel
theorem dX8_copy_112 : decode cX8_copy 112 = .ok (.invokevirtual 49, 3) := by decide +kernel
theorem dX8_copy_115 : decode cX8_copy 115 = .ok (.aload_n 3, 1) := by decide +kernel
theorem dX8_copy_116 : decode cX8_copy 116 = .ok (.invokevirtual 100, 3) := by decide +kernel
theorem dX8_copy_119 : decode cX8_copy 119 = .ok (.astore 5, 2) := by decide +kernel
theorem dX8_copy_121 : decode cX8_copy 121 = .ok (.aload 5, 2) := by decide +kernel
theorem dX8_copy_123 : decode cX8_copy 123 = .ok (.invokeinterface 104 1, 5) := by decide +kernel
theorem dX8_copy_128 : decode cX8_copy 128 = .ok (.ifCond .eq 29, 3) := by decide +kernel
theorem dX8_copy_131 : decode cX8_copy 131 = .ok (.aload 5, 2) := by decide +kernel
theorem dX8_copy_133 : decode cX8_copy 133 = .ok (.invokeinterface 110 1, 5) := by decide +kernel
theorem dX8_copy_138 : decode cX8_copy 138 = .ok (.checkcast 68, 3) := by decide +kernel
theorem dX8_copy_141 : decode cX8_copy 141 = .ok (.astore 6, 2) := by decide +kernel
theorem dX8_copy_143 : decode cX8_copy 143 = .ok (.aload 4, 2) := by decide +kernel
theorem dX8_copy_145 : decode cX8_copy 145 = .ok (.getfield 42, 3) := by decide +kernel
theorem dX8_copy_148 : decode cX8_copy 148 = .ok (.aload 6, 2) := by decide +kernel
theorem dX8_copy_150 : decode cX8_copy 150 = .ok (.invokevirtual 74, 3) := by decide +kernel
theorem dX8_copy_153 : decode cX8_copy 153 = .ok (.pop, 1) := by decide +kernel
theorem dX8_copy_154 : decode cX8_copy 154 = .ok (.goto (-33), 3) := by decide +kernel
theorem dX8_copy_157 : decode cX8_copy 157 = .ok (.aload 4, 2) := by decide +kernel
theorem dX8_copy_159 : decode cX8_copy 159 = .ok (.iconst 0, 1) := by decide +kernel
theorem dX8_copy_160 : decode cX8_copy 160 = .ok (.iconst (-1), 1) := by decide +kernel
theorem dX8_copy_161 : decode cX8_copy 161 = .ok (.invokevirtual 52, 3) := by decide +kernel
theorem dX8_copy_164 : decode cX8_copy 164 = .ok (.aload 4, 2) := by decide +kernel
theorem dX8_copy_166 : decode cX8_copy 166 = .ok (.iconst 1, 1) := by decide +kernel
theorem dX8_copy_167 : decode cX8_copy 167 = .ok (.putfield 56, 3) := by decide +kernel
theorem dX8_copy_170 : decode cX8_copy 170 = .ok (.aload_n 3, 1) := by decide +kernel
theorem dX8_copy_171 : decode cX8_copy 171 = .ok (.invokevirtual 45, 3) := by decide +kernel
theorem dX8_copy_174 : decode cX8_copy 174 = .ok (.ireturn, 1) := by decide +kernel
theorem dX8_has_0 : decode cX8_has 0 = .ok (.aload_n 0, 1) := by decide +kernel
theorem dX8_has_1 : decode cX8_has 1 = .ok (.iload_n 1, 1) := by decide +kernel
theorem dX8_has_2 : decode cX8_has 2 = .ok (.iload_n 2, 1) := by decide +kernel
theorem dX8_has_3 : decode cX8_has 3 = .ok (.invokevirtual 90, 3) := by decide +kernel
theorem dX8_has_6 : decode cX8_has 6 = .ok (.ifCond .ne 21, 3) := by decide +kernel
theorem dX8_has_9 : decode cX8_has 9 = .ok (.aload_n 0, 1) := by decide +kernel
theorem dX8_has_10 : decode cX8_has 10 = .ok (.getfield 10, 3) := by decide +kernel
theorem dX8_has_13 : decode cX8_has 13 = .ok (.iload_n 1, 1) := by decide +kernel
theorem dX8_has_14 : decode cX8_has 14 = .ok (.aaload, 1) := by decide +kernel
theorem dX8_has_15 : decode cX8_has 15 = .ok (.iload_n 2, 1) := by decide +kernel
theorem dX8_has_16 : decode cX8_has 16 = .ok (.invokevirtual 60, 3) := by decide +kernel
theorem dX8_has_19 : decode cX8_has 19 = .ok (.iconst (-1), 1) := by decide +kernel
theorem dX8_has_20 : decode cX8_has 20 = .ok (.if_icmp .eq 7, 3) := by decide +kernel
theorem dX8_has_23 : decode cX8_has 23 = .ok (.iconst 1, 1) := by decide +kernel
theorem dX8_has_24 : decode cX8_has 24 = .ok (.goto 4, 3) := by decide +kernel
theorem dX8_has_27 : decode cX8_has 27 = .ok (.iconst 0, 1) := by decide +kernel
theorem dX8_has_28 : decode cX8_has 28 = .ok (.ireturn, 1) := by decide +kernel
theorem dX8_size_0 : decode cX8_size 0 = .ok (.aload_n 0, 1) := by decide +kernel
theorem dX8_size_1 : decode cX8_size 1 = .ok (.iload_n 1, 1) := by decide +kernel
theorem dX8_size_2 : decode cX8_size 2 = .ok (.invokestatic 34, 3) := by decide +kernel
theorem dX8_size_5 : decode cX8_size 5 = .ok (.iconst 0, 1) := by decide +kernel
theorem dX8_size_6 : decode cX8_size 6 = .ok (.iconst 0, 1) := by decide +kernel
theorem dX8_size_7 : decode cX8_size 7 = .ok (.invokevirtual 38, 3) := by decide +kernel
theorem dX8_size_10 : decode cX8_size 10 = .ok (.ifCond .eq 7, 3) := by decide +kernel
theorem dX8_size_13 : decode cX8_size 13 = .ok (.iconst 0, 1) := by decide +kernel
theorem dX8_size_14 : decode cX8_size 14 = .ok (.goto 15, 3) := by decide +kernel
theorem dX8_size_17 : decode cX8_size 17 = .ok (.aload_n 0, 1) := by decide +kernel
theorem dX8_size_18 : decode cX8_size 18 = .ok (.getfield 10, 3) := by decide +kernel
theorem dX8_size_21 : decode cX8_size 21 = .ok (.iload_n 1, 1) := by decide +kernel
theorem dX8_size_22 : decode cX8_size 22 = .ok (.aaload, 1) := by decide +kernel
theorem dX8_size_23 : decode cX8_size 23 = .ok (.getfield 42, 3) := by decide +kernel
theorem dX8_size_26 : decode cX8_size 26 = .ok (.invokevirtual 45, 3) := by decide +kernel
theorem dX8_size_29 : decode cX8_size 29 = .ok (.ireturn, 1) := by decide +kernel
theorem dX8_told_0 : decode cX8_told 0 = .ok (.iload_n 2, 1) := by decide +kernel
theorem dX8_told_1 : decode cX8_told 1 = .ok (.aload_n 0, 1) := by decide +kernel
theorem dX8_told_2 : decode cX8_told 2 = .ok (.getfield 10, 3) := by decide +kernel
theorem dX8_told_5 : decode cX8_told 5 = .ok (.iload_n 1, 1) := by decide +kernel
theorem dX8_told_6 : decode cX8_told 6 = .ok (.aaload, 1) := by decide +kernel
theorem dX8_told_7 : decode cX8_told 7 = .ok (.getfield 42, 3) := by decide +kernel
theorem dX8_told_10 : decode cX8_told 10 = .ok (.invokevirtual 45, 3) := by decide +kernel
theorem dX8_told_13 : decode cX8_told 13 = .ok (.invokestatic 27, 3) := by decide +kernel
theorem dX8_told_16 : decode cX8_told 16 = .ok (.ifCond .eq 5, 3) := by decide +kernel
theorem dX8_told_19 : decode cX8_told 19 = .ok (.iconst (-1), 1) := by decide +kernel
theorem dX8_told_20 : decode cX8_told 20 = .ok (.ireturn, 1) := by decide +kernel
theorem dX8_told_21 : decode cX8_told 21 = .ok (.aload_n 0, 1) := by decide +kernel
theorem dX8_told_22 : decode cX8_told 22 = .ok (.getfield 10, 3) := by decide +kernel
theorem dX8_told_25 : decode cX8_told 25 = .ok (.iload_n 1, 1) := by decide +kernel
theorem dX8_told_26 : decode cX8_told 26 = .ok (.aaload, 1) := by decide +kernel
theorem dX8_told_27 : decode cX8_told 27 = .ok (.getfield 42, 3) := by decide +kernel
theorem dX8_told_30 : decode cX8_told 30 = .ok (.iload_n 2, 1) := by decide +kernel
theorem dX8_told_31 : decode cX8_told 31 = .ok (.invokevirtual 64, 3) := by decide +kernel
theorem dX8_told_34 : decode cX8_told 34 = .ok (.checkcast 68, 3) := by decide +kernel
theorem dX8_told_37 : decode cX8_told 37 = .ok (.astore 4, 2) := by decide +kernel
theorem dX8_told_39 : decode cX8_told 39 = .ok (.iload_n 3, 1) := by decide +kernel
theorem dX8_told_40 : decode cX8_told 40 = .ok (.ifCond .ne 10, 3) := by decide +kernel
theorem dX8_told_43 : decode cX8_told 43 = .ok (.aload 4, 2) := by decide +kernel
theorem dX8_told_45 : decode cX8_told 45 = .ok (.iconst 0, 1) := by decide +kernel
theorem dX8_told_46 : decode cX8_told 46 = .ok (.iaload, 1) := by decide +kernel
theorem dX8_told_47 : decode cX8_told 47 = .ok (.goto 27, 3) := by decide +kernel
theorem dX8_told_50 : decode cX8_told 50 = .ok (.iload_n 3, 1) := by decide +kernel
theorem dX8_told_51 : decode cX8_told 51 = .ok (.iconst 1, 1) := by decide +kernel
theorem dX8_told_52 : decode cX8_told 52 = .ok (.if_icmp .ne 10, 3) := by decide +kernel
theorem dX8_told_55 : decode cX8_told 55 = .ok (.aload 4, 2) := by decide +kernel
theorem dX8_told_57 : decode cX8_told 57 = .ok (.iconst 1, 1) := by decide +kernel
theorem dX8_told_58 : decode cX8_told 58 = .ok (.iaload, 1) := by decide +kernel
theorem dX8_told_59 : decode cX8_told 59 = .ok (.goto 15, 3) := by decide +kernel
theorem dX8_told_62 : decode cX8_told 62 = .ok (.aload 4, 2) := by decide +kernel
theorem dX8_told_64 : decode cX8_told 64 = .ok (.iconst 0, 1) := by decide +kernel
theorem dX8_told_65 : decode cX8_told 65 = .ok (.iaload, 1) := by decide +kernel
theorem dX8_told_66 : decode cX8_told 66 = .ok (.bipush 100, 2) := by decide +kernel
theorem dX8_told_68 : decode cX8_told 68 = .ok (.imul, 1) := by decide +kernel
theorem dX8_told_69 : decode cX8_told 69 = .ok (.aload 4, 2) := by decide +kernel
theorem dX8_told_71 : decode cX8_told 71 = .ok (.iconst 1, 1) := by decide +kernel
theorem dX8_told_72 : decode cX8_told 72 = .ok (.iaload, 1) := by decide +kernel
theorem dX8_told_73 : decode cX8_told 73 = .ok (.iadd, 1) := by decide +kernel
theorem dX8_told_74 : decode cX8_told 74 = .ok (.ireturn, 1) := by decide +kernel
theorem dX8_keyAt_0 : decode cX8_keyAt 0 = .ok (.aload_n 0, 1) := by decide +kernel
theorem dX8_keyAt_1 : decode cX8_keyAt 1 = .ok (.iload_n 1, 1) := by decide +kernel
theorem dX8_keyAt_2 : decode cX8_keyAt 2 = .ok (.invokestatic 34, 3) := by decide +kernel
theorem dX8_keyAt_5 : decode cX8_keyAt 5 = .ok (.iconst 0, 1) := by decide +kernel
theorem dX8_keyAt_6 : decode cX8_keyAt 6 = .ok (.iconst 0, 1) := by decide +kernel
theorem dX8_keyAt_7 : decode cX8_keyAt 7 = .ok (.invokevirtual 38, 3) := by decide +kernel
theorem dX8_keyAt_10 : decode cX8_keyAt 10 = .ok (.ifCond .eq 7, 3) := by decide +kernel
theorem dX8_keyAt_13 : decode cX8_keyAt 13 = .ok (.iconst 0, 1) := by decide +kernel
theorem dX8_keyAt_14 : decode cX8_keyAt 14 = .ok (.goto 10, 3) := by decide +kernel
theorem dX8_keyAt_17 : decode cX8_keyAt 17 = .ok (.aload_n 0, 1) := by decide +kernel
theorem dX8_keyAt_18 : decode cX8_keyAt 18 = .ok (.iload_n 1, 1) := by decide +kernel
theorem dX8_keyAt_19 : decode cX8_keyAt 19 = .ok (.iload_n 2, 1) := by decide +kernel
theorem dX8_keyAt_20 : decode cX8_keyAt 20 = .ok (.iconst 0, 1) := by decide +kernel
theorem dX8_keyAt_21 : decode cX8_keyAt 21 = .ok (.invokevirtual 114, 3) := by decide +kernel
theorem dX8_keyAt_24 : decode cX8_keyAt 24 = .ok (.ireturn, 1) := by decide +kernel
theorem dX8_valueAt_0 : decode cX8_valueAt 0 = .ok (.aload_n 0, 1) := by decide +kernel
theorem dX8_valueAt_1 : decode cX8_valueAt 1 = .ok (.iload_n 1, 1) := by decide +kernel
theorem dX8_valueAt_2 : decode cX8_valueAt 2 = .ok (.invokestatic 34, 3) := by decide +kernel
theorem dX8_valueAt_5 : decode cX8_valueAt 5 = .ok (.iconst 0, 1) := by decide +kernel
theorem dX8_valueAt_6 : decode cX8_valueAt 6 = .ok (.iconst 0, 1) := by decide +kernel
theorem dX8_valueAt_7 : decode cX8_valueAt 7 = .ok (.invokevirtual 38, 3) := by decide +kernel
theorem dX8_valueAt_10 : decode cX8_valueAt 10 = .ok (.ifCond .eq 7, 3) := by decide +kernel
theorem dX8_valueAt_13 : decode cX8_valueAt 13 = .ok (.iconst 0, 1) := by decide +kernel
theorem dX8_valueAt_14 : decode cX8_valueAt 14 = .ok (.goto 10, 3) := by decide +kernel
theorem dX8_valueAt_17 : decode cX8_valueAt 17 = .ok (.aload_n 0, 1) := by decide +kernel
theorem dX8_valueAt_18 : decode cX8_valueAt 18 = .ok (.iload_n 1, 1) := by decide +kernel
theorem dX8_valueAt_19 : decode cX8_valueAt 19 = .ok (.iload_n 2, 1) := by decide +kernel
theorem dX8_valueAt_20 : decode cX8_valueAt 20 = .ok (.iconst 1, 1) := by decide +kernel
theorem dX8_valueAt_21 : decode cX8_valueAt 21 = .ok (.invokevirtual 114, 3) := by decide +kernel
theorem dX8_valueAt_24 : decode cX8_valueAt 24 = .ok (.ireturn, 1) := by decide +kernel
theorem dX8_pairAt_0 : decode cX8_pairAt 0 = .ok (.aload_n 0, 1) := by decide +kernel
theorem dX8_pairAt_1 : decode cX8_pairAt 1 = .ok (.iload_n 1, 1) := by decide +kernel
theorem dX8_pairAt_2 : decode cX8_pairAt 2 = .ok (.invokestatic 34, 3) := by decide +kernel
theorem dX8_pairAt_5 : decode cX8_pairAt 5 = .ok (.iconst 0, 1) := by decide +kernel
theorem dX8_pairAt_6 : decode cX8_pairAt 6 = .ok (.iconst 0, 1) := by decide +kernel
theorem dX8_pairAt_7 : decode cX8_pairAt 7 = .ok (.invokevirtual 38, 3) := by decide +kernel
theorem dX8_pairAt_10 : decode cX8_pairAt 10 = .ok (.ifCond .eq 7, 3) := by decide +kernel
theorem dX8_pairAt_13 : decode cX8_pairAt 13 = .ok (.iconst 0, 1) := by decide +kernel
theorem dX8_pairAt_14 : decode cX8_pairAt 14 = .ok (.goto 10, 3) := by decide +kernel
theorem dX8_pairAt_17 : decode cX8_pairAt 17 = .ok (.aload_n 0, 1) := by decide +kernel
theorem dX8_pairAt_18 : decode cX8_pairAt 18 = .ok (.iload_n 1, 1) := by decide +kernel
theorem dX8_pairAt_19 : decode cX8_pairAt 19 = .ok (.iload_n 2, 1) := by decide +kernel
theorem dX8_pairAt_20 : decode cX8_pairAt 20 = .ok (.iconst 2, 1) := by decide +kernel
theorem dX8_pairAt_21 : decode cX8_pairAt 21 = .ok (.invokevirtual 114, 3) := by decide +kernel
theorem dX8_pairAt_24 : decode cX8_pairAt 24 = .ok (.ireturn, 1) := by decide +kernel
theorem dX8_placeOf_0 : decode cX8_placeOf 0 = .ok (.aload_n 0, 1) := by decide +kernel
theorem dX8_placeOf_1 : decode cX8_placeOf 1 = .ok (.iload_n 1, 1) := by decide +kernel
theorem dX8_placeOf_2 : decode cX8_placeOf 2 = .ok (.iload_n 2, 1) := by decide +kernel
theorem dX8_placeOf_3 : decode cX8_placeOf 3 = .ok (.invokevirtual 90, 3) := by decide +kernel
theorem dX8_placeOf_6 : decode cX8_placeOf 6 = .ok (.ifCond .eq 7, 3) := by decide +kernel
theorem dX8_placeOf_9 : decode cX8_placeOf 9 = .ok (.iconst 0, 1) := by decide +kernel
theorem dX8_placeOf_10 : decode cX8_placeOf 10 = .ok (.goto 13, 3) := by decide +kernel
theorem dX8_placeOf_13 : decode cX8_placeOf 13 = .ok (.aload_n 0, 1) := by decide +kernel
theorem dX8_placeOf_14 : decode cX8_placeOf 14 = .ok (.getfield 10, 3) := by decide +kernel
theorem dX8_placeOf_17 : decode cX8_placeOf 17 = .ok (.iload_n 1, 1) := by decide +kernel
theorem dX8_placeOf_18 : decode cX8_placeOf 18 = .ok (.aaload, 1) := by decide +kernel
theorem dX8_placeOf_19 : decode cX8_placeOf 19 = .ok (.iload_n 2, 1) := by decide +kernel
theorem dX8_placeOf_20 : decode cX8_placeOf 20 = .ok (.invokevirtual 60, 3) := by decide +kernel
theorem dX8_placeOf_23 : decode cX8_placeOf 23 = .ok (.ireturn, 1) := by decide +kernel
theorem dX8_eldest_0 : decode cX8_eldest 0 = .ok (.aload_n 0, 1) := by decide +kernel
theorem dX8_eldest_1 : decode cX8_eldest 1 = .ok (.iload_n 1, 1) := by decide +kernel
theorem dX8_eldest_2 : decode cX8_eldest 2 = .ok (.invokestatic 34, 3) := by decide +kernel
theorem dX8_eldest_5 : decode cX8_eldest 5 = .ok (.iconst 0, 1) := by decide +kernel
theorem dX8_eldest_6 : decode cX8_eldest 6 = .ok (.iconst 0, 1) := by decide +kernel
theorem dX8_eldest_7 : decode cX8_eldest 7 = .ok (.invokevirtual 38, 3) := by decide +kernel
theorem dX8_eldest_10 : decode cX8_eldest 10 = .ok (.ifCond .eq 7, 3) := by decide +kernel
theorem dX8_eldest_13 : decode cX8_eldest 13 = .ok (.iconst 0, 1) := by decide +kernel
theorem dX8_eldest_14 : decode cX8_eldest 14 = .ok (.goto 10, 3) := by decide +kernel
theorem dX8_eldest_17 : decode cX8_eldest 17 = .ok (.aload_n 0, 1) := by decide +kernel
theorem dX8_eldest_18 : decode cX8_eldest 18 = .ok (.iload_n 1, 1) := by decide +kernel
theorem dX8_eldest_19 : decode cX8_eldest 19 = .ok (.iconst 0, 1) := by decide +kernel
theorem dX8_eldest_20 : decode cX8_eldest 20 = .ok (.iconst 0, 1) := by decide +kernel
theorem dX8_eldest_21 : decode cX8_eldest 21 = .ok (.invokevirtual 114, 3) := by decide +kernel
theorem dX8_eldest_24 : decode cX8_eldest 24 = .ok (.ireturn, 1) := by decide +kernel
theorem dX8_latest_0 : decode cX8_latest 0 = .ok (.aload_n 0, 1) := by decide +kernel
theorem dX8_latest_1 : decode cX8_latest 1 = .ok (.iload_n 1, 1) := by decide +kernel
theorem dX8_latest_2 : decode cX8_latest 2 = .ok (.invokestatic 34, 3) := by decide +kernel
theorem dX8_latest_5 : decode cX8_latest 5 = .ok (.iconst 0, 1) := by decide +kernel
theorem dX8_latest_6 : decode cX8_latest 6 = .ok (.iconst 0, 1) := by decide +kernel
theorem dX8_latest_7 : decode cX8_latest 7 = .ok (.invokevirtual 38, 3) := by decide +kernel
theorem dX8_latest_10 : decode cX8_latest 10 = .ok (.ifCond .eq 7, 3) := by decide +kernel
theorem dX8_latest_13 : decode cX8_latest 13 = .ok (.iconst 0, 1) := by decide +kernel
theorem dX8_latest_14 : decode cX8_latest 14 = .ok (.goto 23, 3) := by decide +kernel
theorem dX8_latest_17 : decode cX8_latest 17 = .ok (.aload_n 0, 1) := by decide +kernel
theorem dX8_latest_18 : decode cX8_latest 18 = .ok (.iload_n 1, 1) := by decide +kernel
theorem dX8_latest_19 : decode cX8_latest 19 = .ok (.aload_n 0, 1) := by decide +kernel
theorem dX8_latest_20 : decode cX8_latest 20 = .ok (.getfield 10, 3) := by decide +kernel
theorem dX8_latest_23 : decode cX8_latest 23 = .ok (.iload_n 1, 1) := by decide +kernel
theorem dX8_latest_24 : decode cX8_latest 24 = .ok (.aaload, 1) := by decide +kernel
theorem dX8_latest_25 : decode cX8_latest 25 = .ok (.getfield 42, 3) := by decide +kernel
theorem dX8_latest_28 : decode cX8_latest 28 = .ok (.invokevirtual 45, 3) := by decide +kernel
theorem dX8_latest_31 : decode cX8_latest 31 = .ok (.iconst 1, 1) := by decide +kernel
theorem dX8_latest_32 : decode cX8_latest 32 = .ok (.isub, 1) := by decide +kernel
theorem dX8_latest_33 : decode cX8_latest 33 = .ok (.iconst 0, 1) := by decide +kernel
theorem dX8_latest_34 : decode cX8_latest 34 = .ok (.invokevirtual 114, 3) := by decide +kernel
theorem dX8_latest_37 : decode cX8_latest 37 = .ok (.ireturn, 1) := by decide +kernel
theorem dX8_text_0 : decode cX8_text 0 = .ok (.aload_n 0, 1) := by decide +kernel
theorem dX8_text_1 : decode cX8_text 1 = .ok (.iload_n 1, 1) := by decide +kernel
theorem dX8_text_2 : decode cX8_text 2 = .ok (.invokestatic 34, 3) := by decide +kernel
theorem dX8_text_5 : decode cX8_text 5 = .ok (.iload_n 2, 1) := by decide +kernel
theorem dX8_text_6 : decode cX8_text 6 = .ok (.iconst 3, 1) := by decide +kernel
theorem dX8_text_7 : decode cX8_text 7 = .ok (.invokestatic 27, 3) := by decide +kernel
theorem dX8_text_10 : decode cX8_text 10 = .ok (.iconst 0, 1) := by decide +kernel
theorem dX8_text_11 : decode cX8_text 11 = .ok (.invokevirtual 38, 3) := by decide +kernel
theorem dX8_text_14 : decode cX8_text 14 = .ok (.ifCond .eq 6, 3) := by decide +kernel
theorem dX8_text_17 : decode cX8_text 17 = .ok (.ldc 117, 2) := by decide +kernel
theorem dX8_text_19 : decode cX8_text 19 = .ok (.areturn, 1) := by decide +kernel
theorem dX8_text_20 : decode cX8_text 20 = .ok (.new 119, 3) := by decide +kernel
theorem dX8_text_23 : decode cX8_text 23 = .ok (.dup, 1) := by decide +kernel
theorem dX8_text_24 : decode cX8_text 24 = .ok (.invokespecial 121, 3) := by decide +kernel
theorem dX8_text_27 : decode cX8_text 27 = .ok (.astore_n 3, 1) := by decide +kernel
theorem dX8_text_28 : decode cX8_text 28 = .ok (.aload_n 0, 1) := by decide +kernel
theorem dX8_text_29 : decode cX8_text 29 = .ok (.getfield 10, 3) := by decide +kernel
theorem dX8_text_32 : decode cX8_text 32 = .ok (.iload_n 1, 1) := by decide +kernel
theorem dX8_text_33 : decode cX8_text 33 = .ok (.aaload, 1) := by decide +kernel
theorem dX8_text_34 : decode cX8_text 34 = .ok (.getfield 42, 3) := by decide +kernel
theorem dX8_text_37 : decode cX8_text 37 = .ok (.invokevirtual 100, 3) := by decide +kernel
theorem dX8_text_40 : decode cX8_text 40 = .ok (.astore 4, 2) := by decide +kernel
theorem dX8_text_42 : decode cX8_text 42 = .ok (.aload 4, 2) := by decide +kernel
theorem dX8_text_44 : decode cX8_text 44 = .ok (.invokeinterface 104 1, 5) := by decide +kernel
theorem dX8_text_49 : decode cX8_text 49 = .ok (.ifCond .eq 69, 3) := by decide +kernel
theorem dX8_text_52 : decode cX8_text 52 = .ok (.aload 4, 2) := by decide +kernel
theorem dX8_text_54 : decode cX8_text 54 = .ok (.invokeinterface 110 1, 5) := by decide +kernel
theorem dX8_text_59 : decode cX8_text 59 = .ok (.checkcast 68, 3) := by decide +kernel
theorem dX8_text_62 : decode cX8_text 62 = .ok (.astore 5, 2) := by decide +kernel
theorem dX8_text_64 : decode cX8_text 64 = .ok (.aload_n 3, 1) := by decide +kernel
theorem dX8_text_65 : decode cX8_text 65 = .ok (.invokevirtual 122, 3) := by decide +kernel
theorem dX8_text_68 : decode cX8_text 68 = .ok (.ifCond .le 10, 3) := by decide +kernel
theorem dX8_text_71 : decode cX8_text 71 = .ok (.aload_n 3, 1) := by decide +kernel
theorem dX8_text_72 : decode cX8_text 72 = .ok (.bipush 32, 2) := by decide +kernel
theorem dX8_text_74 : decode cX8_text 74 = .ok (.invokevirtual 125, 3) := by decide +kernel
theorem dX8_text_77 : decode cX8_text 77 = .ok (.pop, 1) := by decide +kernel
theorem dX8_text_78 : decode cX8_text 78 = .ok (.aload_n 3, 1) := by decide +kernel
theorem dX8_text_79 : decode cX8_text 79 = .ok (.aload 5, 2) := by decide +kernel
theorem dX8_text_81 : decode cX8_text 81 = .ok (.iload_n 2, 1) := by decide +kernel
theorem dX8_text_82 : decode cX8_text 82 = .ok (.iconst 1, 1) := by decide +kernel
theorem dX8_text_83 : decode cX8_text 83 = .ok (.if_icmp .ne 7, 3) := by decide +kernel
theorem dX8_text_86 : decode cX8_text 86 = .ok (.iconst 1, 1) := by decide +kernel
theorem dX8_text_87 : decode cX8_text 87 = .ok (.goto 4, 3) := by decide +kernel
theorem dX8_text_90 : decode cX8_text 90 = .ok (.iconst 0, 1) := by decide +kernel
theorem dX8_text_91 : decode cX8_text 91 = .ok (.iaload, 1) := by decide +kernel
theorem dX8_text_92 : decode cX8_text 92 = .ok (.invokevirtual 129, 3) := by decide +kernel
theorem dX8_text_95 : decode cX8_text 95 = .ok (.pop, 1) := by decide +kernel
theorem dX8_text_96 : decode cX8_text 96 = .ok (.iload_n 2, 1) := by decide +kernel
theorem dX8_text_97 : decode cX8_text 97 = .ok (.iconst 2, 1) := by decide +kernel
theorem dX8_text_98 : decode cX8_text 98 = .ok (.if_icmp .ne 17, 3) := by decide +kernel
theorem dX8_text_101 : decode cX8_text 101 = .ok (.aload_n 3, 1) := by decide +kernel
theorem dX8_text_102 : decode cX8_text 102 = .ok (.bipush 61, 2) := by decide +kernel
theorem dX8_text_104 : decode cX8_text 104 = .ok (.invokevirtual 125, 3) := by decide +kernel
theorem dX8_text_107 : decode cX8_text 107 = .ok (.aload 5, 2) := by decide +kernel
theorem dX8_text_109 : decode cX8_text 109 = .ok (.iconst 1, 1) := by decide +kernel
theorem dX8_text_110 : decode cX8_text 110 = .ok (.iaload, 1) := by decide +kernel
theorem dX8_text_111 : decode cX8_text 111 = .ok (.invokevirtual 129, 3) := by decide +kernel
theorem dX8_text_114 : decode cX8_text 114 = .ok (.pop, 1) := by decide +kernel
theorem dX8_text_115 : decode cX8_text 115 = .ok (.goto (-73), 3) := by decide +kernel
theorem dX8_text_118 : decode cX8_text 118 = .ok (.aload_n 3, 1) := by decide +kernel
theorem dX8_text_119 : decode cX8_text 119 = .ok (.invokevirtual 132, 3) := by decide +kernel
theorem dX8_text_122 : decode cX8_text 122 = .ok (.areturn, 1) := by decide +kernel
theorem dX8_tableNow_0 : decode cX8_tableNow 0 = .ok (.aload_n 0, 1) := by decide +kernel
theorem dX8_tableNow_1 : decode cX8_tableNow 1 = .ok (.getfield 10, 3) := by decide +kernel
theorem dX8_tableNow_4 : decode cX8_tableNow 4 = .ok (.iload_n 1, 1) := by decide +kernel
theorem dX8_tableNow_5 : decode cX8_tableNow 5 = .ok (.aaload, 1) := by decide +kernel
theorem dX8_tableNow_6 : decode cX8_tableNow 6 = .ok (.astore_n 3, 1) := by decide +kernel
theorem dX8_tableNow_7 : decode cX8_tableNow 7 = .ok (.iconst 0, 1) := by decide +kernel
theorem dX8_tableNow_8 : decode cX8_tableNow 8 = .ok (.istore 4, 2) := by decide +kernel
theorem dX8_tableNow_10 : decode cX8_tableNow 10 = .ok (.aload_n 3, 1) := by decide +kernel
theorem dX8_tableNow_11 : decode cX8_tableNow 11 = .ok (.getfield 42, 3) := by decide +kernel
theorem dX8_tableNow_14 : decode cX8_tableNow 14 = .ok (.invokevirtual 100, 3) := by decide +kernel
theorem dX8_tableNow_17 : decode cX8_tableNow 17 = .ok (.astore 5, 2) := by decide +kernel
theorem dX8_tableNow_19 : decode cX8_tableNow 19 = .ok (.aload 5, 2) := by decide +kernel
theorem dX8_tableNow_21 : decode cX8_tableNow 21 = .ok (.invokeinterface 104 1, 5) := by decide +kernel
theorem dX8_tableNow_26 : decode cX8_tableNow 26 = .ok (.ifCond .eq 27, 3) := by decide +kernel
theorem dX8_tableNow_29 : decode cX8_tableNow 29 = .ok (.aload 5, 2) := by decide +kernel
theorem dX8_tableNow_31 : decode cX8_tableNow 31 = .ok (.invokeinterface 110 1, 5) := by decide +kernel
theorem dX8_tableNow_36 : decode cX8_tableNow 36 = .ok (.checkcast 68, 3) := by decide +kernel
theorem dX8_tableNow_39 : decode cX8_tableNow 39 = .ok (.astore 6, 2) := by decide +kernel
theorem dX8_tableNow_41 : decode cX8_tableNow 41 = .ok (.iload 4, 2) := by decide +kernel
theorem dX8_tableNow_43 : decode cX8_tableNow 43 = .ok (.aload 6, 2) := by decide +kernel
theorem dX8_tableNow_45 : decode cX8_tableNow 45 = .ok (.iconst 1, 1) := by decide +kernel
theorem dX8_tableNow_46 : decode cX8_tableNow 46 = .ok (.iaload, 1) := by decide +kernel
theorem dX8_tableNow_47 : decode cX8_tableNow 47 = .ok (.iadd, 1) := by decide +kernel
theorem dX8_tableNow_48 : decode cX8_tableNow 48 = .ok (.istore 4, 2) := by decide +kernel
theorem dX8_tableNow_50 : decode cX8_tableNow 50 = .ok (.goto (-31), 3) := by decide +kernel
theorem dX8_tableNow_53 : decode cX8_tableNow 53 = .ok (.iconst 5, 1) := by decide +kernel
theorem dX8_tableNow_54 : decode cX8_tableNow 54 = .ok (.newarray .int, 2) := by decide +kernel
theorem dX8_tableNow_56 : decode cX8_tableNow 56 = .ok (.dup, 1) := by decide +kernel
theorem dX8_tableNow_57 : decode cX8_tableNow 57 = .ok (.iconst 0, 1) := by decide +kernel
theorem dX8_tableNow_58 : decode cX8_tableNow 58 = .ok (.aload_n 3, 1) := by decide +kernel
theorem dX8_tableNow_59 : decode cX8_tableNow 59 = .ok (.getfield 136, 3) := by decide +kernel
theorem dX8_tableNow_62 : decode cX8_tableNow 62 = .ok (.invokestatic 139, 3) := by decide +kernel
theorem dX8_tableNow_65 : decode cX8_tableNow 65 = .ok (.iastore, 1) := by decide +kernel
theorem dX8_tableNow_66 : decode cX8_tableNow 66 = .ok (.dup, 1) := by decide +kernel
theorem dX8_tableNow_67 : decode cX8_tableNow 67 = .ok (.iconst 1, 1) := by decide +kernel
theorem dX8_tableNow_68 : decode cX8_tableNow 68 = .ok (.aload_n 3, 1) := by decide +kernel
theorem dX8_tableNow_69 : decode cX8_tableNow 69 = .ok (.getfield 78, 3) := by decide +kernel
theorem dX8_tableNow_72 : decode cX8_tableNow 72 = .ok (.iastore, 1) := by decide +kernel
theorem dX8_tableNow_73 : decode cX8_tableNow 73 = .ok (.dup, 1) := by decide +kernel
theorem dX8_tableNow_74 : decode cX8_tableNow 74 = .ok (.iconst 2, 1) := by decide +kernel
theorem dX8_tableNow_75 : decode cX8_tableNow 75 = .ok (.aload_n 3, 1) := by decide +kernel
theorem dX8_tableNow_76 : decode cX8_tableNow 76 = .ok (.getfield 81, 3) := by decide +kernel
theorem dX8_tableNow_79 : decode cX8_tableNow 79 = .ok (.iastore, 1) := by decide +kernel
theorem dX8_tableNow_80 : decode cX8_tableNow 80 = .ok (.dup, 1) := by decide +kernel
theorem dX8_tableNow_81 : decode cX8_tableNow 81 = .ok (.iconst 3, 1) := by decide +kernel
theorem dX8_tableNow_82 : decode cX8_tableNow 82 = .ok (.aload_n 3, 1) := by decide +kernel
theorem dX8_tableNow_83 : decode cX8_tableNow 83 = .ok (.getfield 87, 3) := by decide +kernel
theorem dX8_tableNow_86 : decode cX8_tableNow 86 = .ok (.iastore, 1) := by decide +kernel
theorem dX8_tableNow_87 : decode cX8_tableNow 87 = .ok (.dup, 1) := by decide +kernel
theorem dX8_tableNow_88 : decode cX8_tableNow 88 = .ok (.iconst 4, 1) := by decide +kernel
theorem dX8_tableNow_89 : decode cX8_tableNow 89 = .ok (.iload 4, 2) := by decide +kernel
theorem dX8_tableNow_91 : decode cX8_tableNow 91 = .ok (.iastore, 1) := by decide +kernel
theorem dX8_tableNow_92 : decode cX8_tableNow 92 = .ok (.astore 5, 2) := by decide +kernel
theorem dX8_tableNow_94 : decode cX8_tableNow 94 = .ok (.aload 5, 2) := by decide +kernel
theorem dX8_tableNow_96 : decode cX8_tableNow 96 = .ok (.iload_n 2, 1) := by decide +kernel
theorem dX8_tableNow_97 : decode cX8_tableNow 97 = .ok (.iaload, 1) := by decide +kernel
theorem dX8_tableNow_98 : decode cX8_tableNow 98 = .ok (.ireturn, 1) := by decide +kernel
theorem dX8_ofTable_0 : decode cX8_ofTable 0 = .ok (.aload_n 0, 1) := by decide +kernel
theorem dX8_ofTable_1 : decode cX8_ofTable 1 = .ok (.iload_n 1, 1) := by decide +kernel
theorem dX8_ofTable_2 : decode cX8_ofTable 2 = .ok (.invokestatic 34, 3) := by decide +kernel
theorem dX8_ofTable_5 : decode cX8_ofTable 5 = .ok (.iload_n 2, 1) := by decide +kernel
theorem dX8_ofTable_6 : decode cX8_ofTable 6 = .ok (.iconst 5, 1) := by decide +kernel
theorem dX8_ofTable_7 : decode cX8_ofTable 7 = .ok (.invokestatic 27, 3) := by decide +kernel
theorem dX8_ofTable_10 : decode cX8_ofTable 10 = .ok (.iconst 0, 1) := by decide +kernel
theorem dX8_ofTable_11 : decode cX8_ofTable 11 = .ok (.invokevirtual 38, 3) := by decide +kernel
theorem dX8_ofTable_14 : decode cX8_ofTable 14 = .ok (.ifCond .eq 7, 3) := by decide +kernel
theorem dX8_ofTable_17 : decode cX8_ofTable 17 = .ok (.iconst 0, 1) := by decide +kernel
theorem dX8_ofTable_18 : decode cX8_ofTable 18 = .ok (.goto 9, 3) := by decide +kernel
theorem dX8_ofTable_21 : decode cX8_ofTable 21 = .ok (.aload_n 0, 1) := by decide +kernel
theorem dX8_ofTable_22 : decode cX8_ofTable 22 = .ok (.iload_n 1, 1) := by decide +kernel
theorem dX8_ofTable_23 : decode cX8_ofTable 23 = .ok (.iload_n 2, 1) := by decide +kernel
theorem dX8_ofTable_24 : decode cX8_ofTable 24 = .ok (.invokevirtual 143, 3) := by decide +kernel
theorem dX8_ofTable_27 : decode cX8_ofTable 27 = .ok (.ireturn, 1) := by decide +kernel
theorem dX8_walk_0 : decode cX8_walk 0 = .ok (.aload_n 0, 1) := by decide +kernel
theorem dX8_walk_1 : decode cX8_walk 1 = .ok (.iload_n 1, 1) := by decide +kernel
theorem dX8_walk_2 : decode cX8_walk 2 = .ok (.invokestatic 34, 3) := by decide +kernel
theorem dX8_walk_5 : decode cX8_walk 5 = .ok (.iload_n 2, 1) := by decide +kernel
theorem dX8_walk_6 : decode cX8_walk 6 = .ok (.iconst 3, 1) := by decide +kernel
theorem dX8_walk_7 : decode cX8_walk 7 = .ok (.invokestatic 27, 3) := by decide +kernel
theorem dX8_walk_10 : decode cX8_walk 10 = .ok (.iconst 0, 1) := by decide +kernel
theorem dX8_walk_11 : decode cX8_walk 11 = .ok (.invokevirtual 38, 3) := by decide +kernel
theorem dX8_walk_14 : decode cX8_walk 14 = .ok (.ifCond .eq 5, 3) := by decide +kernel
theorem dX8_walk_17 : decode cX8_walk 17 = .ok (.iconst 0, 1) := by decide +kernel
theorem dX8_walk_18 : decode cX8_walk 18 = .ok (.ireturn, 1) := by decide +kernel
theorem dX8_walk_19 : decode cX8_walk 19 = .ok (.aload_n 0, 1) := by decide +kernel
theorem dX8_walk_20 : decode cX8_walk 20 = .ok (.getfield 10, 3) := by decide +kernel
theorem dX8_walk_23 : decode cX8_walk 23 = .ok (.iload_n 1, 1) := by decide +kernel
theorem dX8_walk_24 : decode cX8_walk 24 = .ok (.aaload, 1) := by decide +kernel
theorem dX8_walk_25 : decode cX8_walk 25 = .ok (.astore_n 3, 1) := by decide +kernel
theorem dX8_walk_26 : decode cX8_walk 26 = .ok (.aload_n 3, 1) := by decide +kernel
theorem dX8_walk_27 : decode cX8_walk 27 = .ok (.iload_n 2, 1) := by decide +kernel
theorem dX8_walk_28 : decode cX8_walk 28 = .ok (.putfield 147, 3) := by decide +kernel
theorem dX8_walk_31 : decode cX8_walk 31 = .ok (.aload_n 3, 1) := by decide +kernel
theorem dX8_walk_32 : decode cX8_walk 32 = .ok (.iconst 0, 1) := by decide +kernel
theorem dX8_walk_33 : decode cX8_walk 33 = .ok (.putfield 150, 3) := by decide +kernel
theorem dX8_walk_36 : decode cX8_walk 36 = .ok (.aload_n 3, 1) := by decide +kernel
theorem dX8_walk_37 : decode cX8_walk 37 = .ok (.iconst 0, 1) := by decide +kernel
theorem dX8_walk_38 : decode cX8_walk 38 = .ok (.putfield 153, 3) := by decide +kernel
theorem dX8_walk_41 : decode cX8_walk 41 = .ok (.aload_n 3, 1) := by decide +kernel
theorem dX8_walk_42 : decode cX8_walk 42 = .ok (.iconst 0, 1) := by decide +kernel
theorem dX8_walk_43 : decode cX8_walk 43 = .ok (.putfield 56, 3) := by decide +kernel
theorem dX8_walk_46 : decode cX8_walk 46 = .ok (.aload_n 3, 1) := by decide +kernel
theorem dX8_walk_47 : decode cX8_walk 47 = .ok (.getfield 42, 3) := by decide +kernel
theorem dX8_walk_50 : decode cX8_walk 50 = .ok (.invokevirtual 45, 3) := by decide +kernel
theorem dX8_walk_53 : decode cX8_walk 53 = .ok (.ireturn, 1) := by decide +kernel
theorem dX8_step_0 : decode cX8_step 0 = .ok (.aload_n 0, 1) := by decide +kernel
theorem dX8_step_1 : decode cX8_step 1 = .ok (.iload_n 1, 1) := by decide +kernel
theorem dX8_step_2 : decode cX8_step 2 = .ok (.invokestatic 34, 3) := by decide +kernel
theorem dX8_step_5 : decode cX8_step 5 = .ok (.iconst 0, 1) := by decide +kernel
theorem dX8_step_6 : decode cX8_step 6 = .ok (.iconst 0, 1) := by decide +kernel
theorem dX8_step_7 : decode cX8_step 7 = .ok (.invokevirtual 38, 3) := by decide +kernel
theorem dX8_step_10 : decode cX8_step 10 = .ok (.ifCond .eq 5, 3) := by decide +kernel
theorem dX8_step_13 : decode cX8_step 13 = .ok (.iconst 0, 1) := by decide +kernel
theorem dX8_step_14 : decode cX8_step 14 = .ok (.ireturn, 1) := by decide +kernel
theorem dX8_step_15 : decode cX8_step 15 = .ok (.aload_n 0, 1) := by decide +kernel
theorem dX8_step_16 : decode cX8_step 16 = .ok (.getfield 10, 3) := by decide +kernel
theorem dX8_step_19 : decode cX8_step 19 = .ok (.iload_n 1, 1) := by decide +kernel
theorem dX8_step_20 : decode cX8_step 20 = .ok (.aaload, 1) := by decide +kernel
theorem dX8_step_21 : decode cX8_step 21 = .ok (.astore_n 2, 1) := by decide +kernel
theorem dX8_step_22 : decode cX8_step 22 = .ok (.aload_n 2, 1) := by decide +kernel
theorem dX8_step_23 : decode cX8_step 23 = .ok (.invokevirtual 156, 3) := by decide +kernel
theorem dX8_step_26 : decode cX8_step 26 = .ok (.ifCond .ne 8, 3) := by decide +kernel
theorem dX8_step_29 : decode cX8_step 29 = .ok (.aload_n 0, 1) := by decide +kernel
theorem dX8_step_30 : decode cX8_step 30 = .ok (.invokevirtual 97, 3) := by decide +kernel
theorem dX8_step_33 : decode cX8_step 33 = .ok (.ireturn, 1) := by decide +kernel
theorem dX8_step_34 : decode cX8_step 34 = .ok (.aload_n 2, 1) := by decide +kernel
theorem dX8_step_35 : decode cX8_step 35 = .ok (.invokevirtual 159, 3) := by decide +kernel
theorem dX8_step_38 : decode cX8_step 38 = .ok (.ifCond .eq 10, 3) := by decide +kernel
theorem dX8_step_41 : decode cX8_step 41 = .ok (.aload_n 2, 1) := by decide +kernel
theorem dX8_step_42 : decode cX8_step 42 = .ok (.invokevirtual 162, 3) := by decide +kernel
theorem dX8_step_45 : decode cX8_step 45 = .ok (.goto 5, 3) := by decide +kernel
theorem dX8_step_48 : decode cX8_step 48 = .ok (.bipush (-8), 2) := by decide +kernel
theorem dX8_step_50 : decode cX8_step 50 = .ok (.ireturn, 1) := by decide +kernel
theorem dX8_cut_0 : decode cX8_cut 0 = .ok (.aload_n 0, 1) := by decide +kernel
theorem dX8_cut_1 : decode cX8_cut 1 = .ok (.iload_n 1, 1) := by decide +kernel
theorem dX8_cut_2 : decode cX8_cut 2 = .ok (.invokestatic 34, 3) := by decide +kernel
theorem dX8_cut_5 : decode cX8_cut 5 = .ok (.iconst 0, 1) := by decide +kernel
theorem dX8_cut_6 : decode cX8_cut 6 = .ok (.iconst 0, 1) := by decide +kernel
theorem dX8_cut_7 : decode cX8_cut 7 = .ok (.invokevirtual 38, 3) := by decide +kernel
theorem dX8_cut_10 : decode cX8_cut 10 = .ok (.ifCond .eq 5, 3) := by decide +kernel
theorem dX8_cut_13 : decode cX8_cut 13 = .ok (.iconst 0, 1) := by decide +kernel
theorem dX8_cut_14 : decode cX8_cut 14 = .ok (.ireturn, 1) := by decide +kernel
theorem dX8_cut_15 : decode cX8_cut 15 = .ok (.aload_n 0, 1) := by decide +kernel
theorem dX8_cut_16 : decode cX8_cut 16 = .ok (.getfield 10, 3) := by decide +kernel
theorem dX8_cut_19 : decode cX8_cut 19 = .ok (.iload_n 1, 1) := by decide +kernel
theorem dX8_cut_20 : decode cX8_cut 20 = .ok (.aaload, 1) := by decide +kernel
theorem dX8_cut_21 : decode cX8_cut 21 = .ok (.astore_n 2, 1) := by decide +kernel
theorem dX8_cut_22 : decode cX8_cut 22 = .ok (.aload_n 2, 1) := by decide +kernel
theorem dX8_cut_23 : decode cX8_cut 23 = .ok (.invokevirtual 156, 3) := by decide +kernel
theorem dX8_cut_26 : decode cX8_cut 26 = .ok (.ifCond .eq 10, 3) := by decide +kernel
theorem dX8_cut_29 : decode cX8_cut 29 = .ok (.aload_n 2, 1) := by decide +kernel
theorem dX8_cut_30 : decode cX8_cut 30 = .ok (.getfield 153, 3) := by decide +kernel
theorem dX8_cut_33 : decode cX8_cut 33 = .ok (.ifCond .ne 8, 3) := by decide +kernel
theorem dX8_cut_36 : decode cX8_cut 36 = .ok (.aload_n 0, 1) := by decide +kernel
theorem dX8_cut_37 : decode cX8_cut 37 = .ok (.invokevirtual 97, 3) := by decide +kernel
theorem dX8_cut_40 : decode cX8_cut 40 = .ok (.ireturn, 1) := by decide +kernel
theorem dX8_cut_41 : decode cX8_cut 41 = .ok (.aload_n 2, 1) := by decide +kernel
theorem dX8_cut_42 : decode cX8_cut 42 = .ok (.iconst 0, 1) := by decide +kernel
theorem dX8_cut_43 : decode cX8_cut 43 = .ok (.putfield 153, 3) := by decide +kernel
theorem dX8_cut_46 : decode cX8_cut 46 = .ok (.aload_n 2, 1) := by decide +kernel
theorem dX8_cut_47 : decode cX8_cut 47 = .ok (.dup, 1) := by decide +kernel
theorem dX8_cut_48 : decode cX8_cut 48 = .ok (.getfield 150, 3) := by decide +kernel
theorem dX8_cut_51 : decode cX8_cut 51 = .ok (.iconst 1, 1) := by decide +kernel
theorem dX8_cut_52 : decode cX8_cut 52 = .ok (.isub, 1) := by decide +kernel
theorem dX8_cut_53 : decode cX8_cut 53 = .ok (.putfield 150, 3) := by decide +kernel
theorem dX8_cut_56 : decode cX8_cut 56 = .ok (.aload_n 2, 1) := by decide +kernel
theorem dX8_cut_57 : decode cX8_cut 57 = .ok (.getfield 42, 3) := by decide +kernel
theorem dX8_cut_60 : decode cX8_cut 60 = .ok (.aload_n 2, 1) := by decide +kernel
theorem dX8_cut_61 : decode cX8_cut 61 = .ok (.getfield 150, 3) := by decide +kernel
theorem dX8_cut_64 : decode cX8_cut 64 = .ok (.invokevirtual 84, 3) := by decide +kernel
theorem dX8_cut_67 : decode cX8_cut 67 = .ok (.pop, 1) := by decide +kernel
theorem dX8_cut_68 : decode cX8_cut 68 = .ok (.aload_n 2, 1) := by decide +kernel
theorem dX8_cut_69 : decode cX8_cut 69 = .ok (.getfield 42, 3) := by decide +kernel
theorem dX8_cut_72 : decode cX8_cut 72 = .ok (.invokevirtual 45, 3) := by decide +kernel
theorem dX8_cut_75 : decode cX8_cut 75 = .ok (.ireturn, 1) := by decide +kernel
theorem dX8_hasMore_0 : decode cX8_hasMore 0 = .ok (.aload_n 0, 1) := by decide +kernel
theorem dX8_hasMore_1 : decode cX8_hasMore 1 = .ok (.iload_n 1, 1) := by decide +kernel
theorem dX8_hasMore_2 : decode cX8_hasMore 2 = .ok (.invokestatic 34, 3) := by decide +kernel
theorem dX8_hasMore_5 : decode cX8_hasMore 5 = .ok (.iconst 0, 1) := by decide +kernel
theorem dX8_hasMore_6 : decode cX8_hasMore 6 = .ok (.iconst 0, 1) := by decide +kernel
theorem dX8_hasMore_7 : decode cX8_hasMore 7 = .ok (.invokevirtual 38, 3) := by decide +kernel
theorem dX8_hasMore_10 : decode cX8_hasMore 10 = .ok (.ifCond .ne 19, 3) := by decide +kernel
theorem dX8_hasMore_13 : decode cX8_hasMore 13 = .ok (.aload_n 0, 1) := by decide +kernel
theorem dX8_hasMore_14 : decode cX8_hasMore 14 = .ok (.getfield 10, 3) := by decide +kernel
theorem dX8_hasMore_17 : decode cX8_hasMore 17 = .ok (.iload_n 1, 1) := by decide +kernel
theorem dX8_hasMore_18 : decode cX8_hasMore 18 = .ok (.aaload, 1) := by decide +kernel
theorem dX8_hasMore_19 : decode cX8_hasMore 19 = .ok (.invokevirtual 159, 3) := by decide +kernel
theorem dX8_hasMore_22 : decode cX8_hasMore 22 = .ok (.ifCond .eq 7, 3) := by decide +kernel
theorem dX8_hasMore_25 : decode cX8_hasMore 25 = .ok (.iconst 1, 1) := by decide +kernel
theorem dX8_hasMore_26 : decode cX8_hasMore 26 = .ok (.goto 4, 3) := by decide +kernel
theorem dX8_hasMore_29 : decode cX8_hasMore 29 = .ok (.iconst 0, 1) := by decide +kernel
theorem dX8_hasMore_30 : decode cX8_hasMore 30 = .ok (.ireturn, 1) := by decide +kernel
theorem dX8_isStaleNow_0 : decode cX8_isStaleNow 0 = .ok (.aload_n 0, 1) := by decide +kernel
theorem dX8_isStaleNow_1 : decode cX8_isStaleNow 1 = .ok (.getfield 10, 3) := by decide +kernel
theorem dX8_isStaleNow_4 : decode cX8_isStaleNow 4 = .ok (.iload_n 1, 1) := by decide +kernel
theorem dX8_isStaleNow_5 : decode cX8_isStaleNow 5 = .ok (.aaload, 1) := by decide +kernel
theorem dX8_isStaleNow_6 : decode cX8_isStaleNow 6 = .ok (.getfield 147, 3) := by decide +kernel
theorem dX8_isStaleNow_9 : decode cX8_isStaleNow 9 = .ok (.iconst (-1), 1) := by decide +kernel
theorem dX8_isStaleNow_10 : decode cX8_isStaleNow 10 = .ok (.if_icmp .eq 19, 3) := by decide +kernel
theorem dX8_isStaleNow_13 : decode cX8_isStaleNow 13 = .ok (.aload_n 0, 1) := by decide +kernel
theorem dX8_isStaleNow_14 : decode cX8_isStaleNow 14 = .ok (.getfield 10, 3) := by decide +kernel
theorem dX8_isStaleNow_17 : decode cX8_isStaleNow 17 = .ok (.iload_n 1, 1) := by decide +kernel
theorem dX8_isStaleNow_18 : decode cX8_isStaleNow 18 = .ok (.aaload, 1) := by decide +kernel
theorem dX8_isStaleNow_19 : decode cX8_isStaleNow 19 = .ok (.getfield 56, 3) := by decide +kernel
theorem dX8_isStaleNow_22 : decode cX8_isStaleNow 22 = .ok (.ifCond .eq 7, 3) := by decide +kernel
theorem dX8_isStaleNow_25 : decode cX8_isStaleNow 25 = .ok (.iconst 1, 1) := by decide +kernel
theorem dX8_isStaleNow_26 : decode cX8_isStaleNow 26 = .ok (.goto 4, 3) := by decide +kernel
theorem dX8_isStaleNow_29 : decode cX8_isStaleNow 29 = .ok (.iconst 0, 1) := by decide +kernel
theorem dX8_isStaleNow_30 : decode cX8_isStaleNow 30 = .ok (.ireturn, 1) := by decide +kernel
theorem dX8_isStale_0 : decode cX8_isStale 0 = .ok (.aload_n 0, 1) := by decide +kernel
theorem dX8_isStale_1 : decode cX8_isStale 1 = .ok (.iload_n 1, 1) := by decide +kernel
theorem dX8_isStale_2 : decode cX8_isStale 2 = .ok (.invokestatic 34, 3) := by decide +kernel
theorem dX8_isStale_5 : decode cX8_isStale 5 = .ok (.iconst 0, 1) := by decide +kernel
theorem dX8_isStale_6 : decode cX8_isStale 6 = .ok (.iconst 0, 1) := by decide +kernel
theorem dX8_isStale_7 : decode cX8_isStale 7 = .ok (.invokevirtual 38, 3) := by decide +kernel
theorem dX8_isStale_10 : decode cX8_isStale 10 = .ok (.ifCond .ne 15, 3) := by decide +kernel
theorem dX8_isStale_13 : decode cX8_isStale 13 = .ok (.aload_n 0, 1) := by decide +kernel
theorem dX8_isStale_14 : decode cX8_isStale 14 = .ok (.iload_n 1, 1) := by decide +kernel
theorem dX8_isStale_15 : decode cX8_isStale 15 = .ok (.invokevirtual 165, 3) := by decide +kernel
theorem dX8_isStale_18 : decode cX8_isStale 18 = .ok (.ifCond .eq 7, 3) := by decide +kernel
theorem dX8_isStale_21 : decode cX8_isStale 21 = .ok (.iconst 1, 1) := by decide +kernel
theorem dX8_isStale_22 : decode cX8_isStale 22 = .ok (.goto 4, 3) := by decide +kernel
theorem dX8_isStale_25 : decode cX8_isStale 25 = .ok (.iconst 0, 1) := by decide +kernel
theorem dX8_isStale_26 : decode cX8_isStale 26 = .ok (.ireturn, 1) := by decide +kernel
theorem dX8_rest_0 : decode cX8_rest 0 = .ok (.aload_n 0, 1) := by decide +kernel
theorem dX8_rest_1 : decode cX8_rest 1 = .ok (.iload_n 1, 1) := by decide +kernel
theorem dX8_rest_2 : decode cX8_rest 2 = .ok (.invokestatic 34, 3) := by decide +kernel
theorem dX8_rest_5 : decode cX8_rest 5 = .ok (.iconst 0, 1) := by decide +kernel
theorem dX8_rest_6 : decode cX8_rest 6 = .ok (.iconst 0, 1) := by decide +kernel
theorem dX8_rest_7 : decode cX8_rest 7 = .ok (.invokevirtual 38, 3) := by decide +kernel
theorem dX8_rest_10 : decode cX8_rest 10 = .ok (.ifCond .eq 5, 3) := by decide +kernel
theorem dX8_rest_13 : decode cX8_rest 13 = .ok (.iconst 0, 1) := by decide +kernel
theorem dX8_rest_14 : decode cX8_rest 14 = .ok (.ireturn, 1) := by decide +kernel
theorem dX8_rest_15 : decode cX8_rest 15 = .ok (.aload_n 0, 1) := by decide +kernel
theorem dX8_rest_16 : decode cX8_rest 16 = .ok (.getfield 10, 3) := by decide +kernel
theorem dX8_rest_19 : decode cX8_rest 19 = .ok (.iload_n 1, 1) := by decide +kernel
theorem dX8_rest_20 : decode cX8_rest 20 = .ok (.aaload, 1) := by decide +kernel
theorem dX8_rest_21 : decode cX8_rest 21 = .ok (.astore_n 2, 1) := by decide +kernel
theorem dX8_rest_22 : decode cX8_rest 22 = .ok (.aload_n 2, 1) := by decide +kernel
theorem dX8_rest_23 : decode cX8_rest 23 = .ok (.invokevirtual 156, 3) := by decide +kernel
theorem dX8_rest_26 : decode cX8_rest 26 = .ok (.ifCond .ne 8, 3) := by decide +kernel
theorem dX8_rest_29 : decode cX8_rest 29 = .ok (.aload_n 0, 1) := by decide +kernel
theorem dX8_rest_30 : decode cX8_rest 30 = .ok (.invokevirtual 97, 3) := by decide +kernel
theorem dX8_rest_33 : decode cX8_rest 33 = .ok (.ireturn, 1) := by decide +kernel
theorem dX8_rest_34 : decode cX8_rest 34 = .ok (.iconst 0, 1) := by decide +kernel
theorem dX8_rest_35 : decode cX8_rest 35 = .ok (.istore_n 3, 1) := by decide +kernel
theorem dX8_rest_36 : decode cX8_rest 36 = .ok (.aload_n 2, 1) := by decide +kernel
theorem dX8_rest_37 : decode cX8_rest 37 = .ok (.invokevirtual 159, 3) := by decide +kernel
theorem dX8_rest_40 : decode cX8_rest 40 = .ok (.ifCond .eq 13, 3) := by decide +kernel
theorem dX8_rest_43 : decode cX8_rest 43 = .ok (.iload_n 3, 1) := by decide +kernel
theorem dX8_rest_44 : decode cX8_rest 44 = .ok (.aload_n 2, 1) := by decide +kernel
theorem dX8_rest_45 : decode cX8_rest 45 = .ok (.invokevirtual 162, 3) := by decide +kernel
theorem dX8_rest_48 : decode cX8_rest 48 = .ok (.iadd, 1) := by decide +kernel
theorem dX8_rest_49 : decode cX8_rest 49 = .ok (.istore_n 3, 1) := by decide +kernel
theorem dX8_rest_50 : decode cX8_rest 50 = .ok (.goto (-14), 3) := by decide +kernel
theorem dX8_rest_53 : decode cX8_rest 53 = .ok (.iload_n 3, 1) := by decide +kernel
theorem dX8_rest_54 : decode cX8_rest 54 = .ok (.ireturn, 1) := by decide +kernel
theorem dX8_unlike_0 : decode cX8_unlike 0 = .ok (.iconst 0, 1) := by decide +kernel
theorem dX8_unlike_1 : decode cX8_unlike 1 = .ok (.istore_n 3, 1) := by decide +kernel
theorem dX8_unlike_2 : decode cX8_unlike 2 = .ok (.iload_n 1, 1) := by decide +kernel
theorem dX8_unlike_3 : decode cX8_unlike 3 = .ok (.istore 4, 2) := by decide +kernel
theorem dX8_unlike_5 : decode cX8_unlike 5 = .ok (.iload 4, 2) := by decide +kernel
theorem dX8_unlike_7 : decode cX8_unlike 7 = .ok (.iload_n 2, 1) := by decide +kernel
theorem dX8_unlike_8 : decode cX8_unlike 8 = .ok (.if_icmp .ge 45, 3) := by decide +kernel
theorem dX8_unlike_11 : decode cX8_unlike 11 = .ok (.iload_n 3, 1) := by decide +kernel
theorem dX8_unlike_12 : decode cX8_unlike 12 = .ok (.aload_n 0, 1) := by decide +kernel
theorem dX8_unlike_13 : decode cX8_unlike 13 = .ok (.aload_n 0, 1) := by decide +kernel
theorem dX8_unlike_14 : decode cX8_unlike 14 = .ok (.getfield 19, 3) := by decide +kernel
theorem dX8_unlike_17 : decode cX8_unlike 17 = .ok (.iload 4, 2) := by decide +kernel
theorem dX8_unlike_19 : decode cX8_unlike 19 = .ok (.invokevirtual 64, 3) := by decide +kernel
theorem dX8_unlike_22 : decode cX8_unlike 22 = .ok (.checkcast 168, 3) := by decide +kernel
theorem dX8_unlike_25 : decode cX8_unlike 25 = .ok (.invokevirtual 170, 3) := by decide +kernel
theorem dX8_unlike_28 : decode cX8_unlike 28 = .ok (.iload 4, 2) := by decide +kernel
theorem dX8_unlike_30 : decode cX8_unlike 30 = .ok (.invokevirtual 173, 3) := by decide +kernel
theorem dX8_unlike_33 : decode cX8_unlike 33 = .ok (.iload_n 1, 1) := by decide +kernel
theorem dX8_unlike_34 : decode cX8_unlike 34 = .ok (.if_icmp .ge 7, 3) := by decide +kernel
theorem dX8_unlike_37 : decode cX8_unlike 37 = .ok (.iconst 1, 1) := by decide +kernel
theorem dX8_unlike_38 : decode cX8_unlike 38 = .ok (.goto 4, 3) := by decide +kernel
theorem dX8_unlike_41 : decode cX8_unlike 41 = .ok (.iconst 0, 1) := by decide +kernel
theorem dX8_unlike_42 : decode cX8_unlike 42 = .ok (.invokestatic 139, 3) := by decide +kernel
theorem dX8_unlike_45 : decode cX8_unlike 45 = .ok (.iadd, 1) := by decide +kernel
theorem dX8_unlike_46 : decode cX8_unlike 46 = .ok (.istore_n 3, 1) := by decide +kernel
theorem dX8_unlike_47 : decode cX8_unlike 47 = .ok (.iinc 4 1, 3) := by decide +kernel
theorem dX8_unlike_50 : decode cX8_unlike 50 = .ok (.goto (-45), 3) := by decide +kernel
theorem dX8_unlike_53 : decode cX8_unlike 53 = .ok (.iload_n 3, 1) := by decide +kernel
theorem dX8_unlike_54 : decode cX8_unlike 54 = .ok (.ireturn, 1) := by decide +kernel
theorem dX8_before_0 : decode cX8_before 0 = .ok (.iload_n 2, 1) := by decide +kernel
theorem dX8_before_1 : decode cX8_before 1 = .ok (.iconst 1, 1) := by decide +kernel
theorem dX8_before_2 : decode cX8_before 2 = .ok (.isub, 1) := by decide +kernel
theorem dX8_before_3 : decode cX8_before 3 = .ok (.istore_n 3, 1) := by decide +kernel
theorem dX8_before_4 : decode cX8_before 4 = .ok (.iload_n 3, 1) := by decide +kernel
theorem dX8_before_5 : decode cX8_before 5 = .ok (.ifCond .lt 29, 3) := by decide +kernel
theorem dX8_before_8 : decode cX8_before 8 = .ok (.aload_n 0, 1) := by decide +kernel
theorem dX8_before_9 : decode cX8_before 9 = .ok (.getfield 19, 3) := by decide +kernel
theorem dX8_before_12 : decode cX8_before 12 = .ok (.iload_n 3, 1) := by decide +kernel
theorem dX8_before_13 : decode cX8_before 13 = .ok (.invokevirtual 64, 3) := by decide +kernel
theorem dX8_before_16 : decode cX8_before 16 = .ok (.checkcast 168, 3) := by decide +kernel
theorem dX8_before_19 : decode cX8_before 19 = .ok (.invokevirtual 170, 3) := by decide +kernel
theorem dX8_before_22 : decode cX8_before 22 = .ok (.iload_n 1, 1) := by decide +kernel
theorem dX8_before_23 : decode cX8_before 23 = .ok (.if_icmp .ne 5, 3) := by decide +kernel
theorem dX8_before_26 : decode cX8_before 26 = .ok (.iload_n 3, 1) := by decide +kernel
theorem dX8_before_27 : decode cX8_before 27 = .ok (.ireturn, 1) := by decide +kernel
theorem dX8_before_28 : decode cX8_before 28 = .ok (.iinc 3 (-1), 3) := by decide +kernel
theorem dX8_before_31 : decode cX8_before 31 = .ok (.goto (-27), 3) := by decide +kernel
theorem dX8_before_34 : decode cX8_before 34 = .ok (.iconst (-1), 1) := by decide +kernel
theorem dX8_before_35 : decode cX8_before 35 = .ok (.ireturn, 1) := by decide +kernel
theorem dX8_depthOf_0 : decode cX8_depthOf 0 = .ok (.aload_n 0, 1) := by decide +kernel
theorem dX8_depthOf_1 : decode cX8_depthOf 1 = .ok (.iload_n 1, 1) := by decide +kernel
theorem dX8_depthOf_2 : decode cX8_depthOf 2 = .ok (.iload_n 2, 1) := by decide +kernel
theorem dX8_depthOf_3 : decode cX8_depthOf 3 = .ok (.invokevirtual 173, 3) := by decide +kernel
theorem dX8_depthOf_6 : decode cX8_depthOf 6 = .ok (.istore_n 3, 1) := by decide +kernel
theorem dX8_depthOf_7 : decode cX8_depthOf 7 = .ok (.iload_n 3, 1) := by decide +kernel
theorem dX8_depthOf_8 : decode cX8_depthOf 8 = .ok (.iconst (-1), 1) := by decide +kernel
theorem dX8_depthOf_9 : decode cX8_depthOf 9 = .ok (.if_icmp .ne 7, 3) := by decide +kernel
theorem dX8_depthOf_12 : decode cX8_depthOf 12 = .ok (.iconst 0, 1) := by decide +kernel
theorem dX8_depthOf_13 : decode cX8_depthOf 13 = .ok (.goto 13, 3) := by decide +kernel
theorem dX8_depthOf_16 : decode cX8_depthOf 16 = .ok (.iconst 1, 1) := by decide +kernel
theorem dX8_depthOf_17 : decode cX8_depthOf 17 = .ok (.aload_n 0, 1) := by decide +kernel
theorem dX8_depthOf_18 : decode cX8_depthOf 18 = .ok (.iload_n 3, 1) := by decide +kernel
theorem dX8_depthOf_19 : decode cX8_depthOf 19 = .ok (.iconst 1, 1) := by decide +kernel
theorem dX8_depthOf_20 : decode cX8_depthOf 20 = .ok (.iadd, 1) := by decide +kernel
theorem dX8_depthOf_21 : decode cX8_depthOf 21 = .ok (.iload_n 2, 1) := by decide +kernel
theorem dX8_depthOf_22 : decode cX8_depthOf 22 = .ok (.invokevirtual 176, 3) := by decide +kernel
theorem dX8_depthOf_25 : decode cX8_depthOf 25 = .ok (.iadd, 1) := by decide +kernel
theorem dX8_depthOf_26 : decode cX8_depthOf 26 = .ok (.ireturn, 1) := by decide +kernel
theorem dX8_isHit_0 : decode cX8_isHit 0 = .ok (.aload_n 0, 1) := by decide +kernel
theorem dX8_isHit_1 : decode cX8_isHit 1 = .ok (.aload_n 0, 1) := by decide +kernel
theorem dX8_isHit_2 : decode cX8_isHit 2 = .ok (.getfield 19, 3) := by decide +kernel
theorem dX8_isHit_5 : decode cX8_isHit 5 = .ok (.iload_n 2, 1) := by decide +kernel
theorem dX8_isHit_6 : decode cX8_isHit 6 = .ok (.invokevirtual 64, 3) := by decide +kernel
theorem dX8_isHit_9 : decode cX8_isHit 9 = .ok (.checkcast 168, 3) := by decide +kernel
theorem dX8_isHit_12 : decode cX8_isHit 12 = .ok (.invokevirtual 170, 3) := by decide +kernel
theorem dX8_isHit_15 : decode cX8_isHit 15 = .ok (.iload_n 2, 1) := by decide +kernel
theorem dX8_isHit_16 : decode cX8_isHit 16 = .ok (.invokevirtual 179, 3) := by decide +kernel
theorem dX8_isHit_19 : decode cX8_isHit 19 = .ok (.istore_n 3, 1) := by decide +kernel
theorem dX8_isHit_20 : decode cX8_isHit 20 = .ok (.iload_n 3, 1) := by decide +kernel
theorem dX8_isHit_21 : decode cX8_isHit 21 = .ok (.ifCond .le 12, 3) := by decide +kernel
theorem dX8_isHit_24 : decode cX8_isHit 24 = .ok (.iload_n 3, 1) := by decide +kernel
theorem dX8_isHit_25 : decode cX8_isHit 25 = .ok (.iload_n 1, 1) := by decide +kernel
theorem dX8_isHit_26 : decode cX8_isHit 26 = .ok (.if_icmp .gt 7, 3) := by decide +kernel
theorem dX8_isHit_29 : decode cX8_isHit 29 = .ok (.iconst 1, 1) := by decide +kernel
theorem dX8_isHit_30 : decode cX8_isHit 30 = .ok (.goto 4, 3) := by decide +kernel
theorem dX8_isHit_33 : decode cX8_isHit 33 = .ok (.iconst 0, 1) := by decide +kernel
theorem dX8_isHit_34 : decode cX8_isHit 34 = .ok (.ireturn, 1) := by decide +kernel
theorem dX8_keyWith_0 : decode cX8_keyWith 0 = .ok (.iconst 0, 1) := by decide +kernel
theorem dX8_keyWith_1 : decode cX8_keyWith 1 = .ok (.istore_n 3, 1) := by decide +kernel
theorem dX8_keyWith_2 : decode cX8_keyWith 2 = .ok (.iload_n 3, 1) := by decide +kernel
theorem dX8_keyWith_3 : decode cX8_keyWith 3 = .ok (.bipush 20, 2) := by decide +kernel
theorem dX8_keyWith_5 : decode cX8_keyWith 5 = .ok (.if_icmp .ge 21, 3) := by decide +kernel
theorem dX8_keyWith_8 : decode cX8_keyWith 8 = .ok (.aload_n 0, 1) := by decide +kernel
theorem dX8_keyWith_9 : decode cX8_keyWith 9 = .ok (.iload_n 3, 1) := by decide +kernel
theorem dX8_keyWith_10 : decode cX8_keyWith 10 = .ok (.iload_n 2, 1) := by decide +kernel
theorem dX8_keyWith_11 : decode cX8_keyWith 11 = .ok (.invokevirtual 179, 3) := by decide +kernel
theorem dX8_keyWith_14 : decode cX8_keyWith 14 = .ok (.iload_n 1, 1) := by decide +kernel
theorem dX8_keyWith_15 : decode cX8_keyWith 15 = .ok (.if_icmp .ne 5, 3) := by decide +kernel
theorem dX8_keyWith_18 : decode cX8_keyWith 18 = .ok (.iload_n 3, 1) := by decide +kernel
theorem dX8_keyWith_19 : decode cX8_keyWith 19 = .ok (.ireturn, 1) := by decide +kernel
theorem dX8_keyWith_20 : decode cX8_keyWith 20 = .ok (.iinc 3 1, 3) := by decide +kernel
theorem dX8_keyWith_23 : decode cX8_keyWith 23 = .ok (.goto (-21), 3) := by decide +kernel
theorem dX8_keyWith_26 : decode cX8_keyWith 26 = .ok (.iconst (-1), 1) := by decide +kernel
theorem dX8_keyWith_27 : decode cX8_keyWith 27 = .ok (.ireturn, 1) := by decide +kernel
theorem dX8_hitsOf_0 : decode cX8_hitsOf 0 = .ok (.iload_n 1, 1) := by decide +kernel
theorem dX8_hitsOf_1 : decode cX8_hitsOf 1 = .ok (.ifCond .eq 9, 3) := by decide +kernel
theorem dX8_hitsOf_4 : decode cX8_hitsOf 4 = .ok (.iload_n 1, 1) := by decide +kernel
theorem dX8_hitsOf_5 : decode cX8_hitsOf 5 = .ok (.bipush 6, 2) := by decide +kernel
theorem dX8_hitsOf_7 : decode cX8_hitsOf 7 = .ok (.if_icmp .le 7, 3) := by decide +kernel
theorem dX8_hitsOf_10 : decode cX8_hitsOf 10 = .ok (.iconst 0, 1) := by decide +kernel
theorem dX8_hitsOf_11 : decode cX8_hitsOf 11 = .ok (.goto 7, 3) := by decide +kernel
theorem dX8_hitsOf_14 : decode cX8_hitsOf 14 = .ok (.bipush 7, 2) := by decide +kernel
theorem dX8_hitsOf_16 : decode cX8_hitsOf 16 = .ok (.iload_n 1, 1) := by decide +kernel
theorem dX8_hitsOf_17 : decode cX8_hitsOf 17 = .ok (.isub, 1) := by decide +kernel
theorem dX8_hitsOf_18 : decode cX8_hitsOf 18 = .ok (.ireturn, 1) := by decide +kernel
theorem dX8_asks_0 : decode cX8_asks 0 = .ok (.aload_n 0, 1) := by decide +kernel
theorem dX8_asks_1 : decode cX8_asks 1 = .ok (.iload_n 1, 1) := by decide +kernel
theorem dX8_asks_2 : decode cX8_asks 2 = .ok (.aload_n 0, 1) := by decide +kernel
theorem dX8_asks_3 : decode cX8_asks 3 = .ok (.getfield 19, 3) := by decide +kernel
theorem dX8_asks_6 : decode cX8_asks 6 = .ok (.invokevirtual 45, 3) := by decide +kernel
theorem dX8_asks_9 : decode cX8_asks 9 = .ok (.invokevirtual 179, 3) := by decide +kernel
theorem dX8_asks_12 : decode cX8_asks 12 = .ok (.istore_n 2, 1) := by decide +kernel
theorem dX8_asks_13 : decode cX8_asks 13 = .ok (.aload_n 0, 1) := by decide +kernel
theorem dX8_asks_14 : decode cX8_asks 14 = .ok (.getfield 19, 3) := by decide +kernel
theorem dX8_asks_17 : decode cX8_asks 17 = .ok (.iload_n 1, 1) := by decide +kernel
theorem dX8_asks_18 : decode cX8_asks 18 = .ok (.invokestatic 182, 3) := by decide +kernel
theorem dX8_asks_21 : decode cX8_asks 21 = .ok (.invokevirtual 74, 3) := by decide +kernel
theorem dX8_asks_24 : decode cX8_asks 24 = .ok (.pop, 1) := by decide +kernel
theorem dX8_asks_25 : decode cX8_asks 25 = .ok (.aload_n 0, 1) := by decide +kernel
theorem dX8_asks_26 : decode cX8_asks 26 = .ok (.iload_n 2, 1) := by decide +kernel
theorem dX8_asks_27 : decode cX8_asks 27 = .ok (.invokevirtual 186, 3) := by decide +kernel
theorem dX8_asks_30 : decode cX8_asks 30 = .ok (.ireturn, 1) := by decide +kernel
theorem dX8_ask_0 : decode cX8_ask 0 = .ok (.aload_n 0, 1) := by decide +kernel
theorem dX8_ask_1 : decode cX8_ask 1 = .ok (.iload_n 1, 1) := by decide +kernel
theorem dX8_ask_2 : decode cX8_ask 2 = .ok (.bipush 20, 2) := by decide +kernel
theorem dX8_ask_4 : decode cX8_ask 4 = .ok (.invokestatic 27, 3) := by decide +kernel
theorem dX8_ask_7 : decode cX8_ask 7 = .ok (.aload_n 0, 1) := by decide +kernel
theorem dX8_ask_8 : decode cX8_ask 8 = .ok (.getfield 19, 3) := by decide +kernel
theorem dX8_ask_11 : decode cX8_ask 11 = .ok (.invokevirtual 45, 3) := by decide +kernel
theorem dX8_ask_14 : decode cX8_ask 14 = .ok (.bipush 60, 2) := by decide +kernel
theorem dX8_ask_16 : decode cX8_ask 16 = .ok (.if_icmp .ne 7, 3) := by decide +kernel
theorem dX8_ask_19 : decode cX8_ask 19 = .ok (.iconst 1, 1) := by decide +kernel
theorem dX8_ask_20 : decode cX8_ask 20 = .ok (.goto 4, 3) := by decide +kernel
theorem dX8_ask_23 : decode cX8_ask 23 = .ok (.iconst 0, 1) := by decide +kernel
theorem dX8_ask_24 : decode cX8_ask 24 = .ok (.iconst 0, 1) := by decide +kernel
theorem dX8_ask_25 : decode cX8_ask 25 = .ok (.invokevirtual 38, 3) := by decide +kernel
theorem dX8_ask_28 : decode cX8_ask 28 = .ok (.ifCond .eq 7, 3) := by decide +kernel
theorem dX8_ask_31 : decode cX8_ask 31 = .ok (.iconst 0, 1) := by decide +kernel
theorem dX8_ask_32 : decode cX8_ask 32 = .ok (.goto 8, 3) := by decide +kernel
theorem dX8_ask_35 : decode cX8_ask 35 = .ok (.aload_n 0, 1) := by decide +kernel
theorem dX8_ask_36 : decode cX8_ask 36 = .ok (.iload_n 1, 1) := by decide +kernel
theorem dX8_ask_37 : decode cX8_ask 37 = .ok (.invokevirtual 189, 3) := by decide +kernel
theorem dX8_ask_40 : decode cX8_ask 40 = .ok (.ireturn, 1) := by decide +kernel
theorem dX8_askRow_0 : decode cX8_askRow 0 = .ok (.aload_n 0, 1) := by decide +kernel
theorem dX8_askRow_1 : decode cX8_askRow 1 = .ok (.iload_n 1, 1) := by decide +kernel
theorem dX8_askRow_2 : decode cX8_askRow 2 = .ok (.bipush 20, 2) := by decide +kernel
theorem dX8_askRow_4 : decode cX8_askRow 4 = .ok (.invokestatic 27, 3) := by decide +kernel
theorem dX8_askRow_7 : decode cX8_askRow 7 = .ok (.ifCond .ne 23, 3) := by decide +kernel
theorem dX8_askRow_10 : decode cX8_askRow 10 = .ok (.iload_n 2, 1) := by decide +kernel
theorem dX8_askRow_11 : decode cX8_askRow 11 = .ok (.bipush 20, 2) := by decide +kernel
theorem dX8_askRow_13 : decode cX8_askRow 13 = .ok (.invokestatic 27, 3) := by decide +kernel
theorem dX8_askRow_16 : decode cX8_askRow 16 = .ok (.ifCond .ne 14, 3) := by decide +kernel
theorem dX8_askRow_19 : decode cX8_askRow 19 = .ok (.iload_n 3, 1) := by decide +kernel
theorem dX8_askRow_20 : decode cX8_askRow 20 = .ok (.iconst 1, 1) := by decide +kernel
theorem dX8_askRow_21 : decode cX8_askRow 21 = .ok (.isub, 1) := by decide +kernel
theorem dX8_askRow_22 : decode cX8_askRow 22 = .ok (.bipush 12, 2) := by decide +kernel
theorem dX8_askRow_24 : decode cX8_askRow 24 = .ok (.invokestatic 27, 3) := by decide +kernel
theorem dX8_askRow_27 : decode cX8_askRow 27 = .ok (.ifCond .eq 7, 3) := by decide +kernel
theorem dX8_askRow_30 : decode cX8_askRow 30 = .ok (.iconst 1, 1) := by decide +kernel
theorem dX8_askRow_31 : decode cX8_askRow 31 = .ok (.goto 4, 3) := by decide +kernel
theorem dX8_askRow_34 : decode cX8_askRow 34 = .ok (.iconst 0, 1) := by decide +kernel
theorem dX8_askRow_35 : decode cX8_askRow 35 = .ok (.aload_n 0, 1) := by decide +kernel
theorem dX8_askRow_36 : decode cX8_askRow 36 = .ok (.getfield 19, 3) := by decide +kernel
theorem dX8_askRow_39 : decode cX8_askRow 39 = .ok (.invokevirtual 45, 3) := by decide +kernel
theorem dX8_askRow_42 : decode cX8_askRow 42 = .ok (.iload_n 3, 1) := by decide +kernel
theorem dX8_askRow_43 : decode cX8_askRow 43 = .ok (.iadd, 1) := by decide +kernel
theorem dX8_askRow_44 : decode cX8_askRow 44 = .ok (.bipush 60, 2) := by decide +kernel
theorem dX8_askRow_46 : decode cX8_askRow 46 = .ok (.if_icmp .le 7, 3) := by decide +kernel
theorem dX8_askRow_49 : decode cX8_askRow 49 = .ok (.iconst 1, 1) := by decide +kernel
theorem dX8_askRow_50 : decode cX8_askRow 50 = .ok (.goto 4, 3) := by decide +kernel
theorem dX8_askRow_53 : decode cX8_askRow 53 = .ok (.iconst 0, 1) := by decide +kernel
theorem dX8_askRow_54 : decode cX8_askRow 54 = .ok (.iconst 0, 1) := by decide +kernel
theorem dX8_askRow_55 : decode cX8_askRow 55 = .ok (.invokevirtual 38, 3) := by decide +kernel
theorem dX8_askRow_58 : decode cX8_askRow 58 = .ok (.ifCond .eq 5, 3) := by decide +kernel
theorem dX8_askRow_61 : decode cX8_askRow 61 = .ok (.iconst 0, 1) := by decide +kernel
theorem dX8_askRow_62 : decode cX8_askRow 62 = .ok (.ireturn, 1) := by decide +kernel
theorem dX8_askRow_63 : decode cX8_askRow 63 = .ok (.iconst 0, 1) := by decide +kernel
theorem dX8_askRow_64 : decode cX8_askRow 64 = .ok (.istore 4, 2) := by decide +kernel
theorem dX8_askRow_66 : decode cX8_askRow 66 = .ok (.iconst 0, 1) := by decide +kernel
theorem dX8_askRow_67 : decode cX8_askRow 67 = .ok (.istore 5, 2) := by decide +kernel
theorem dX8_askRow_69 : decode cX8_askRow 69 = .ok (.iload 5, 2) := by decide +kernel
theorem dX8_askRow_71 : decode cX8_askRow 71 = .ok (.iload_n 3, 1) := by decide +kernel
theorem dX8_askRow_72 : decode cX8_askRow 72 = .ok (.if_icmp .ge 27, 3) := by decide +kernel
theorem dX8_askRow_75 : decode cX8_askRow 75 = .ok (.iload 4, 2) := by decide +kernel
theorem dX8_askRow_77 : decode cX8_askRow 77 = .ok (.aload_n 0, 1) := by decide +kernel
theorem dX8_askRow_78 : decode cX8_askRow 78 = .ok (.iload_n 1, 1) := by decide +kernel
theorem dX8_askRow_79 : decode cX8_askRow 79 = .ok (.iload 5, 2) := by decide +kernel
theorem dX8_askRow_81 : decode cX8_askRow 81 = .ok (.iload_n 2, 1) := by decide +kernel
theorem dX8_askRow_82 : decode cX8_askRow 82 = .ok (.imul, 1) := by decide +kernel
theorem dX8_askRow_83 : decode cX8_askRow 83 = .ok (.iadd, 1) := by decide +kernel
theorem dX8_askRow_84 : decode cX8_askRow 84 = .ok (.bipush 20, 2) := by decide +kernel
theorem dX8_askRow_86 : decode cX8_askRow 86 = .ok (.irem, 1) := by decide +kernel
theorem dX8_askRow_87 : decode cX8_askRow 87 = .ok (.invokevirtual 189, 3) := by decide +kernel
theorem dX8_askRow_90 : decode cX8_askRow 90 = .ok (.iadd, 1) := by decide +kernel
theorem dX8_askRow_91 : decode cX8_askRow 91 = .ok (.istore 4, 2) := by decide +kernel
theorem dX8_askRow_93 : decode cX8_askRow 93 = .ok (.iinc 5 1, 3) := by decide +kernel
theorem dX8_askRow_96 : decode cX8_askRow 96 = .ok (.goto (-27), 3) := by decide +kernel
theorem dX8_askRow_99 : decode cX8_askRow 99 = .ok (.iload 4, 2) := by decide +kernel
theorem dX8_askRow_101 : decode cX8_askRow 101 = .ok (.ireturn, 1) := by decide +kernel
theorem dX8_forget_0 : decode cX8_forget 0 = .ok (.aload_n 0, 1) := by decide +kernel
theorem dX8_forget_1 : decode cX8_forget 1 = .ok (.iconst 0, 1) := by decide +kernel
theorem dX8_forget_2 : decode cX8_forget 2 = .ok (.putfield 23, 3) := by decide +kernel
theorem dX8_forget_5 : decode cX8_forget 5 = .ok (.aload_n 0, 1) := by decide +kernel
theorem dX8_forget_6 : decode cX8_forget 6 = .ok (.getfield 19, 3) := by decide +kernel
theorem dX8_forget_9 : decode cX8_forget 9 = .ok (.invokevirtual 45, 3) := by decide +kernel
theorem dX8_forget_12 : decode cX8_forget 12 = .ok (.istore_n 1, 1) := by decide +kernel
theorem dX8_forget_13 : decode cX8_forget 13 = .ok (.aload_n 0, 1) := by decide +kernel
theorem dX8_forget_14 : decode cX8_forget 14 = .ok (.getfield 19, 3) := by decide +kernel
theorem dX8_forget_17 : decode cX8_forget 17 = .ok (.invokevirtual 49, 3) := by decide +kernel
theorem dX8_forget_20 : decode cX8_forget 20 = .ok (.iload_n 1, 1) := by decide +kernel
theorem dX8_forget_21 : decode cX8_forget 21 = .ok (.ireturn, 1) := by decide +kernel
theorem dX8_asked_0 : decode cX8_asked 0 = .ok (.aload_n 0, 1) := by decide +kernel
theorem dX8_asked_1 : decode cX8_asked 1 = .ok (.iconst 0, 1) := by decide +kernel
theorem dX8_asked_2 : decode cX8_asked 2 = .ok (.putfield 23, 3) := by decide +kernel
theorem dX8_asked_5 : decode cX8_asked 5 = .ok (.aload_n 0, 1) := by decide +kernel
theorem dX8_asked_6 : decode cX8_asked 6 = .ok (.getfield 19, 3) := by decide +kernel
theorem dX8_asked_9 : decode cX8_asked 9 = .ok (.invokevirtual 45, 3) := by decide +kernel
theorem dX8_asked_12 : decode cX8_asked 12 = .ok (.ireturn, 1) := by decide +kernel
theorem dX8_askedAt_0 : decode cX8_askedAt 0 = .ok (.aload_n 0, 1) := by decide +kernel
theorem dX8_askedAt_1 : decode cX8_askedAt 1 = .ok (.iconst 0, 1) := by decide +kernel
theorem dX8_askedAt_2 : decode cX8_askedAt 2 = .ok (.putfield 23, 3) := by decide +kernel
theorem dX8_askedAt_5 : decode cX8_askedAt 5 = .ok (.iload_n 1, 1) := by decide +kernel
theorem dX8_askedAt_6 : decode cX8_askedAt 6 = .ok (.aload_n 0, 1) := by decide +kernel
theorem dX8_askedAt_7 : decode cX8_askedAt 7 = .ok (.getfield 19, 3) := by decide +kernel
theorem dX8_askedAt_10 : decode cX8_askedAt 10 = .ok (.invokevirtual 45, 3) := by decide +kernel
theorem dX8_askedAt_13 : decode cX8_askedAt 13 = .ok (.invokestatic 27, 3) := by decide +kernel
theorem dX8_askedAt_16 : decode cX8_askedAt 16 = .ok (.ifCond .eq 7, 3) := by decide +kernel
theorem dX8_askedAt_19 : decode cX8_askedAt 19 = .ok (.iconst (-1), 1) := by decide +kernel
theorem dX8_askedAt_20 : decode cX8_askedAt 20 = .ok (.goto 17, 3) := by decide +kernel
theorem dX8_askedAt_23 : decode cX8_askedAt 23 = .ok (.aload_n 0, 1) := by decide +kernel
theorem dX8_askedAt_24 : decode cX8_askedAt 24 = .ok (.getfield 19, 3) := by decide +kernel
theorem dX8_askedAt_27 : decode cX8_askedAt 27 = .ok (.iload_n 1, 1) := by decide +kernel
theorem dX8_askedAt_28 : decode cX8_askedAt 28 = .ok (.invokevirtual 64, 3) := by decide +kernel
theorem dX8_askedAt_31 : decode cX8_askedAt 31 = .ok (.checkcast 168, 3) := by decide +kernel
theorem dX8_askedAt_34 : decode cX8_askedAt 34 = .ok (.invokevirtual 170, 3) := by decide +kernel
theorem dX8_askedAt_37 : decode cX8_askedAt 37 = .ok (.ireturn, 1) := by decide +kernel
theorem dX8_depthAt_0 : decode cX8_depthAt 0 = .ok (.aload_n 0, 1) := by decide +kernel
theorem dX8_depthAt_1 : decode cX8_depthAt 1 = .ok (.iconst 0, 1) := by decide +kernel
theorem dX8_depthAt_2 : decode cX8_depthAt 2 = .ok (.putfield 23, 3) := by decide +kernel
theorem dX8_depthAt_5 : decode cX8_depthAt 5 = .ok (.iload_n 1, 1) := by decide +kernel
theorem dX8_depthAt_6 : decode cX8_depthAt 6 = .ok (.aload_n 0, 1) := by decide +kernel
theorem dX8_depthAt_7 : decode cX8_depthAt 7 = .ok (.getfield 19, 3) := by decide +kernel
theorem dX8_depthAt_10 : decode cX8_depthAt 10 = .ok (.invokevirtual 45, 3) := by decide +kernel
theorem dX8_depthAt_13 : decode cX8_depthAt 13 = .ok (.invokestatic 27, 3) := by decide +kernel
theorem dX8_depthAt_16 : decode cX8_depthAt 16 = .ok (.ifCond .eq 7, 3) := by decide +kernel
theorem dX8_depthAt_19 : decode cX8_depthAt 19 = .ok (.iconst (-1), 1) := by decide +kernel
theorem dX8_depthAt_20 : decode cX8_depthAt 20 = .ok (.goto 22, 3) := by decide +kernel
theorem dX8_depthAt_23 : decode cX8_depthAt 23 = .ok (.aload_n 0, 1) := by decide +kernel
theorem dX8_depthAt_24 : decode cX8_depthAt 24 = .ok (.aload_n 0, 1) := by decide +kernel
theorem dX8_depthAt_25 : decode cX8_depthAt 25 = .ok (.getfield 19, 3) := by decide +kernel
theorem dX8_depthAt_28 : decode cX8_depthAt 28 = .ok (.iload_n 1, 1) := by decide +kernel
theorem dX8_depthAt_29 : decode cX8_depthAt 29 = .ok (.invokevirtual 64, 3) := by decide +kernel
theorem dX8_depthAt_32 : decode cX8_depthAt 32 = .ok (.checkcast 168, 3) := by decide +kernel
theorem dX8_depthAt_35 : decode cX8_depthAt 35 = .ok (.invokevirtual 170, 3) := by decide +kernel
theorem dX8_depthAt_38 : decode cX8_depthAt 38 = .ok (.iload_n 1, 1) := by decide +kernel
theorem dX8_depthAt_39 : decode cX8_depthAt 39 = .ok (.invokevirtual 179, 3) := by decide +kernel
theorem dX8_depthAt_42 : decode cX8_depthAt 42 = .ok (.ireturn, 1) := by decide +kernel
theorem dX8_depth_0 : decode cX8_depth 0 = .ok (.aload_n 0, 1) := by decide +kernel
theorem dX8_depth_1 : decode cX8_depth 1 = .ok (.iload_n 1, 1) := by decide +kernel
theorem dX8_depth_2 : decode cX8_depth 2 = .ok (.bipush 20, 2) := by decide +kernel
theorem dX8_depth_4 : decode cX8_depth 4 = .ok (.invokestatic 27, 3) := by decide +kernel
theorem dX8_depth_7 : decode cX8_depth 7 = .ok (.iconst 0, 1) := by decide +kernel
theorem dX8_depth_8 : decode cX8_depth 8 = .ok (.iconst 0, 1) := by decide +kernel
theorem dX8_depth_9 : decode cX8_depth 9 = .ok (.invokevirtual 38, 3) := by decide +kernel
theorem dX8_depth_12 : decode cX8_depth 12 = .ok (.ifCond .eq 7, 3) := by decide +kernel
theorem dX8_depth_15 : decode cX8_depth 15 = .ok (.iconst 0, 1) := by decide +kernel
theorem dX8_depth_16 : decode cX8_depth 16 = .ok (.goto 15, 3) := by decide +kernel
theorem dX8_depth_19 : decode cX8_depth 19 = .ok (.aload_n 0, 1) := by decide +kernel
theorem dX8_depth_20 : decode cX8_depth 20 = .ok (.iload_n 1, 1) := by decide +kernel
