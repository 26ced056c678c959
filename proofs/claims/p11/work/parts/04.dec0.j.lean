/-! ===== joined: 04.dec0, 04.dec1, 04.dec2 ===== -/
section
theorem dX0_init_0 : decode cX0_init 0 = .ok (.aload_n 0, 1) := by decide +kernel
theorem dX0_init_1 : decode cX0_init 1 = .ok (.invokespecial 3, 3) := by decide +kernel
theorem dX0_init_4 : decode cX0_init 4 = .ok (.aload_n 0, 1) := by decide +kernel
theorem dX0_init_5 : decode cX0_init 5 = .ok (.bipush 60, 2) := by decide +kernel
theorem dX0_init_7 : decode cX0_init 7 = .ok (.newarray .int, 2) := by decide +kernel
theorem dX0_init_9 : decode cX0_init 9 = .ok (.putfield 9, 3) := by decide +kernel
theorem dX0_init_12 : decode cX0_init 12 = .ok (.aload_n 0, 1) := by decide +kernel
theorem dX0_init_13 : decode cX0_init 13 = .ok (.bipush 60, 2) := by decide +kernel
theorem dX0_init_15 : decode cX0_init 15 = .ok (.newarray .int, 2) := by decide +kernel
theorem dX0_init_17 : decode cX0_init 17 = .ok (.putfield 15, 3) := by decide +kernel
theorem dX0_init_20 : decode cX0_init 20 = .ok (.aload_n 0, 1) := by decide +kernel
theorem dX0_init_21 : decode cX0_init 21 = .ok (.bipush 60, 2) := by decide +kernel
theorem dX0_init_23 : decode cX0_init 23 = .ok (.newarray .int, 2) := by decide +kernel
theorem dX0_init_25 : decode cX0_init 25 = .ok (.putfield 18, 3) := by decide +kernel
theorem dX0_init_28 : decode cX0_init 28 = .ok (.aload_n 0, 1) := by decide +kernel
theorem dX0_init_29 : decode cX0_init 29 = .ok (.bipush 6, 2) := by decide +kernel
theorem dX0_init_31 : decode cX0_init 31 = .ok (.newarray .int, 2) := by decide +kernel
theorem dX0_init_33 : decode cX0_init 33 = .ok (.putfield 21, 3) := by decide +kernel
theorem dX0_init_36 : decode cX0_init 36 = .ok (.aload_n 0, 1) := by decide +kernel
theorem dX0_init_37 : decode cX0_init 37 = .ok (.bipush 6, 2) := by decide +kernel
theorem dX0_init_39 : decode cX0_init 39 = .ok (.newarray .int, 2) := by decide +kernel
theorem dX0_init_41 : decode cX0_init 41 = .ok (.putfield 24, 3) := by decide +kernel
theorem dX0_init_44 : decode cX0_init 44 = .ok (.aload_n 0, 1) := by decide +kernel
theorem dX0_init_45 : decode cX0_init 45 = .ok (.iconst 0, 1) := by decide +kernel
theorem dX0_init_46 : decode cX0_init 46 = .ok (.putfield 27, 3) := by decide +kernel
theorem dX0_init_49 : decode cX0_init 49 = .ok (.return_, 1) := by decide +kernel
theorem dX0_add_0 : decode cX0_add 0 = .ok (.aload_n 0, 1) := by decide +kernel
theorem dX0_add_1 : decode cX0_add 1 = .ok (.getfield 27, 3) := by decide +kernel
theorem dX0_add_4 : decode cX0_add 4 = .ok (.bipush 60, 2) := by decide +kernel
theorem dX0_add_6 : decode cX0_add 6 = .ok (.if_icmp .lt 4, 3) := by decide +kernel
theorem dX0_add_9 : decode cX0_add 9 = .ok (.return_, 1) := by decide +kernel
theorem dX0_add_10 : decode cX0_add 10 = .ok (.aload_n 0, 1) := by decide +kernel
theorem dX0_add_11 : decode cX0_add 11 = .ok (.iload_n 1, 1) := by decide +kernel
theorem dX0_add_12 : decode cX0_add 12 = .ok (.invokevirtual 31, 3) := by decide +kernel
theorem dX0_add_15 : decode cX0_add 15 = .ok (.aload_n 0, 1) := by decide +kernel
theorem dX0_add_16 : decode cX0_add 16 = .ok (.getfield 9, 3) := by decide +kernel
theorem dX0_add_19 : decode cX0_add 19 = .ok (.aload_n 0, 1) := by decide +kernel
theorem dX0_add_20 : decode cX0_add 20 = .ok (.getfield 27, 3) := by decide +kernel
theorem dX0_add_23 : decode cX0_add 23 = .ok (.iload_n 1, 1) := by decide +kernel
theorem dX0_add_24 : decode cX0_add 24 = .ok (.iastore, 1) := by decide +kernel
theorem dX0_add_25 : decode cX0_add 25 = .ok (.aload_n 0, 1) := by decide +kernel
theorem dX0_add_26 : decode cX0_add 26 = .ok (.getfield 15, 3) := by decide +kernel
theorem dX0_add_29 : decode cX0_add 29 = .ok (.aload_n 0, 1) := by decide +kernel
theorem dX0_add_30 : decode cX0_add 30 = .ok (.getfield 27, 3) := by decide +kernel
theorem dX0_add_33 : decode cX0_add 33 = .ok (.iload_n 2, 1) := by decide +kernel
theorem dX0_add_34 : decode cX0_add 34 = .ok (.iastore, 1) := by decide +kernel
theorem dX0_add_35 : decode cX0_add 35 = .ok (.aload_n 0, 1) := by decide +kernel
theorem dX0_add_36 : decode cX0_add 36 = .ok (.getfield 18, 3) := by decide +kernel
theorem dX0_add_39 : decode cX0_add 39 = .ok (.aload_n 0, 1) := by decide +kernel
theorem dX0_add_40 : decode cX0_add 40 = .ok (.getfield 27, 3) := by decide +kernel
theorem dX0_add_43 : decode cX0_add 43 = .ok (.bipush 60, 2) := by decide +kernel
theorem dX0_add_45 : decode cX0_add 45 = .ok (.iastore, 1) := by decide +kernel
theorem dX0_add_46 : decode cX0_add 46 = .ok (.aload_n 0, 1) := by decide +kernel
theorem dX0_add_47 : decode cX0_add 47 = .ok (.dup, 1) := by decide +kernel
theorem dX0_add_48 : decode cX0_add 48 = .ok (.getfield 27, 3) := by decide +kernel
theorem dX0_add_51 : decode cX0_add 51 = .ok (.iconst 1, 1) := by decide +kernel
theorem dX0_add_52 : decode cX0_add 52 = .ok (.iadd, 1) := by decide +kernel
theorem dX0_add_53 : decode cX0_add 53 = .ok (.putfield 27, 3) := by decide +kernel
theorem dX0_add_56 : decode cX0_add 56 = .ok (.return_, 1) := by decide +kernel
theorem dX0_noteNext_0 : decode cX0_noteNext 0 = .ok (.aload_n 0, 1) := by decide +kernel
theorem dX0_noteNext_1 : decode cX0_noteNext 1 = .ok (.getfield 27, 3) := by decide +kernel
theorem dX0_noteNext_4 : decode cX0_noteNext 4 = .ok (.iconst 1, 1) := by decide +kernel
theorem dX0_noteNext_5 : decode cX0_noteNext 5 = .ok (.isub, 1) := by decide +kernel
theorem dX0_noteNext_6 : decode cX0_noteNext 6 = .ok (.istore_n 2, 1) := by decide +kernel
theorem dX0_noteNext_7 : decode cX0_noteNext 7 = .ok (.iload_n 2, 1) := by decide +kernel
theorem dX0_noteNext_8 : decode cX0_noteNext 8 = .ok (.ifCond .lt 30, 3) := by decide +kernel
theorem dX0_noteNext_11 : decode cX0_noteNext 11 = .ok (.aload_n 0, 1) := by decide +kernel
theorem dX0_noteNext_12 : decode cX0_noteNext 12 = .ok (.getfield 9, 3) := by decide +kernel
theorem dX0_noteNext_15 : decode cX0_noteNext 15 = .ok (.iload_n 2, 1) := by decide +kernel
theorem dX0_noteNext_16 : decode cX0_noteNext 16 = .ok (.iaload, 1) := by decide +kernel
theorem dX0_noteNext_17 : decode cX0_noteNext 17 = .ok (.iload_n 1, 1) := by decide +kernel
theorem dX0_noteNext_18 : decode cX0_noteNext 18 = .ok (.if_icmp .ne 14, 3) := by decide +kernel
theorem dX0_noteNext_21 : decode cX0_noteNext 21 = .ok (.aload_n 0, 1) := by decide +kernel
theorem dX0_noteNext_22 : decode cX0_noteNext 22 = .ok (.getfield 18, 3) := by decide +kernel
theorem dX0_noteNext_25 : decode cX0_noteNext 25 = .ok (.iload_n 2, 1) := by decide +kernel
theorem dX0_noteNext_26 : decode cX0_noteNext 26 = .ok (.aload_n 0, 1) := by decide +kernel
theorem dX0_noteNext_27 : decode cX0_noteNext 27 = .ok (.getfield 27, 3) := by decide +kernel
theorem dX0_noteNext_30 : decode cX0_noteNext 30 = .ok (.iastore, 1) := by decide +kernel
theorem dX0_noteNext_31 : decode cX0_noteNext 31 = .ok (.return_, 1) := by decide +kernel
theorem dX0_noteNext_32 : decode cX0_noteNext 32 = .ok (.iinc 2 (-1), 3) := by decide +kernel
theorem dX0_noteNext_35 : decode cX0_noteNext 35 = .ok (.goto (-28), 3) := by decide +kernel
theorem dX0_noteNext_38 : decode cX0_noteNext 38 = .ok (.return_, 1) := by decide +kernel
theorem dX0_isNumber_0 : decode cX0_isNumber 0 = .ok (.iload_n 1, 1) := by decide +kernel
theorem dX0_isNumber_1 : decode cX0_isNumber 1 = .ok (.ifCond .lt 15, 3) := by decide +kernel
theorem dX0_isNumber_4 : decode cX0_isNumber 4 = .ok (.iload_n 1, 1) := by decide +kernel
theorem dX0_isNumber_5 : decode cX0_isNumber 5 = .ok (.aload_n 0, 1) := by decide +kernel
theorem dX0_isNumber_6 : decode cX0_isNumber 6 = .ok (.getfield 27, 3) := by decide +kernel
theorem dX0_isNumber_9 : decode cX0_isNumber 9 = .ok (.if_icmp .ge 7, 3) := by decide +kernel
theorem dX0_isNumber_12 : decode cX0_isNumber 12 = .ok (.iconst 1, 1) := by decide +kernel
theorem dX0_isNumber_13 : decode cX0_isNumber 13 = .ok (.goto 4, 3) := by decide +kernel
theorem dX0_isNumber_16 : decode cX0_isNumber 16 = .ok (.iconst 0, 1) := by decide +kernel
theorem dX0_isNumber_17 : decode cX0_isNumber 17 = .ok (.ireturn, 1) := by decide +kernel
theorem dX0_countOfDepth_0 : decode cX0_countOfDepth 0 = .ok (.iconst 0, 1) := by decide +kernel
theorem dX0_countOfDepth_1 : decode cX0_countOfDepth 1 = .ok (.istore_n 2, 1) := by decide +kernel
theorem dX0_countOfDepth_2 : decode cX0_countOfDepth 2 = .ok (.iconst 0, 1) := by decide +kernel
theorem dX0_countOfDepth_3 : decode cX0_countOfDepth 3 = .ok (.istore_n 3, 1) := by decide +kernel
theorem dX0_countOfDepth_4 : decode cX0_countOfDepth 4 = .ok (.iload_n 3, 1) := by decide +kernel
theorem dX0_countOfDepth_5 : decode cX0_countOfDepth 5 = .ok (.aload_n 0, 1) := by decide +kernel
theorem dX0_countOfDepth_6 : decode cX0_countOfDepth 6 = .ok (.getfield 27, 3) := by decide +kernel
theorem dX0_countOfDepth_9 : decode cX0_countOfDepth 9 = .ok (.if_icmp .ge 22, 3) := by decide +kernel
theorem dX0_countOfDepth_12 : decode cX0_countOfDepth 12 = .ok (.aload_n 0, 1) := by decide +kernel
theorem dX0_countOfDepth_13 : decode cX0_countOfDepth 13 = .ok (.getfield 15, 3) := by decide +kernel
theorem dX0_countOfDepth_16 : decode cX0_countOfDepth 16 = .ok (.iload_n 3, 1) := by decide +kernel
theorem dX0_countOfDepth_17 : decode cX0_countOfDepth 17 = .ok (.iaload, 1) := by decide +kernel
theorem dX0_countOfDepth_18 : decode cX0_countOfDepth 18 = .ok (.iload_n 1, 1) := by decide +kernel
theorem dX0_countOfDepth_19 : decode cX0_countOfDepth 19 = .ok (.if_icmp .ne 6, 3) := by decide +kernel
theorem dX0_countOfDepth_22 : decode cX0_countOfDepth 22 = .ok (.iinc 2 1, 3) := by decide +kernel
theorem dX0_countOfDepth_25 : decode cX0_countOfDepth 25 = .ok (.iinc 3 1, 3) := by decide +kernel
theorem dX0_countOfDepth_28 : decode cX0_countOfDepth 28 = .ok (.goto (-24), 3) := by decide +kernel
theorem dX0_countOfDepth_31 : decode cX0_countOfDepth 31 = .ok (.iload_n 2, 1) := by decide +kernel
theorem dX0_countOfDepth_32 : decode cX0_countOfDepth 32 = .ok (.ireturn, 1) := by decide +kernel
theorem dX0_countOutOfReach_0 : decode cX0_countOutOfReach 0 = .ok (.iconst 0, 1) := by decide +kernel
theorem dX0_countOutOfReach_1 : decode cX0_countOutOfReach 1 = .ok (.istore_n 2, 1) := by decide +kernel
theorem dX0_countOutOfReach_2 : decode cX0_countOutOfReach 2 = .ok (.iconst 0, 1) := by decide +kernel
theorem dX0_countOutOfReach_3 : decode cX0_countOutOfReach 3 = .ok (.istore_n 3, 1) := by decide +kernel
theorem dX0_countOutOfReach_4 : decode cX0_countOutOfReach 4 = .ok (.iload_n 3, 1) := by decide +kernel
theorem dX0_countOutOfReach_5 : decode cX0_countOutOfReach 5 = .ok (.aload_n 0, 1) := by decide +kernel
theorem dX0_countOutOfReach_6 : decode cX0_countOutOfReach 6 = .ok (.getfield 27, 3) := by decide +kernel
theorem dX0_countOutOfReach_9 : decode cX0_countOutOfReach 9 = .ok (.if_icmp .ge 31, 3) := by decide +kernel
theorem dX0_countOutOfReach_12 : decode cX0_countOutOfReach 12 = .ok (.aload_n 0, 1) := by decide +kernel
theorem dX0_countOutOfReach_13 : decode cX0_countOutOfReach 13 = .ok (.getfield 15, 3) := by decide +kernel
theorem dX0_countOutOfReach_16 : decode cX0_countOutOfReach 16 = .ok (.iload_n 3, 1) := by decide +kernel
theorem dX0_countOutOfReach_17 : decode cX0_countOutOfReach 17 = .ok (.iaload, 1) := by decide +kernel
theorem dX0_countOutOfReach_18 : decode cX0_countOutOfReach 18 = .ok (.ifCond .eq 13, 3) := by decide +kernel
theorem dX0_countOutOfReach_21 : decode cX0_countOutOfReach 21 = .ok (.aload_n 0, 1) := by decide +kernel
theorem dX0_countOutOfReach_22 : decode cX0_countOutOfReach 22 = .ok (.getfield 15, 3) := by decide +kernel
theorem dX0_countOutOfReach_25 : decode cX0_countOutOfReach 25 = .ok (.iload_n 3, 1) := by decide +kernel
theorem dX0_countOutOfReach_26 : decode cX0_countOutOfReach 26 = .ok (.iaload, 1) := by decide +kernel
theorem dX0_countOutOfReach_27 : decode cX0_countOutOfReach 27 = .ok (.iload_n 1, 1) := by decide +kernel
theorem dX0_countOutOfReach_28 : decode cX0_countOutOfReach 28 = .ok (.if_icmp .le 6, 3) := by decide +kernel
theorem dX0_countOutOfReach_31 : decode cX0_countOutOfReach 31 = .ok (.iinc 2 1, 3) := by decide +kernel
theorem dX0_countOutOfReach_34 : decode cX0_countOutOfReach 34 = .ok (.iinc 3 1, 3) := by decide +kernel
theorem dX0_countOutOfReach_37 : decode cX0_countOutOfReach 37 = .ok (.goto (-33), 3) := by decide +kernel
theorem dX0_countOutOfReach_40 : decode cX0_countOutOfReach 40 = .ok (.iload_n 2, 1) := by decide +kernel
theorem dX0_countOutOfReach_41 : decode cX0_countOutOfReach 41 = .ok (.ireturn, 1) := by decide +kernel
theorem dX0_fewestMisses_0 : decode cX0_fewestMisses 0 = .ok (.iload_n 1, 1) := by decide +kernel
theorem dX0_fewestMisses_1 : decode cX0_fewestMisses 1 = .ok (.bipush 6, 2) := by decide +kernel
theorem dX0_fewestMisses_3 : decode cX0_fewestMisses 3 = .ok (.invokestatic 35, 3) := by decide +kernel
theorem dX0_fewestMisses_6 : decode cX0_fewestMisses 6 = .ok (.istore_n 2, 1) := by decide +kernel
theorem dX0_fewestMisses_7 : decode cX0_fewestMisses 7 = .ok (.iconst 0, 1) := by decide +kernel
theorem dX0_fewestMisses_8 : decode cX0_fewestMisses 8 = .ok (.istore_n 3, 1) := by decide +kernel
theorem dX0_fewestMisses_9 : decode cX0_fewestMisses 9 = .ok (.iconst 0, 1) := by decide +kernel
theorem dX0_fewestMisses_10 : decode cX0_fewestMisses 10 = .ok (.istore 4, 2) := by decide +kernel
theorem dX0_fewestMisses_12 : decode cX0_fewestMisses 12 = .ok (.iconst 0, 1) := by decide +kernel
theorem dX0_fewestMisses_13 : decode cX0_fewestMisses 13 = .ok (.istore 5, 2) := by decide +kernel
theorem dX0_fewestMisses_15 : decode cX0_fewestMisses 15 = .ok (.iload 5, 2) := by decide +kernel
theorem dX0_fewestMisses_17 : decode cX0_fewestMisses 17 = .ok (.aload_n 0, 1) := by decide +kernel
theorem dX0_fewestMisses_18 : decode cX0_fewestMisses 18 = .ok (.getfield 27, 3) := by decide +kernel
theorem dX0_fewestMisses_21 : decode cX0_fewestMisses 21 = .ok (.if_icmp .ge 85, 3) := by decide +kernel
theorem dX0_fewestMisses_24 : decode cX0_fewestMisses 24 = .ok (.aload_n 0, 1) := by decide +kernel
theorem dX0_fewestMisses_25 : decode cX0_fewestMisses 25 = .ok (.aload_n 0, 1) := by decide +kernel
theorem dX0_fewestMisses_26 : decode cX0_fewestMisses 26 = .ok (.getfield 9, 3) := by decide +kernel
theorem dX0_fewestMisses_29 : decode cX0_fewestMisses 29 = .ok (.iload 5, 2) := by decide +kernel
theorem dX0_fewestMisses_31 : decode cX0_fewestMisses 31 = .ok (.iaload, 1) := by decide +kernel
theorem dX0_fewestMisses_32 : decode cX0_fewestMisses 32 = .ok (.iload_n 3, 1) := by decide +kernel
theorem dX0_fewestMisses_33 : decode cX0_fewestMisses 33 = .ok (.invokevirtual 41, 3) := by decide +kernel
theorem dX0_fewestMisses_36 : decode cX0_fewestMisses 36 = .ok (.istore 6, 2) := by decide +kernel
theorem dX0_fewestMisses_38 : decode cX0_fewestMisses 38 = .ok (.iload 6, 2) := by decide +kernel
theorem dX0_fewestMisses_40 : decode cX0_fewestMisses 40 = .ok (.iconst (-1), 1) := by decide +kernel
theorem dX0_fewestMisses_41 : decode cX0_fewestMisses 41 = .ok (.if_icmp .ne 45, 3) := by decide +kernel
theorem dX0_fewestMisses_44 : decode cX0_fewestMisses 44 = .ok (.iinc 4 1, 3) := by decide +kernel
theorem dX0_fewestMisses_47 : decode cX0_fewestMisses 47 = .ok (.iload_n 3, 1) := by decide +kernel
theorem dX0_fewestMisses_48 : decode cX0_fewestMisses 48 = .ok (.iload_n 2, 1) := by decide +kernel
theorem dX0_fewestMisses_49 : decode cX0_fewestMisses 49 = .ok (.if_icmp .ge 7, 3) := by decide +kernel
theorem dX0_fewestMisses_52 : decode cX0_fewestMisses 52 = .ok (.iload_n 3, 1) := by decide +kernel
theorem dX0_fewestMisses_53 : decode cX0_fewestMisses 53 = .ok (.goto 8, 3) := by decide +kernel
theorem dX0_fewestMisses_56 : decode cX0_fewestMisses 56 = .ok (.aload_n 0, 1) := by decide +kernel
theorem dX0_fewestMisses_57 : decode cX0_fewestMisses 57 = .ok (.iload_n 3, 1) := by decide +kernel
theorem dX0_fewestMisses_58 : decode cX0_fewestMisses 58 = .ok (.invokevirtual 44, 3) := by decide +kernel
theorem dX0_fewestMisses_61 : decode cX0_fewestMisses 61 = .ok (.istore 6, 2) := by decide +kernel
theorem dX0_fewestMisses_63 : decode cX0_fewestMisses 63 = .ok (.iload_n 3, 1) := by decide +kernel
theorem dX0_fewestMisses_64 : decode cX0_fewestMisses 64 = .ok (.iload 6, 2) := by decide +kernel
theorem dX0_fewestMisses_66 : decode cX0_fewestMisses 66 = .ok (.iconst 1, 1) := by decide +kernel
theorem dX0_fewestMisses_67 : decode cX0_fewestMisses 67 = .ok (.iadd, 1) := by decide +kernel
theorem dX0_fewestMisses_68 : decode cX0_fewestMisses 68 = .ok (.invokestatic 48, 3) := by decide +kernel
theorem dX0_fewestMisses_71 : decode cX0_fewestMisses 71 = .ok (.istore_n 3, 1) := by decide +kernel
theorem dX0_fewestMisses_72 : decode cX0_fewestMisses 72 = .ok (.aload_n 0, 1) := by decide +kernel
theorem dX0_fewestMisses_73 : decode cX0_fewestMisses 73 = .ok (.getfield 21, 3) := by decide +kernel
theorem dX0_fewestMisses_76 : decode cX0_fewestMisses 76 = .ok (.iload 6, 2) := by decide +kernel
theorem dX0_fewestMisses_78 : decode cX0_fewestMisses 78 = .ok (.aload_n 0, 1) := by decide +kernel
theorem dX0_fewestMisses_79 : decode cX0_fewestMisses 79 = .ok (.getfield 9, 3) := by decide +kernel
theorem dX0_fewestMisses_82 : decode cX0_fewestMisses 82 = .ok (.iload 5, 2) := by decide +kernel
theorem dX0_fewestMisses_84 : decode cX0_fewestMisses 84 = .ok (.iaload, 1) := by decide +kernel
theorem dX0_fewestMisses_85 : decode cX0_fewestMisses 85 = .ok (.iastore, 1) := by decide +kernel
theorem dX0_fewestMisses_86 : decode cX0_fewestMisses 86 = .ok (.aload_n 0, 1) := by decide +kernel
theorem dX0_fewestMisses_87 : decode cX0_fewestMisses 87 = .ok (.getfield 24, 3) := by decide +kernel
theorem dX0_fewestMisses_90 : decode cX0_fewestMisses 90 = .ok (.iload 6, 2) := by decide +kernel
theorem dX0_fewestMisses_92 : decode cX0_fewestMisses 92 = .ok (.aload_n 0, 1) := by decide +kernel
theorem dX0_fewestMisses_93 : decode cX0_fewestMisses 93 = .ok (.getfield 18, 3) := by decide +kernel
theorem dX0_fewestMisses_96 : decode cX0_fewestMisses 96 = .ok (.iload 5, 2) := by decide +kernel
theorem dX0_fewestMisses_98 : decode cX0_fewestMisses 98 = .ok (.iaload, 1) := by decide +kernel
theorem dX0_fewestMisses_99 : decode cX0_fewestMisses 99 = .ok (.iastore, 1) := by decide +kernel
theorem dX0_fewestMisses_100 : decode cX0_fewestMisses 100 = .ok (.iinc 5 1, 3) := by decide +kernel
theorem dX0_fewestMisses_103 : decode cX0_fewestMisses 103 = .ok (.goto (-88), 3) := by decide +kernel
theorem dX0_fewestMisses_106 : decode cX0_fewestMisses 106 = .ok (.iload 4, 2) := by decide +kernel
theorem dX0_fewestMisses_108 : decode cX0_fewestMisses 108 = .ok (.ireturn, 1) := by decide +kernel
theorem dX0_heldPlace_0 : decode cX0_heldPlace 0 = .ok (.iconst 0, 1) := by decide +kernel
theorem dX0_heldPlace_1 : decode cX0_heldPlace 1 = .ok (.istore_n 3, 1) := by decide +kernel
theorem dX0_heldPlace_2 : decode cX0_heldPlace 2 = .ok (.iload_n 3, 1) := by decide +kernel
theorem dX0_heldPlace_3 : decode cX0_heldPlace 3 = .ok (.iload_n 2, 1) := by decide +kernel
theorem dX0_heldPlace_4 : decode cX0_heldPlace 4 = .ok (.if_icmp .ge 21, 3) := by decide +kernel
theorem dX0_heldPlace_7 : decode cX0_heldPlace 7 = .ok (.aload_n 0, 1) := by decide +kernel
theorem dX0_heldPlace_8 : decode cX0_heldPlace 8 = .ok (.getfield 21, 3) := by decide +kernel
theorem dX0_heldPlace_11 : decode cX0_heldPlace 11 = .ok (.iload_n 3, 1) := by decide +kernel
theorem dX0_heldPlace_12 : decode cX0_heldPlace 12 = .ok (.iaload, 1) := by decide +kernel
theorem dX0_heldPlace_13 : decode cX0_heldPlace 13 = .ok (.iload_n 1, 1) := by decide +kernel
theorem dX0_heldPlace_14 : decode cX0_heldPlace 14 = .ok (.if_icmp .ne 5, 3) := by decide +kernel
theorem dX0_heldPlace_17 : decode cX0_heldPlace 17 = .ok (.iload_n 3, 1) := by decide +kernel
theorem dX0_heldPlace_18 : decode cX0_heldPlace 18 = .ok (.ireturn, 1) := by decide +kernel
theorem dX0_heldPlace_19 : decode cX0_heldPlace 19 = .ok (.iinc 3 1, 3) := by decide +kernel
theorem dX0_heldPlace_22 : decode cX0_heldPlace 22 = .ok (.goto (-20), 3) := by decide +kernel
theorem dX0_heldPlace_25 : decode cX0_heldPlace 25 = .ok (.iconst (-1), 1) := by decide +kernel
theorem dX0_heldPlace_26 : decode cX0_heldPlace 26 = .ok (.ireturn, 1) := by decide +kernel
theorem dX0_farthestPlace_0 : decode cX0_farthestPlace 0 = .ok (.iconst 0, 1) := by decide +kernel
theorem dX0_farthestPlace_1 : decode cX0_farthestPlace 1 = .ok (.istore_n 2, 1) := by decide +kernel
theorem dX0_farthestPlace_2 : decode cX0_farthestPlace 2 = .ok (.iconst 1, 1) := by decide +kernel
theorem dX0_farthestPlace_3 : decode cX0_farthestPlace 3 = .ok (.istore_n 3, 1) := by decide +kernel
theorem dX0_farthestPlace_4 : decode cX0_farthestPlace 4 = .ok (.iload_n 3, 1) := by decide +kernel
theorem dX0_farthestPlace_5 : decode cX0_farthestPlace 5 = .ok (.iload_n 1, 1) := by decide +kernel
theorem dX0_farthestPlace_6 : decode cX0_farthestPlace 6 = .ok (.if_icmp .ge 26, 3) := by decide +kernel
theorem dX0_farthestPlace_9 : decode cX0_farthestPlace 9 = .ok (.aload_n 0, 1) := by decide +kernel
theorem dX0_farthestPlace_10 : decode cX0_farthestPlace 10 = .ok (.getfield 24, 3) := by decide +kernel
theorem dX0_farthestPlace_13 : decode cX0_farthestPlace 13 = .ok (.iload_n 3, 1) := by decide +kernel
theorem dX0_farthestPlace_14 : decode cX0_farthestPlace 14 = .ok (.iaload, 1) := by decide +kernel
theorem dX0_farthestPlace_15 : decode cX0_farthestPlace 15 = .ok (.aload_n 0, 1) := by decide +kernel
theorem dX0_farthestPlace_16 : decode cX0_farthestPlace 16 = .ok (.getfield 24, 3) := by decide +kernel
theorem dX0_farthestPlace_19 : decode cX0_farthestPlace 19 = .ok (.iload_n 2, 1) := by decide +kernel
theorem dX0_farthestPlace_20 : decode cX0_farthestPlace 20 = .ok (.iaload, 1) := by decide +kernel
theorem dX0_farthestPlace_21 : decode cX0_farthestPlace 21 = .ok (.if_icmp .le 5, 3) := by decide +kernel
theorem dX0_farthestPlace_24 : decode cX0_farthestPlace 24 = .ok (.iload_n 3, 1) := by decide +kernel
theorem dX0_farthestPlace_25 : decode cX0_farthestPlace 25 = .ok (.istore_n 2, 1) := by decide +kernel
theorem dX0_farthestPlace_26 : decode cX0_farthestPlace 26 = .ok (.iinc 3 1, 3) := by decide +kernel
theorem dX0_farthestPlace_29 : decode cX0_farthestPlace 29 = .ok (.goto (-25), 3) := by decide +kernel
theorem dX0_farthestPlace_32 : decode cX0_farthestPlace 32 = .ok (.iload_n 2, 1) := by decide +kernel
theorem dX0_farthestPlace_33 : decode cX0_farthestPlace 33 = .ok (.ireturn, 1) := by decide +kernel
theorem dX1_init_0 : decode cX1_init 0 = .ok (.aload_n 0, 1) := by decide +kernel
theorem dX1_init_1 : decode cX1_init 1 = .ok (.invokespecial 1, 3) := by decide +kernel
theorem dX1_init_4 : decode cX1_init 4 = .ok (.aload_n 0, 1) := by decide +kernel
theorem dX1_init_5 : decode cX1_init 5 = .ok (.iconst 0, 1) := by decide +kernel
theorem dX1_init_6 : decode cX1_init 6 = .ok (.putfield 7, 3) := by decide +kernel
theorem dX1_init_9 : decode cX1_init 9 = .ok (.aload_n 0, 1) := by decide +kernel
theorem dX1_init_10 : decode cX1_init 10 = .ok (.iconst 0, 1) := by decide +kernel
theorem dX1_init_11 : decode cX1_init 11 = .ok (.putfield 13, 3) := by decide +kernel
theorem dX1_init_14 : decode cX1_init 14 = .ok (.aload_n 0, 1) := by decide +kernel
theorem dX1_init_15 : decode cX1_init 15 = .ok (.new 16, 3) := by decide +kernel
theorem dX1_init_18 : decode cX1_init 18 = .ok (.dup, 1) := by decide +kernel
theorem dX1_init_19 : decode cX1_init 19 = .ok (.iconst 1, 1) := by decide +kernel
theorem dX1_init_20 : decode cX1_init 20 = .ok (.iload_n 1, 1) := by decide +kernel
theorem dX1_init_21 : decode cX1_init 21 = .ok (.invokespecial 18, 3) := by decide +kernel
theorem dX1_init_24 : decode cX1_init 24 = .ok (.putfield 21, 3) := by decide +kernel
theorem dX1_init_27 : decode cX1_init 27 = .ok (.return_, 1) := by decide +kernel
theorem dX1_startAnew_0 : decode cX1_startAnew 0 = .ok (.aload_n 0, 1) := by decide +kernel
theorem dX1_startAnew_1 : decode cX1_startAnew 1 = .ok (.getfield 21, 3) := by decide +kernel
theorem dX1_startAnew_4 : decode cX1_startAnew 4 = .ok (.iconst 1, 1) := by decide +kernel
theorem dX1_startAnew_5 : decode cX1_startAnew 5 = .ok (.aload_n 0, 1) := by decide +kernel
theorem dX1_startAnew_6 : decode cX1_startAnew 6 = .ok (.getfield 21, 3) := by decide +kernel
theorem dX1_startAnew_9 : decode cX1_startAnew 9 = .ok (.getfield 25, 3) := by decide +kernel
theorem dX1_startAnew_12 : decode cX1_startAnew 12 = .ok (.invokevirtual 28, 3) := by decide +kernel
theorem dX1_startAnew_15 : decode cX1_startAnew 15 = .ok (.pop, 1) := by decide +kernel
theorem dX1_startAnew_16 : decode cX1_startAnew 16 = .ok (.aload_n 0, 1) := by decide +kernel
theorem dX1_startAnew_17 : decode cX1_startAnew 17 = .ok (.iconst 0, 1) := by decide +kernel
theorem dX1_startAnew_18 : decode cX1_startAnew 18 = .ok (.putfield 7, 3) := by decide +kernel
theorem dX1_startAnew_21 : decode cX1_startAnew 21 = .ok (.aload_n 0, 1) := by decide +kernel
theorem dX1_startAnew_22 : decode cX1_startAnew 22 = .ok (.iconst 0, 1) := by decide +kernel
theorem dX1_startAnew_23 : decode cX1_startAnew 23 = .ok (.putfield 13, 3) := by decide +kernel
theorem dX1_startAnew_26 : decode cX1_startAnew 26 = .ok (.return_, 1) := by decide +kernel
theorem dX1_meet_0 : decode cX1_meet 0 = .ok (.aload_n 0, 1) := by decide +kernel
theorem dX1_meet_1 : decode cX1_meet 1 = .ok (.getfield 21, 3) := by decide +kernel
theorem dX1_meet_4 : decode cX1_meet 4 = .ok (.iload_n 1, 1) := by decide +kernel
theorem dX1_meet_5 : decode cX1_meet 5 = .ok (.iload_n 2, 1) := by decide +kernel
theorem dX1_meet_6 : decode cX1_meet 6 = .ok (.invokevirtual 32, 3) := by decide +kernel
theorem dX1_meet_9 : decode cX1_meet 9 = .ok (.istore_n 3, 1) := by decide +kernel
theorem dX1_meet_10 : decode cX1_meet 10 = .ok (.iload_n 3, 1) := by decide +kernel
theorem dX1_meet_11 : decode cX1_meet 11 = .ok (.ifCond .eq 16, 3) := by decide +kernel
theorem dX1_meet_14 : decode cX1_meet 14 = .ok (.aload_n 0, 1) := by decide +kernel
theorem dX1_meet_15 : decode cX1_meet 15 = .ok (.dup, 1) := by decide +kernel
theorem dX1_meet_16 : decode cX1_meet 16 = .ok (.getfield 13, 3) := by decide +kernel
theorem dX1_meet_19 : decode cX1_meet 19 = .ok (.iconst 1, 1) := by decide +kernel
theorem dX1_meet_20 : decode cX1_meet 20 = .ok (.iadd, 1) := by decide +kernel
theorem dX1_meet_21 : decode cX1_meet 21 = .ok (.putfield 13, 3) := by decide +kernel
theorem dX1_meet_24 : decode cX1_meet 24 = .ok (.goto 13, 3) := by decide +kernel
theorem dX1_meet_27 : decode cX1_meet 27 = .ok (.aload_n 0, 1) := by decide +kernel
theorem dX1_meet_28 : decode cX1_meet 28 = .ok (.dup, 1) := by decide +kernel
theorem dX1_meet_29 : decode cX1_meet 29 = .ok (.getfield 7, 3) := by decide +kernel
theorem dX1_meet_32 : decode cX1_meet 32 = .ok (.iconst 1, 1) := by decide +kernel
theorem dX1_meet_33 : decode cX1_meet 33 = .ok (.iadd, 1) := by decide +kernel
theorem dX1_meet_34 : decode cX1_meet 34 = .ok (.putfield 7, 3) := by decide +kernel
theorem dX1_meet_37 : decode cX1_meet 37 = .ok (.iload_n 3, 1) := by decide +kernel
theorem dX1_meet_38 : decode cX1_meet 38 = .ok (.ireturn, 1) := by decide +kernel
theorem dX2_init_0 : decode cX2_init 0 = .ok (.aload_n 0, 1) := by decide +kernel
theorem dX2_init_1 : decode cX2_init 1 = .ok (.invokespecial 3, 3) := by decide +kernel
theorem dX2_init_4 : decode cX2_init 4 = .ok (.aload_n 0, 1) := by decide +kernel
theorem dX2_init_5 : decode cX2_init 5 = .ok (.bipush 20, 2) := by decide +kernel
theorem dX2_init_7 : decode cX2_init 7 = .ok (.newarray .int, 2) := by decide +kernel
theorem dX2_init_9 : decode cX2_init 9 = .ok (.putfield 9, 3) := by decide +kernel
theorem dX2_init_12 : decode cX2_init 12 = .ok (.aload_n 0, 1) := by decide +kernel
theorem dX2_init_13 : decode cX2_init 13 = .ok (.bipush 20, 2) := by decide +kernel
theorem dX2_init_15 : decode cX2_init 15 = .ok (.newarray .int, 2) := by decide +kernel
theorem dX2_init_17 : decode cX2_init 17 = .ok (.putfield 15, 3) := by decide +kernel
theorem dX2_init_20 : decode cX2_init 20 = .ok (.aload_n 0, 1) := by decide +kernel
theorem dX2_init_21 : decode cX2_init 21 = .ok (.iconst 0, 1) := by decide +kernel
theorem dX2_init_22 : decode cX2_init 22 = .ok (.putfield 18, 3) := by decide +kernel
theorem dX2_init_25 : decode cX2_init 25 = .ok (.aload_n 0, 1) := by decide +kernel
theorem dX2_init_26 : decode cX2_init 26 = .ok (.iconst 0, 1) := by decide +kernel
theorem dX2_init_27 : decode cX2_init 27 = .ok (.putfield 22, 3) := by decide +kernel
theorem dX2_init_30 : decode cX2_init 30 = .ok (.aload_n 0, 1) := by decide +kernel
theorem dX2_init_31 : decode cX2_init 31 = .ok (.iconst (-1), 1) := by decide +kernel
theorem dX2_init_32 : decode cX2_init 32 = .ok (.putfield 25, 3) := by decide +kernel
theorem dX2_init_35 : decode cX2_init 35 = .ok (.aload_n 0, 1) := by decide +kernel
theorem dX2_init_36 : decode cX2_init 36 = .ok (.iload_n 1, 1) := by decide +kernel
theorem dX2_init_37 : decode cX2_init 37 = .ok (.putfield 28, 3) := by decide +kernel
theorem dX2_init_40 : decode cX2_init 40 = .ok (.aload_n 0, 1) := by decide +kernel
theorem dX2_init_41 : decode cX2_init 41 = .ok (.iload_n 2, 1) := by decide +kernel
theorem dX2_init_42 : decode cX2_init 42 = .ok (.putfield 32, 3) := by decide +kernel
theorem dX2_init_45 : decode cX2_init 45 = .ok (.return_, 1) := by decide +kernel
theorem dX2_renew_0 : decode cX2_renew 0 = .ok (.aload_n 0, 1) := by decide +kernel
theorem dX2_renew_1 : decode cX2_renew 1 = .ok (.iload_n 1, 1) := by decide +kernel
theorem dX2_renew_2 : decode cX2_renew 2 = .ok (.putfield 28, 3) := by decide +kernel
theorem dX2_renew_5 : decode cX2_renew 5 = .ok (.aload_n 0, 1) := by decide +kernel
theorem dX2_renew_6 : decode cX2_renew 6 = .ok (.iload_n 2, 1) := by decide +kernel
theorem dX2_renew_7 : decode cX2_renew 7 = .ok (.putfield 32, 3) := by decide +kernel
theorem dX2_renew_10 : decode cX2_renew 10 = .ok (.aload_n 0, 1) := by decide +kernel
theorem dX2_renew_11 : decode cX2_renew 11 = .ok (.iconst 0, 1) := by decide +kernel
theorem dX2_renew_12 : decode cX2_renew 12 = .ok (.putfield 22, 3) := by decide +kernel
theorem dX2_renew_15 : decode cX2_renew 15 = .ok (.aload_n 0, 1) := by decide +kernel
theorem dX2_renew_16 : decode cX2_renew 16 = .ok (.iconst (-1), 1) := by decide +kernel
theorem dX2_renew_17 : decode cX2_renew 17 = .ok (.putfield 25, 3) := by decide +kernel
theorem dX2_renew_20 : decode cX2_renew 20 = .ok (.aload_n 0, 1) := by decide +kernel
theorem dX2_renew_21 : decode cX2_renew 21 = .ok (.invokevirtual 35, 3) := by decide +kernel
theorem dX2_renew_24 : decode cX2_renew 24 = .ok (.ireturn, 1) := by decide +kernel
theorem dX2_become_0 : decode cX2_become 0 = .ok (.aload_n 1, 1) := by decide +kernel
theorem dX2_become_1 : decode cX2_become 1 = .ok (.getfield 18, 3) := by decide +kernel
theorem dX2_become_4 : decode cX2_become 4 = .ok (.istore_n 2, 1) := by decide +kernel
theorem dX2_become_5 : decode cX2_become 5 = .ok (.aload_n 0, 1) := by decide +kernel
theorem dX2_become_6 : decode cX2_become 6 = .ok (.iconst 0, 1) := by decide +kernel
theorem dX2_become_7 : decode cX2_become 7 = .ok (.iconst (-1), 1) := by decide +kernel
theorem dX2_become_8 : decode cX2_become 8 = .ok (.invokevirtual 39, 3) := by decide +kernel
theorem dX2_become_11 : decode cX2_become 11 = .ok (.pop, 1) := by decide +kernel
theorem dX2_become_12 : decode cX2_become 12 = .ok (.iconst 0, 1) := by decide +kernel
theorem dX2_become_13 : decode cX2_become 13 = .ok (.istore_n 3, 1) := by decide +kernel
theorem dX2_become_14 : decode cX2_become 14 = .ok (.iload_n 3, 1) := by decide +kernel
theorem dX2_become_15 : decode cX2_become 15 = .ok (.iload_n 2, 1) := by decide +kernel
theorem dX2_become_16 : decode cX2_become 16 = .ok (.if_icmp .ge 33, 3) := by decide +kernel
theorem dX2_become_19 : decode cX2_become 19 = .ok (.aload_n 0, 1) := by decide +kernel
theorem dX2_become_20 : decode cX2_become 20 = .ok (.getfield 9, 3) := by decide +kernel
theorem dX2_become_23 : decode cX2_become 23 = .ok (.iload_n 3, 1) := by decide +kernel
theorem dX2_become_24 : decode cX2_become 24 = .ok (.aload_n 1, 1) := by decide +kernel
theorem dX2_become_25 : decode cX2_become 25 = .ok (.getfield 9, 3) := by decide +kernel
theorem dX2_become_28 : decode cX2_become 28 = .ok (.iload_n 3, 1) := by decide +kernel
theorem dX2_become_29 : decode cX2_become 29 = .ok (.iaload, 1) := by decide +kernel
theorem dX2_become_30 : decode cX2_become 30 = .ok (.iastore, 1) := by decide +kernel
theorem dX2_become_31 : decode cX2_become 31 = .ok (.aload_n 0, 1) := by decide +kernel
theorem dX2_become_32 : decode cX2_become 32 = .ok (.getfield 15, 3) := by decide +kernel
theorem dX2_become_35 : decode cX2_become 35 = .ok (.iload_n 3, 1) := by decide +kernel
theorem dX2_become_36 : decode cX2_become 36 = .ok (.aload_n 1, 1) := by decide +kernel
theorem dX2_become_37 : decode cX2_become 37 = .ok (.getfield 15, 3) := by decide +kernel
theorem dX2_become_40 : decode cX2_become 40 = .ok (.iload_n 3, 1) := by decide +kernel
theorem dX2_become_41 : decode cX2_become 41 = .ok (.iaload, 1) := by decide +kernel
theorem dX2_become_42 : decode cX2_become 42 = .ok (.iastore, 1) := by decide +kernel
theorem dX2_become_43 : decode cX2_become 43 = .ok (.iinc 3 1, 3) := by decide +kernel
theorem dX2_become_46 : decode cX2_become 46 = .ok (.goto (-32), 3) := by decide +kernel
theorem dX2_become_49 : decode cX2_become 49 = .ok (.aload_n 0, 1) := by decide +kernel
theorem dX2_become_50 : decode cX2_become 50 = .ok (.iload_n 2, 1) := by decide +kernel
theorem dX2_become_51 : decode cX2_become 51 = .ok (.putfield 18, 3) := by decide +kernel
theorem dX2_become_54 : decode cX2_become 54 = .ok (.return_, 1) := by decide +kernel
theorem dX2_bring_0 : decode cX2_bring 0 = .ok (.aload_n 0, 1) := by decide +kernel
theorem dX2_bring_1 : decode cX2_bring 1 = .ok (.iload_n 1, 1) := by decide +kernel
theorem dX2_bring_2 : decode cX2_bring 2 = .ok (.invokevirtual 43, 3) := by decide +kernel
theorem dX2_bring_5 : decode cX2_bring 5 = .ok (.istore_n 3, 1) := by decide +kernel
theorem dX2_bring_6 : decode cX2_bring 6 = .ok (.iload_n 3, 1) := by decide +kernel
theorem dX2_bring_7 : decode cX2_bring 7 = .ok (.iconst (-1), 1) := by decide +kernel
theorem dX2_bring_8 : decode cX2_bring 8 = .ok (.if_icmp .ne 11, 3) := by decide +kernel
theorem dX2_bring_11 : decode cX2_bring 11 = .ok (.aload_n 0, 1) := by decide +kernel
theorem dX2_bring_12 : decode cX2_bring 12 = .ok (.iload_n 1, 1) := by decide +kernel
theorem dX2_bring_13 : decode cX2_bring 13 = .ok (.iload_n 2, 1) := by decide +kernel
theorem dX2_bring_14 : decode cX2_bring 14 = .ok (.invokevirtual 47, 3) := by decide +kernel
theorem dX2_bring_17 : decode cX2_bring 17 = .ok (.iconst (-1), 1) := by decide +kernel
theorem dX2_bring_18 : decode cX2_bring 18 = .ok (.ireturn, 1) := by decide +kernel
theorem dX2_bring_19 : decode cX2_bring 19 = .ok (.aload_n 0, 1) := by decide +kernel
theorem dX2_bring_20 : decode cX2_bring 20 = .ok (.iload_n 3, 1) := by decide +kernel
theorem dX2_bring_21 : decode cX2_bring 21 = .ok (.iload_n 2, 1) := by decide +kernel
theorem dX2_bring_22 : decode cX2_bring 22 = .ok (.invokevirtual 51, 3) := by decide +kernel
theorem dX2_bring_25 : decode cX2_bring 25 = .ok (.istore 4, 2) := by decide +kernel
theorem dX2_bring_27 : decode cX2_bring 27 = .ok (.aload_n 0, 1) := by decide +kernel
theorem dX2_bring_28 : decode cX2_bring 28 = .ok (.iload_n 3, 1) := by decide +kernel
theorem dX2_bring_29 : decode cX2_bring 29 = .ok (.invokevirtual 55, 3) := by decide +kernel
theorem dX2_bring_32 : decode cX2_bring 32 = .ok (.iload 4, 2) := by decide +kernel
theorem dX2_bring_34 : decode cX2_bring 34 = .ok (.ireturn, 1) := by decide +kernel
theorem dX2_bringIfAbsent_0 : decode cX2_bringIfAbsent 0 = .ok (.aload_n 0, 1) := by decide +kernel
theorem dX2_bringIfAbsent_1 : decode cX2_bringIfAbsent 1 = .ok (.iload_n 1, 1) := by decide +kernel
theorem dX2_bringIfAbsent_2 : decode cX2_bringIfAbsent 2 = .ok (.invokevirtual 43, 3) := by decide +kernel
theorem dX2_bringIfAbsent_5 : decode cX2_bringIfAbsent 5 = .ok (.iconst (-1), 1) := by decide +kernel
theorem dX2_bringIfAbsent_6 : decode cX2_bringIfAbsent 6 = .ok (.if_icmp .ne 11, 3) := by decide +kernel
theorem dX2_bringIfAbsent_9 : decode cX2_bringIfAbsent 9 = .ok (.aload_n 0, 1) := by decide +kernel
theorem dX2_bringIfAbsent_10 : decode cX2_bringIfAbsent 10 = .ok (.iload_n 1, 1) := by decide +kernel
theorem dX2_bringIfAbsent_11 : decode cX2_bringIfAbsent 11 = .ok (.iload_n 2, 1) := by decide +kernel
theorem dX2_bringIfAbsent_12 : decode cX2_bringIfAbsent 12 = .ok (.invokevirtual 47, 3) := by decide +kernel
theorem dX2_bringIfAbsent_15 : decode cX2_bringIfAbsent 15 = .ok (.iconst (-1), 1) := by decide +kernel
theorem dX2_bringIfAbsent_16 : decode cX2_bringIfAbsent 16 = .ok (.ireturn, 1) := by decide +kernel
theorem dX2_bringIfAbsent_17 : decode cX2_bringIfAbsent 17 = .ok (.aload_n 0, 1) := by decide +kernel
theorem dX2_bringIfAbsent_18 : decode cX2_bringIfAbsent 18 = .ok (.iload_n 1, 1) := by decide +kernel
theorem dX2_bringIfAbsent_19 : decode cX2_bringIfAbsent 19 = .ok (.iconst (-1), 1) := by decide +kernel
theorem dX2_bringIfAbsent_20 : decode cX2_bringIfAbsent 20 = .ok (.invokevirtual 59, 3) := by decide +kernel
theorem dX2_bringIfAbsent_23 : decode cX2_bringIfAbsent 23 = .ok (.ireturn, 1) := by decide +kernel
theorem dX2_fetch_0 : decode cX2_fetch 0 = .ok (.aload_n 0, 1) := by decide +kernel
theorem dX2_fetch_1 : decode cX2_fetch 1 = .ok (.iload_n 1, 1) := by decide +kernel
theorem dX2_fetch_2 : decode cX2_fetch 2 = .ok (.invokevirtual 43, 3) := by decide +kernel
theorem dX2_fetch_5 : decode cX2_fetch 5 = .ok (.istore_n 3, 1) := by decide +kernel
theorem dX2_fetch_6 : decode cX2_fetch 6 = .ok (.iload_n 3, 1) := by decide +kernel
theorem dX2_fetch_7 : decode cX2_fetch 7 = .ok (.iconst (-1), 1) := by decide +kernel
theorem dX2_fetch_8 : decode cX2_fetch 8 = .ok (.if_icmp .ne 5, 3) := by decide +kernel
theorem dX2_fetch_11 : decode cX2_fetch 11 = .ok (.iload_n 2, 1) := by decide +kernel
theorem dX2_fetch_12 : decode cX2_fetch 12 = .ok (.ireturn, 1) := by decide +kernel
theorem dX2_fetch_13 : decode cX2_fetch 13 = .ok (.aload_n 0, 1) := by decide +kernel
theorem dX2_fetch_14 : decode cX2_fetch 14 = .ok (.getfield 15, 3) := by decide +kernel
theorem dX2_fetch_17 : decode cX2_fetch 17 = .ok (.iload_n 3, 1) := by decide +kernel
theorem dX2_fetch_18 : decode cX2_fetch 18 = .ok (.iaload, 1) := by decide +kernel
theorem dX2_fetch_19 : decode cX2_fetch 19 = .ok (.istore 4, 2) := by decide +kernel
theorem dX2_fetch_21 : decode cX2_fetch 21 = .ok (.aload_n 0, 1) := by decide +kernel
theorem dX2_fetch_22 : decode cX2_fetch 22 = .ok (.iload_n 3, 1) := by decide +kernel
theorem dX2_fetch_23 : decode cX2_fetch 23 = .ok (.invokevirtual 55, 3) := by decide +kernel
theorem dX2_fetch_26 : decode cX2_fetch 26 = .ok (.iload 4, 2) := by decide +kernel
theorem dX2_fetch_28 : decode cX2_fetch 28 = .ok (.ireturn, 1) := by decide +kernel
theorem dX2_fetchOrTakeIn_0 : decode cX2_fetchOrTakeIn 0 = .ok (.aload_n 0, 1) := by decide +kernel
theorem dX2_fetchOrTakeIn_1 : decode cX2_fetchOrTakeIn 1 = .ok (.iload_n 1, 1) := by decide +kernel
theorem dX2_fetchOrTakeIn_2 : decode cX2_fetchOrTakeIn 2 = .ok (.invokevirtual 43, 3) := by decide +kernel
theorem dX2_fetchOrTakeIn_5 : decode cX2_fetchOrTakeIn 5 = .ok (.istore_n 3, 1) := by decide +kernel
theorem dX2_fetchOrTakeIn_6 : decode cX2_fetchOrTakeIn 6 = .ok (.iload_n 3, 1) := by decide +kernel
theorem dX2_fetchOrTakeIn_7 : decode cX2_fetchOrTakeIn 7 = .ok (.iconst (-1), 1) := by decide +kernel
theorem dX2_fetchOrTakeIn_8 : decode cX2_fetchOrTakeIn 8 = .ok (.if_icmp .ne 11, 3) := by decide +kernel
theorem dX2_fetchOrTakeIn_11 : decode cX2_fetchOrTakeIn 11 = .ok (.aload_n 0, 1) := by decide +kernel
theorem dX2_fetchOrTakeIn_12 : decode cX2_fetchOrTakeIn 12 = .ok (.iload_n 1, 1) := by decide +kernel
theorem dX2_fetchOrTakeIn_13 : decode cX2_fetchOrTakeIn 13 = .ok (.iload_n 2, 1) := by decide +kernel
theorem dX2_fetchOrTakeIn_14 : decode cX2_fetchOrTakeIn 14 = .ok (.invokevirtual 47, 3) := by decide +kernel
theorem dX2_fetchOrTakeIn_17 : decode cX2_fetchOrTakeIn 17 = .ok (.iconst 0, 1) := by decide +kernel
theorem dX2_fetchOrTakeIn_18 : decode cX2_fetchOrTakeIn 18 = .ok (.ireturn, 1) := by decide +kernel
theorem dX2_fetchOrTakeIn_19 : decode cX2_fetchOrTakeIn 19 = .ok (.aload_n 0, 1) := by decide +kernel
theorem dX2_fetchOrTakeIn_20 : decode cX2_fetchOrTakeIn 20 = .ok (.iload_n 3, 1) := by decide +kernel
theorem dX2_fetchOrTakeIn_21 : decode cX2_fetchOrTakeIn 21 = .ok (.invokevirtual 55, 3) := by decide +kernel
theorem dX2_fetchOrTakeIn_24 : decode cX2_fetchOrTakeIn 24 = .ok (.iconst 1, 1) := by decide +kernel
theorem dX2_fetchOrTakeIn_25 : decode cX2_fetchOrTakeIn 25 = .ok (.ireturn, 1) := by decide +kernel
theorem dX2_dropKey_0 : decode cX2_dropKey 0 = .ok (.aload_n 0, 1) := by decide +kernel
theorem dX2_dropKey_1 : decode cX2_dropKey 1 = .ok (.iload_n 1, 1) := by decide +kernel
theorem dX2_dropKey_2 : decode cX2_dropKey 2 = .ok (.invokevirtual 43, 3) := by decide +kernel
theorem dX2_dropKey_5 : decode cX2_dropKey 5 = .ok (.istore_n 2, 1) := by decide +kernel
theorem dX2_dropKey_6 : decode cX2_dropKey 6 = .ok (.iload_n 2, 1) := by decide +kernel
theorem dX2_dropKey_7 : decode cX2_dropKey 7 = .ok (.iconst (-1), 1) := by decide +kernel
theorem dX2_dropKey_8 : decode cX2_dropKey 8 = .ok (.if_icmp .ne 5, 3) := by decide +kernel
theorem dX2_dropKey_11 : decode cX2_dropKey 11 = .ok (.iconst (-1), 1) := by decide +kernel
theorem dX2_dropKey_12 : decode cX2_dropKey 12 = .ok (.ireturn, 1) := by decide +kernel
theorem dX2_dropKey_13 : decode cX2_dropKey 13 = .ok (.aload_n 0, 1) := by decide +kernel
theorem dX2_dropKey_14 : decode cX2_dropKey 14 = .ok (.getfield 15, 3) := by decide +kernel
theorem dX2_dropKey_17 : decode cX2_dropKey 17 = .ok (.iload_n 2, 1) := by decide +kernel
theorem dX2_dropKey_18 : decode cX2_dropKey 18 = .ok (.iaload, 1) := by decide +kernel
theorem dX2_dropKey_19 : decode cX2_dropKey 19 = .ok (.istore_n 3, 1) := by decide +kernel
theorem dX2_dropKey_20 : decode cX2_dropKey 20 = .ok (.aload_n 0, 1) := by decide +kernel
theorem dX2_dropKey_21 : decode cX2_dropKey 21 = .ok (.iload_n 2, 1) := by decide +kernel
theorem dX2_dropKey_22 : decode cX2_dropKey 22 = .ok (.invokevirtual 62, 3) := by decide +kernel
theorem dX2_dropKey_25 : decode cX2_dropKey 25 = .ok (.iload_n 3, 1) := by decide +kernel
theorem dX2_dropKey_26 : decode cX2_dropKey 26 = .ok (.ireturn, 1) := by decide +kernel
theorem dX2_dropAll_0 : decode cX2_dropAll 0 = .ok (.aload_n 0, 1) := by decide +kernel
theorem dX2_dropAll_1 : decode cX2_dropAll 1 = .ok (.getfield 18, 3) := by decide +kernel
theorem dX2_dropAll_4 : decode cX2_dropAll 4 = .ok (.istore_n 1, 1) := by decide +kernel
theorem dX2_dropAll_5 : decode cX2_dropAll 5 = .ok (.aload_n 0, 1) := by decide +kernel
theorem dX2_dropAll_6 : decode cX2_dropAll 6 = .ok (.iconst 0, 1) := by decide +kernel
theorem dX2_dropAll_7 : decode cX2_dropAll 7 = .ok (.putfield 18, 3) := by decide +kernel
theorem dX2_dropAll_10 : decode cX2_dropAll 10 = .ok (.iload_n 1, 1) := by decide +kernel
theorem dX2_dropAll_11 : decode cX2_dropAll 11 = .ok (.ireturn, 1) := by decide +kernel
theorem dX2_dropAt_0 : decode cX2_dropAt 0 = .ok (.aload_n 0, 1) := by decide +kernel
theorem dX2_dropAt_1 : decode cX2_dropAt 1 = .ok (.iload_n 1, 1) := by decide +kernel
theorem dX2_dropAt_2 : decode cX2_dropAt 2 = .ok (.invokevirtual 65, 3) := by decide +kernel
theorem dX2_dropAt_5 : decode cX2_dropAt 5 = .ok (.ifCond .ne 4, 3) := by decide +kernel
theorem dX2_dropAt_8 : decode cX2_dropAt 8 = .ok (.return_, 1) := by decide +kernel
theorem dX2_dropAt_9 : decode cX2_dropAt 9 = .ok (.iload_n 1, 1) := by decide +kernel
theorem dX2_dropAt_10 : decode cX2_dropAt 10 = .ok (.istore_n 2, 1) := by decide +kernel
theorem dX2_dropAt_11 : decode cX2_dropAt 11 = .ok (.iload_n 2, 1) := by decide +kernel
theorem dX2_dropAt_12 : decode cX2_dropAt 12 = .ok (.iconst 1, 1) := by decide +kernel
theorem dX2_dropAt_13 : decode cX2_dropAt 13 = .ok (.iadd, 1) := by decide +kernel
theorem dX2_dropAt_14 : decode cX2_dropAt 14 = .ok (.aload_n 0, 1) := by decide +kernel
theorem dX2_dropAt_15 : decode cX2_dropAt 15 = .ok (.getfield 18, 3) := by decide +kernel
theorem dX2_dropAt_18 : decode cX2_dropAt 18 = .ok (.if_icmp .ge 37, 3) := by decide +kernel
theorem dX2_dropAt_21 : decode cX2_dropAt 21 = .ok (.aload_n 0, 1) := by decide +kernel
theorem dX2_dropAt_22 : decode cX2_dropAt 22 = .ok (.getfield 9, 3) := by decide +kernel
theorem dX2_dropAt_25 : decode cX2_dropAt 25 = .ok (.iload_n 2, 1) := by decide +kernel
theorem dX2_dropAt_26 : decode cX2_dropAt 26 = .ok (.aload_n 0, 1) := by decide +kernel
theorem dX2_dropAt_27 : decode cX2_dropAt 27 = .ok (.getfield 9, 3) := by decide +kernel
theorem dX2_dropAt_30 : decode cX2_dropAt 30 = .ok (.iload_n 2, 1) := by decide +kernel
theorem dX2_dropAt_31 : decode cX2_dropAt 31 = .ok (.iconst 1, 1) := by decide +kernel
theorem dX2_dropAt_32 : decode cX2_dropAt 32 = .ok (.iadd, 1) := by decide +kernel
theorem dX2_dropAt_33 : decode cX2_dropAt 33 = .ok (.iaload, 1) := by decide +kernel
theorem dX2_dropAt_34 : decode cX2_dropAt 34 = .ok (.iastore, 1) := by decide +kernel
theorem dX2_dropAt_35 : decode cX2_dropAt 35 = .ok (.aload_n 0, 1) := by decide +kernel
theorem dX2_dropAt_36 : decode cX2_dropAt 36 = .ok (.getfield 15, 3) := by decide +kernel
theorem dX2_dropAt_39 : decode cX2_dropAt 39 = .ok (.iload_n 2, 1) := by decide +kernel
theorem dX2_dropAt_40 : decode cX2_dropAt 40 = .ok (.aload_n 0, 1) := by decide +kernel
theorem dX2_dropAt_41 : decode cX2_dropAt 41 = .ok (.getfield 15, 3) := by decide +kernel
theorem dX2_dropAt_44 : decode cX2_dropAt 44 = .ok (.iload_n 2, 1) := by decide +kernel
theorem dX2_dropAt_45 : decode cX2_dropAt 45 = .ok (.iconst 1, 1) := by decide +kernel
theorem dX2_dropAt_46 : decode cX2_dropAt 46 = .ok (.iadd, 1) := by decide +kernel
theorem dX2_dropAt_47 : decode cX2_dropAt 47 = .ok (.iaload, 1) := by decide +kernel
theorem dX2_dropAt_48 : decode cX2_dropAt 48 = .ok (.iastore, 1) := by decide +kernel
theorem dX2_dropAt_49 : decode cX2_dropAt 49 = .ok (.iinc 2 1, 3) := by decide +kernel
theorem dX2_dropAt_52 : decode cX2_dropAt 52 = .ok (.goto (-41), 3) := by decide +kernel
theorem dX2_dropAt_55 : decode cX2_dropAt 55 = .ok (.aload_n 0, 1) := by decide +kernel
theorem dX2_dropAt_56 : decode cX2_dropAt 56 = .ok (.dup, 1) := by decide +kernel
theorem dX2_dropAt_57 : decode cX2_dropAt 57 = .ok (.getfield 18, 3) := by decide +kernel
theorem dX2_dropAt_60 : decode cX2_dropAt 60 = .ok (.iconst 1, 1) := by decide +kernel
theorem dX2_dropAt_61 : decode cX2_dropAt 61 = .ok (.isub, 1) := by decide +kernel
theorem dX2_dropAt_62 : decode cX2_dropAt 62 = .ok (.putfield 18, 3) := by decide +kernel
theorem dX2_dropAt_65 : decode cX2_dropAt 65 = .ok (.return_, 1) := by decide +kernel
theorem dX2_changeValue_0 : decode cX2_changeValue 0 = .ok (.aload_n 0, 1) := by decide +kernel
theorem dX2_changeValue_1 : decode cX2_changeValue 1 = .ok (.iload_n 1, 1) := by decide +kernel
theorem dX2_changeValue_2 : decode cX2_changeValue 2 = .ok (.invokevirtual 65, 3) := by decide +kernel
theorem dX2_changeValue_5 : decode cX2_changeValue 5 = .ok (.ifCond .ne 5, 3) := by decide +kernel
theorem dX2_changeValue_8 : decode cX2_changeValue 8 = .ok (.iconst (-1), 1) := by decide +kernel
theorem dX2_changeValue_9 : decode cX2_changeValue 9 = .ok (.ireturn, 1) := by decide +kernel
theorem dX2_changeValue_10 : decode cX2_changeValue 10 = .ok (.aload_n 0, 1) := by decide +kernel
theorem dX2_changeValue_11 : decode cX2_changeValue 11 = .ok (.getfield 15, 3) := by decide +kernel
theorem dX2_changeValue_14 : decode cX2_changeValue 14 = .ok (.iload_n 1, 1) := by decide +kernel
theorem dX2_changeValue_15 : decode cX2_changeValue 15 = .ok (.iaload, 1) := by decide +kernel
theorem dX2_changeValue_16 : decode cX2_changeValue 16 = .ok (.istore_n 3, 1) := by decide +kernel
theorem dX2_changeValue_17 : decode cX2_changeValue 17 = .ok (.aload_n 0, 1) := by decide +kernel
theorem dX2_changeValue_18 : decode cX2_changeValue 18 = .ok (.getfield 15, 3) := by decide +kernel
theorem dX2_changeValue_21 : decode cX2_changeValue 21 = .ok (.iload_n 1, 1) := by decide +kernel
theorem dX2_changeValue_22 : decode cX2_changeValue 22 = .ok (.iload_n 2, 1) := by decide +kernel
theorem dX2_changeValue_23 : decode cX2_changeValue 23 = .ok (.iastore, 1) := by decide +kernel
theorem dX2_changeValue_24 : decode cX2_changeValue 24 = .ok (.iload_n 3, 1) := by decide +kernel
theorem dX2_changeValue_25 : decode cX2_changeValue 25 = .ok (.ireturn, 1) := by decide +kernel
theorem dX2_find_0 : decode cX2_find 0 = .ok (.iconst 0, 1) := by decide +kernel
theorem dX2_find_1 : decode cX2_find 1 = .ok (.istore_n 2, 1) := by decide +kernel
theorem dX2_find_2 : decode cX2_find 2 = .ok (.iload_n 2, 1) := by decide +kernel
theorem dX2_find_3 : decode cX2_find 3 = .ok (.aload_n 0, 1) := by decide +kernel
theorem dX2_find_4 : decode cX2_find 4 = .ok (.getfield 18, 3) := by decide +kernel
theorem dX2_find_7 : decode cX2_find 7 = .ok (.if_icmp .ge 21, 3) := by decide +kernel
theorem dX2_find_10 : decode cX2_find 10 = .ok (.aload_n 0, 1) := by decide +kernel
theorem dX2_find_11 : decode cX2_find 11 = .ok (.getfield 9, 3) := by decide +kernel
theorem dX2_find_14 : decode cX2_find 14 = .ok (.iload_n 2, 1) := by decide +kernel
theorem dX2_find_15 : decode cX2_find 15 = .ok (.iaload, 1) := by decide +kernel
theorem dX2_find_16 : decode cX2_find 16 = .ok (.iload_n 1, 1) := by decide +kernel
theorem dX2_find_17 : decode cX2_find 17 = .ok (.if_icmp .ne 5, 3) := by decide +kernel
theorem dX2_find_20 : decode cX2_find 20 = .ok (.iload_n 2, 1) := by decide +kernel
theorem dX2_find_21 : decode cX2_find 21 = .ok (.ireturn, 1) := by decide +kernel
theorem dX2_find_22 : decode cX2_find 22 = .ok (.iinc 2 1, 3) := by decide +kernel
theorem dX2_find_25 : decode cX2_find 25 = .ok (.goto (-23), 3) := by decide +kernel
theorem dX2_find_28 : decode cX2_find 28 = .ok (.iconst (-1), 1) := by decide +kernel
theorem dX2_find_29 : decode cX2_find 29 = .ok (.ireturn, 1) := by decide +kernel
theorem dX2_isPlace_0 : decode cX2_isPlace 0 = .ok (.iload_n 1, 1) := by decide +kernel
theorem dX2_isPlace_1 : decode cX2_isPlace 1 = .ok (.ifCond .lt 15, 3) := by decide +kernel
theorem dX2_isPlace_4 : decode cX2_isPlace 4 = .ok (.iload_n 1, 1) := by decide +kernel
theorem dX2_isPlace_5 : decode cX2_isPlace 5 = .ok (.aload_n 0, 1) := by decide +kernel
theorem dX2_isPlace_6 : decode cX2_isPlace 6 = .ok (.getfield 18, 3) := by decide +kernel
theorem dX2_isPlace_9 : decode cX2_isPlace 9 = .ok (.if_icmp .ge 7, 3) := by decide +kernel
theorem dX2_isPlace_12 : decode cX2_isPlace 12 = .ok (.iconst 1, 1) := by decide +kernel
theorem dX2_isPlace_13 : decode cX2_isPlace 13 = .ok (.goto 4, 3) := by decide +kernel
theorem dX2_isPlace_16 : decode cX2_isPlace 16 = .ok (.iconst 0, 1) := by decide +kernel
theorem dX2_isPlace_17 : decode cX2_isPlace 17 = .ok (.ireturn, 1) := by decide +kernel
theorem dX2_told_0 : decode cX2_told 0 = .ok (.aload_n 0, 1) := by decide +kernel
theorem dX2_told_1 : decode cX2_told 1 = .ok (.iload_n 1, 1) := by decide +kernel
theorem dX2_told_2 : decode cX2_told 2 = .ok (.invokevirtual 65, 3) := by decide +kernel
theorem dX2_told_5 : decode cX2_told 5 = .ok (.ifCond .ne 5, 3) := by decide +kernel
theorem dX2_told_8 : decode cX2_told 8 = .ok (.iconst (-1), 1) := by decide +kernel
theorem dX2_told_9 : decode cX2_told 9 = .ok (.ireturn, 1) := by decide +kernel
theorem dX2_told_10 : decode cX2_told 10 = .ok (.iload_n 2, 1) := by decide +kernel
theorem dX2_told_11 : decode cX2_told 11 = .ok (.ifCond .ne 10, 3) := by decide +kernel
theorem dX2_told_14 : decode cX2_told 14 = .ok (.aload_n 0, 1) := by decide +kernel
theorem dX2_told_15 : decode cX2_told 15 = .ok (.getfield 9, 3) := by decide +kernel
theorem dX2_told_18 : decode cX2_told 18 = .ok (.iload_n 1, 1) := by decide +kernel
theorem dX2_told_19 : decode cX2_told 19 = .ok (.iaload, 1) := by decide +kernel
theorem dX2_told_20 : decode cX2_told 20 = .ok (.ireturn, 1) := by decide +kernel
theorem dX2_told_21 : decode cX2_told 21 = .ok (.iload_n 2, 1) := by decide +kernel
theorem dX2_told_22 : decode cX2_told 22 = .ok (.iconst 1, 1) := by decide +kernel
theorem dX2_told_23 : decode cX2_told 23 = .ok (.if_icmp .ne 10, 3) := by decide +kernel
theorem dX2_told_26 : decode cX2_told 26 = .ok (.aload_n 0, 1) := by decide +kernel
theorem dX2_told_27 : decode cX2_told 27 = .ok (.getfield 15, 3) := by decide +kernel
theorem dX2_told_30 : decode cX2_told 30 = .ok (.iload_n 1, 1) := by decide +kernel
theorem dX2_told_31 : decode cX2_told 31 = .ok (.iaload, 1) := by decide +kernel
theorem dX2_told_32 : decode cX2_told 32 = .ok (.ireturn, 1) := by decide +kernel
theorem dX2_told_33 : decode cX2_told 33 = .ok (.aload_n 0, 1) := by decide +kernel
theorem dX2_told_34 : decode cX2_told 34 = .ok (.getfield 9, 3) := by decide +kernel
theorem dX2_told_37 : decode cX2_told 37 = .ok (.iload_n 1, 1) := by decide +kernel
theorem dX2_told_38 : decode cX2_told 38 = .ok (.iaload, 1) := by decide +kernel
theorem dX2_told_39 : decode cX2_told 39 = .ok (.bipush 100, 2) := by decide +kernel
theorem dX2_told_41 : decode cX2_told 41 = .ok (.imul, 1) := by decide +kernel
theorem dX2_told_42 : decode cX2_told 42 = .ok (.aload_n 0, 1) := by decide +kernel
theorem dX2_told_43 : decode cX2_told 43 = .ok (.getfield 15, 3) := by decide +kernel
theorem dX2_told_46 : decode cX2_told 46 = .ok (.iload_n 1, 1) := by decide +kernel
theorem dX2_told_47 : decode cX2_told 47 = .ok (.iaload, 1) := by decide +kernel
theorem dX2_told_48 : decode cX2_told 48 = .ok (.iadd, 1) := by decide +kernel
theorem dX2_told_49 : decode cX2_told 49 = .ok (.ireturn, 1) := by decide +kernel
theorem dX2_sumOfValues_0 : decode cX2_sumOfValues 0 = .ok (.iconst 0, 1) := by decide +kernel
theorem dX2_sumOfValues_1 : decode cX2_sumOfValues 1 = .ok (.istore_n 1, 1) := by decide +kernel
theorem dX2_sumOfValues_2 : decode cX2_sumOfValues 2 = .ok (.iconst 0, 1) := by decide +kernel
theorem dX2_sumOfValues_3 : decode cX2_sumOfValues 3 = .ok (.istore_n 2, 1) := by decide +kernel
theorem dX2_sumOfValues_4 : decode cX2_sumOfValues 4 = .ok (.iload_n 2, 1) := by decide +kernel
theorem dX2_sumOfValues_5 : decode cX2_sumOfValues 5 = .ok (.aload_n 0, 1) := by decide +kernel
theorem dX2_sumOfValues_6 : decode cX2_sumOfValues 6 = .ok (.getfield 18, 3) := by decide +kernel
theorem dX2_sumOfValues_9 : decode cX2_sumOfValues 9 = .ok (.if_icmp .ge 18, 3) := by decide +kernel
theorem dX2_sumOfValues_12 : decode cX2_sumOfValues 12 = .ok (.iload_n 1, 1) := by decide +kernel
theorem dX2_sumOfValues_13 : decode cX2_sumOfValues 13 = .ok (.aload_n 0, 1) := by decide +kernel
theorem dX2_sumOfValues_14 : decode cX2_sumOfValues 14 = .ok (.getfield 15, 3) := by decide +kernel
theorem dX2_sumOfValues_17 : decode cX2_sumOfValues 17 = .ok (.iload_n 2, 1) := by decide +kernel
theorem dX2_sumOfValues_18 : decode cX2_sumOfValues 18 = .ok (.iaload, 1) := by decide +kernel
theorem dX2_sumOfValues_19 : decode cX2_sumOfValues 19 = .ok (.iadd, 1) := by decide +kernel
theorem dX2_sumOfValues_20 : decode cX2_sumOfValues 20 = .ok (.istore_n 1, 1) := by decide +kernel
theorem dX2_sumOfValues_21 : decode cX2_sumOfValues 21 = .ok (.iinc 2 1, 3) := by decide +kernel
theorem dX2_sumOfValues_24 : decode cX2_sumOfValues 24 = .ok (.goto (-20), 3) := by decide +kernel
theorem dX2_sumOfValues_27 : decode cX2_sumOfValues 27 = .ok (.iload_n 1, 1) := by decide +kernel
theorem dX2_sumOfValues_28 : decode cX2_sumOfValues 28 = .ok (.ireturn, 1) := by decide +kernel
theorem dX2_written_0 : decode cX2_written 0 = .ok (.new 69, 3) := by decide +kernel
theorem dX2_written_3 : decode cX2_written 3 = .ok (.dup, 1) := by decide +kernel
theorem dX2_written_4 : decode cX2_written 4 = .ok (.invokespecial 71, 3) := by decide +kernel
theorem dX2_written_7 : decode cX2_written 7 = .ok (.astore_n 2, 1) := by decide +kernel
theorem dX2_written_8 : decode cX2_written 8 = .ok (.iconst 0, 1) := by decide +kernel
theorem dX2_written_9 : decode cX2_written 9 = .ok (.istore_n 3, 1) := by decide +kernel
theorem dX2_written_10 : decode cX2_written 10 = .ok (.iload_n 3, 1) := by decide +kernel
theorem dX2_written_11 : decode cX2_written 11 = .ok (.aload_n 0, 1) := by decide +kernel
theorem dX2_written_12 : decode cX2_written 12 = .ok (.getfield 18, 3) := by decide +kernel
theorem dX2_written_15 : decode cX2_written 15 = .ok (.if_icmp .ge 63, 3) := by decide +kernel
theorem dX2_written_18 : decode cX2_written 18 = .ok (.iload_n 3, 1) := by decide +kernel
theorem dX2_written_19 : decode cX2_written 19 = .ok (.ifCond .le 10, 3) := by decide +kernel
theorem dX2_written_22 : decode cX2_written 22 = .ok (.aload_n 2, 1) := by decide +kernel
theorem dX2_written_23 : decode cX2_written 23 = .ok (.bipush 32, 2) := by decide +kernel
theorem dX2_written_25 : decode cX2_written 25 = .ok (.invokevirtual 72, 3) := by decide +kernel
theorem dX2_written_28 : decode cX2_written 28 = .ok (.pop, 1) := by decide +kernel
theorem dX2_written_29 : decode cX2_written 29 = .ok (.iload_n 1, 1) := by decide +kernel
theorem dX2_written_30 : decode cX2_written 30 = .ok (.iconst 1, 1) := by decide +kernel
theorem dX2_written_31 : decode cX2_written 31 = .ok (.if_icmp .eq 14, 3) := by decide +kernel
theorem dX2_written_34 : decode cX2_written 34 = .ok (.aload_n 2, 1) := by decide +kernel
theorem dX2_written_35 : decode cX2_written 35 = .ok (.aload_n 0, 1) := by decide +kernel
theorem dX2_written_36 : decode cX2_written 36 = .ok (.getfield 9, 3) := by decide +kernel
theorem dX2_written_39 : decode cX2_written 39 = .ok (.iload_n 3, 1) := by decide +kernel
theorem dX2_written_40 : decode cX2_written 40 = .ok (.iaload, 1) := by decide +kernel
theorem dX2_written_41 : decode cX2_written 41 = .ok (.invokevirtual 76, 3) := by decide +kernel
theorem dX2_written_44 : decode cX2_written 44 = .ok (.pop, 1) := by decide +kernel
theorem dX2_written_45 : decode cX2_written 45 = .ok (.iload_n 1, 1) := by decide +kernel
theorem dX2_written_46 : decode cX2_written 46 = .ok (.iconst 2, 1) := by decide +kernel
theorem dX2_written_47 : decode cX2_written 47 = .ok (.if_icmp .ne 10, 3) := by decide +kernel
theorem dX2_written_50 : decode cX2_written 50 = .ok (.aload_n 2, 1) := by decide +kernel
theorem dX2_written_51 : decode cX2_written 51 = .ok (.bipush 61, 2) := by decide +kernel
theorem dX2_written_53 : decode cX2_written 53 = .ok (.invokevirtual 72, 3) := by decide +kernel
theorem dX2_written_56 : decode cX2_written 56 = .ok (.pop, 1) := by decide +kernel
theorem dX2_written_57 : decode cX2_written 57 = .ok (.iload_n 1, 1) := by decide +kernel
theorem dX2_written_58 : decode cX2_written 58 = .ok (.ifCond .eq 14, 3) := by decide +kernel
theorem dX2_written_61 : decode cX2_written 61 = .ok (.aload_n 2, 1) := by decide +kernel
theorem dX2_written_62 : decode cX2_written 62 = .ok (.aload_n 0, 1) := by decide +kernel
theorem dX2_written_63 : decode cX2_written 63 = .ok (.getfield 15, 3) := by decide +kernel
theorem dX2_written_66 : decode cX2_written 66 = .ok (.iload_n 3, 1) := by decide +kernel
theorem dX2_written_67 : decode cX2_written 67 = .ok (.iaload, 1) := by decide +kernel
theorem dX2_written_68 : decode cX2_written 68 = .ok (.invokevirtual 76, 3) := by decide +kernel
theorem dX2_written_71 : decode cX2_written 71 = .ok (.pop, 1) := by decide +kernel
theorem dX2_written_72 : decode cX2_written 72 = .ok (.iinc 3 1, 3) := by decide +kernel
theorem dX2_written_75 : decode cX2_written 75 = .ok (.goto (-65), 3) := by decide +kernel
theorem dX2_written_78 : decode cX2_written 78 = .ok (.aload_n 2, 1) := by decide +kernel
theorem dX2_written_79 : decode cX2_written 79 = .ok (.invokevirtual 79, 3) := by decide +kernel
theorem dX2_written_82 : decode cX2_written 82 = .ok (.areturn, 1) := by decide +kernel
theorem dX2_isAboveMost_0 : decode cX2_isAboveMost 0 = .ok (.aload_n 0, 1) := by decide +kernel
theorem dX2_isAboveMost_1 : decode cX2_isAboveMost 1 = .ok (.getfield 32, 3) := by decide +kernel
theorem dX2_isAboveMost_4 : decode cX2_isAboveMost 4 = .ok (.iconst (-1), 1) := by decide +kernel
theorem dX2_isAboveMost_5 : decode cX2_isAboveMost 5 = .ok (.if_icmp .eq 18, 3) := by decide +kernel
theorem dX2_isAboveMost_8 : decode cX2_isAboveMost 8 = .ok (.aload_n 0, 1) := by decide +kernel
theorem dX2_isAboveMost_9 : decode cX2_isAboveMost 9 = .ok (.getfield 18, 3) := by decide +kernel
theorem dX2_isAboveMost_12 : decode cX2_isAboveMost 12 = .ok (.aload_n 0, 1) := by decide +kernel
theorem dX2_isAboveMost_13 : decode cX2_isAboveMost 13 = .ok (.getfield 32, 3) := by decide +kernel
theorem dX2_isAboveMost_16 : decode cX2_isAboveMost 16 = .ok (.if_icmp .le 7, 3) := by decide +kernel
theorem dX2_isAboveMost_19 : decode cX2_isAboveMost 19 = .ok (.iconst 1, 1) := by decide +kernel
theorem dX2_isAboveMost_20 : decode cX2_isAboveMost 20 = .ok (.goto 4, 3) := by decide +kernel
theorem dX2_isAboveMost_23 : decode cX2_isAboveMost 23 = .ok (.iconst 0, 1) := by decide +kernel
theorem dX2_isAboveMost_24 : decode cX2_isAboveMost 24 = .ok (.ireturn, 1) := by decide +kernel
theorem dX2_isLastOf_0 : decode cX2_isLastOf 0 = .ok (.aload_n 0, 1) := by decide +kernel
theorem dX2_isLastOf_1 : decode cX2_isLastOf 1 = .ok (.getfield 18, 3) := by decide +kernel
theorem dX2_isLastOf_4 : decode cX2_isLastOf 4 = .ok (.aload_n 0, 1) := by decide +kernel
theorem dX2_isLastOf_5 : decode cX2_isLastOf 5 = .ok (.getfield 32, 3) := by decide +kernel
theorem dX2_isLastOf_8 : decode cX2_isLastOf 8 = .ok (.aload_n 1, 1) := by decide +kernel
theorem dX2_isLastOf_9 : decode cX2_isLastOf 9 = .ok (.getfield 18, 3) := by decide +kernel
theorem dX2_isLastOf_12 : decode cX2_isLastOf 12 = .ok (.invokestatic 83, 3) := by decide +kernel
theorem dX2_isLastOf_15 : decode cX2_isLastOf 15 = .ok (.if_icmp .eq 5, 3) := by decide +kernel
theorem dX2_isLastOf_18 : decode cX2_isLastOf 18 = .ok (.iconst 0, 1) := by decide +kernel
theorem dX2_isLastOf_19 : decode cX2_isLastOf 19 = .ok (.ireturn, 1) := by decide +kernel
theorem dX2_isLastOf_20 : decode cX2_isLastOf 20 = .ok (.aload_n 1, 1) := by decide +kernel
theorem dX2_isLastOf_21 : decode cX2_isLastOf 21 = .ok (.getfield 18, 3) := by decide +kernel
theorem dX2_isLastOf_24 : decode cX2_isLastOf 24 = .ok (.aload_n 0, 1) := by decide +kernel
theorem dX2_isLastOf_25 : decode cX2_isLastOf 25 = .ok (.getfield 18, 3) := by decide +kernel
theorem dX2_isLastOf_28 : decode cX2_isLastOf 28 = .ok (.isub, 1) := by decide +kernel
theorem dX2_isLastOf_29 : decode cX2_isLastOf 29 = .ok (.istore_n 2, 1) := by decide +kernel
theorem dX2_isLastOf_30 : decode cX2_isLastOf 30 = .ok (.iconst 0, 1) := by decide +kernel
theorem dX2_isLastOf_31 : decode cX2_isLastOf 31 = .ok (.istore_n 3, 1) := by decide +kernel
theorem dX2_isLastOf_32 : decode cX2_isLastOf 32 = .ok (.iload_n 3, 1) := by decide +kernel
theorem dX2_isLastOf_33 : decode cX2_isLastOf 33 = .ok (.aload_n 0, 1) := by decide +kernel
theorem dX2_isLastOf_34 : decode cX2_isLastOf 34 = .ok (.getfield 18, 3) := by decide +kernel
theorem dX2_isLastOf_37 : decode cX2_isLastOf 37 = .ok (.if_icmp .ge 28, 3) := by decide +kernel
theorem dX2_isLastOf_40 : decode cX2_isLastOf 40 = .ok (.aload_n 0, 1) := by decide +kernel
theorem dX2_isLastOf_41 : decode cX2_isLastOf 41 = .ok (.getfield 9, 3) := by decide +kernel
theorem dX2_isLastOf_44 : decode cX2_isLastOf 44 = .ok (.iload_n 3, 1) := by decide +kernel
theorem dX2_isLastOf_45 : decode cX2_isLastOf 45 = .ok (.iaload, 1) := by decide +kernel
theorem dX2_isLastOf_46 : decode cX2_isLastOf 46 = .ok (.aload_n 1, 1) := by decide +kernel
theorem dX2_isLastOf_47 : decode cX2_isLastOf 47 = .ok (.getfield 9, 3) := by decide +kernel
theorem dX2_isLastOf_50 : decode cX2_isLastOf 50 = .ok (.iload_n 2, 1) := by decide +kernel
theorem dX2_isLastOf_51 : decode cX2_isLastOf 51 = .ok (.iload_n 3, 1) := by decide +kernel
theorem dX2_isLastOf_52 : decode cX2_isLastOf 52 = .ok (.iadd, 1) := by decide +kernel
theorem dX2_isLastOf_53 : decode cX2_isLastOf 53 = .ok (.iaload, 1) := by decide +kernel
theorem dX2_isLastOf_54 : decode cX2_isLastOf 54 = .ok (.if_icmp .eq 5, 3) := by decide +kernel
theorem dX2_isLastOf_57 : decode cX2_isLastOf 57 = .ok (.iconst 0, 1) := by decide +kernel
theorem dX2_isLastOf_58 : decode cX2_isLastOf 58 = .ok (.ireturn, 1) := by decide +kernel
theorem dX2_isLastOf_59 : decode cX2_isLastOf 59 = .ok (.iinc 3 1, 3) := by decide +kernel
theorem dX2_isLastOf_62 : decode cX2_isLastOf 62 = .ok (.goto (-30), 3) := by decide +kernel
theorem dX2_isLastOf_65 : decode cX2_isLastOf 65 = .ok (.iconst 1, 1) := by decide +kernel
theorem dX2_isLastOf_66 : decode cX2_isLastOf 66 = .ok (.ireturn, 1) := by decide +kernel
theorem dX2_takeIn_0 : decode cX2_takeIn 0 = .ok (.aload_n 0, 1) := by decide +kernel
theorem dX2_takeIn_1 : decode cX2_takeIn 1 = .ok (.iload_n 1, 1) := by decide +kernel
theorem dX2_takeIn_2 : decode cX2_takeIn 2 = .ok (.iload_n 2, 1) := by decide +kernel
theorem dX2_takeIn_3 : decode cX2_takeIn 3 = .ok (.invokevirtual 88, 3) := by decide +kernel
theorem dX2_takeIn_6 : decode cX2_takeIn 6 = .ok (.aload_n 0, 1) := by decide +kernel
theorem dX2_takeIn_7 : decode cX2_takeIn 7 = .ok (.invokevirtual 90, 3) := by decide +kernel
theorem dX2_takeIn_10 : decode cX2_takeIn 10 = .ok (.ifCond .eq 28, 3) := by decide +kernel
theorem dX2_takeIn_13 : decode cX2_takeIn 13 = .ok (.aload_n 0, 1) := by decide +kernel
theorem dX2_takeIn_14 : decode cX2_takeIn 14 = .ok (.dup, 1) := by decide +kernel
theorem dX2_takeIn_15 : decode cX2_takeIn 15 = .ok (.getfield 22, 3) := by decide +kernel
theorem dX2_takeIn_18 : decode cX2_takeIn 18 = .ok (.iconst 1, 1) := by decide +kernel
theorem dX2_takeIn_19 : decode cX2_takeIn 19 = .ok (.iadd, 1) := by decide +kernel
theorem dX2_takeIn_20 : decode cX2_takeIn 20 = .ok (.putfield 22, 3) := by decide +kernel
theorem dX2_takeIn_23 : decode cX2_takeIn 23 = .ok (.aload_n 0, 1) := by decide +kernel
theorem dX2_takeIn_24 : decode cX2_takeIn 24 = .ok (.aload_n 0, 1) := by decide +kernel
theorem dX2_takeIn_25 : decode cX2_takeIn 25 = .ok (.getfield 9, 3) := by decide +kernel
theorem dX2_takeIn_28 : decode cX2_takeIn 28 = .ok (.iconst 0, 1) := by decide +kernel
theorem dX2_takeIn_29 : decode cX2_takeIn 29 = .ok (.iaload, 1) := by decide +kernel
theorem dX2_takeIn_30 : decode cX2_takeIn 30 = .ok (.putfield 25, 3) := by decide +kernel
theorem dX2_takeIn_33 : decode cX2_takeIn 33 = .ok (.aload_n 0, 1) := by decide +kernel
theorem dX2_takeIn_34 : decode cX2_takeIn 34 = .ok (.iconst 0, 1) := by decide +kernel
theorem dX2_takeIn_35 : decode cX2_takeIn 35 = .ok (.invokevirtual 62, 3) := by decide +kernel
theorem dX2_takeIn_38 : decode cX2_takeIn 38 = .ok (.return_, 1) := by decide +kernel
theorem dX2_noteAsking_0 : decode cX2_noteAsking 0 = .ok (.aload_n 0, 1) := by decide +kernel
theorem dX2_noteAsking_1 : decode cX2_noteAsking 1 = .ok (.getfield 28, 3) := by decide +kernel
theorem dX2_noteAsking_4 : decode cX2_noteAsking 4 = .ok (.ifCond .eq 11, 3) := by decide +kernel
theorem dX2_noteAsking_7 : decode cX2_noteAsking 7 = .ok (.aload_n 0, 1) := by decide +kernel
theorem dX2_noteAsking_8 : decode cX2_noteAsking 8 = .ok (.iload_n 1, 1) := by decide +kernel
theorem dX2_noteAsking_9 : decode cX2_noteAsking 9 = .ok (.invokevirtual 65, 3) := by decide +kernel
theorem dX2_noteAsking_12 : decode cX2_noteAsking 12 = .ok (.ifCond .ne 4, 3) := by decide +kernel
theorem dX2_noteAsking_15 : decode cX2_noteAsking 15 = .ok (.return_, 1) := by decide +kernel
theorem dX2_noteAsking_16 : decode cX2_noteAsking 16 = .ok (.aload_n 0, 1) := by decide +kernel
theorem dX2_noteAsking_17 : decode cX2_noteAsking 17 = .ok (.getfield 9, 3) := by decide +kernel
theorem dX2_noteAsking_20 : decode cX2_noteAsking 20 = .ok (.iload_n 1, 1) := by decide +kernel
theorem dX2_noteAsking_21 : decode cX2_noteAsking 21 = .ok (.iaload, 1) := by decide +kernel
theorem dX2_noteAsking_22 : decode cX2_noteAsking 22 = .ok (.istore_n 2, 1) := by decide +kernel
theorem dX2_noteAsking_23 : decode cX2_noteAsking 23 = .ok (.aload_n 0, 1) := by decide +kernel
theorem dX2_noteAsking_24 : decode cX2_noteAsking 24 = .ok (.getfield 15, 3) := by decide +kernel
theorem dX2_noteAsking_27 : decode cX2_noteAsking 27 = .ok (.iload_n 1, 1) := by decide +kernel
theorem dX2_noteAsking_28 : decode cX2_noteAsking 28 = .ok (.iaload, 1) := by decide +kernel
theorem dX2_noteAsking_29 : decode cX2_noteAsking 29 = .ok (.istore_n 3, 1) := by decide +kernel
theorem dX2_noteAsking_30 : decode cX2_noteAsking 30 = .ok (.aload_n 0, 1) := by decide +kernel
theorem dX2_noteAsking_31 : decode cX2_noteAsking 31 = .ok (.iload_n 1, 1) := by decide +kernel
theorem dX2_noteAsking_32 : decode cX2_noteAsking 32 = .ok (.invokevirtual 62, 3) := by decide +kernel
theorem dX2_noteAsking_35 : decode cX2_noteAsking 35 = .ok (.aload_n 0, 1) := by decide +kernel
theorem dX2_noteAsking_36 : decode cX2_noteAsking 36 = .ok (.iload_n 2, 1) := by decide +kernel
theorem dX2_noteAsking_37 : decode cX2_noteAsking 37 = .ok (.iload_n 3, 1) := by decide +kernel
theorem dX2_noteAsking_38 : decode cX2_noteAsking 38 = .ok (.invokevirtual 88, 3) := by decide +kernel
theorem dX2_noteAsking_41 : decode cX2_noteAsking 41 = .ok (.return_, 1) := by decide +kernel
theorem dX2_append_0 : decode cX2_append 0 = .ok (.aload_n 0, 1) := by decide +kernel
theorem dX2_append_1 : decode cX2_append 1 = .ok (.getfield 18, 3) := by decide +kernel
theorem dX2_append_4 : decode cX2_append 4 = .ok (.bipush 20, 2) := by decide +kernel
theorem dX2_append_6 : decode cX2_append 6 = .ok (.if_icmp .ge 33, 3) := by decide +kernel
theorem dX2_append_9 : decode cX2_append 9 = .ok (.aload_n 0, 1) := by decide +kernel
theorem dX2_append_10 : decode cX2_append 10 = .ok (.getfield 9, 3) := by decide +kernel
theorem dX2_append_13 : decode cX2_append 13 = .ok (.aload_n 0, 1) := by decide +kernel
theorem dX2_append_14 : decode cX2_append 14 = .ok (.getfield 18, 3) := by decide +kernel
theorem dX2_append_17 : decode cX2_append 17 = .ok (.iload_n 1, 1) := by decide +kernel
theorem dX2_append_18 : decode cX2_append 18 = .ok (.iastore, 1) := by decide +kernel
theorem dX2_append_19 : decode cX2_append 19 = .ok (.aload_n 0, 1) := by decide +kernel
theorem dX2_append_20 : decode cX2_append 20 = .ok (.getfield 15, 3) := by decide +kernel
theorem dX2_append_23 : decode cX2_append 23 = .ok (.aload_n 0, 1) := by decide +kernel
theorem dX2_append_24 : decode cX2_append 24 = .ok (.getfield 18, 3) := by decide +kernel
theorem dX2_append_27 : decode cX2_append 27 = .ok (.iload_n 2, 1) := by decide +kernel
theorem dX2_append_28 : decode cX2_append 28 = .ok (.iastore, 1) := by decide +kernel
theorem dX2_append_29 : decode cX2_append 29 = .ok (.aload_n 0, 1) := by decide +kernel
theorem dX2_append_30 : decode cX2_append 30 = .ok (.dup, 1) := by decide +kernel
theorem dX2_append_31 : decode cX2_append 31 = .ok (.getfield 18, 3) := by decide +kernel
theorem dX2_append_34 : decode cX2_append 34 = .ok (.iconst 1, 1) := by decide +kernel
theorem dX2_append_35 : decode cX2_append 35 = .ok (.iadd, 1) := by decide +kernel
theorem dX2_append_36 : decode cX2_append 36 = .ok (.putfield 18, 3) := by decide +kernel
theorem dX2_append_39 : decode cX2_append 39 = .ok (.return_, 1) := by decide +kernel
theorem dX3_init_0 : decode cX3_init 0 = .ok (.aload_n 0, 1) := by decide +kernel
theorem dX3_init_1 : decode cX3_init 1 = .ok (.invokespecial 1, 3) := by decide +kernel
theorem dX3_init_4 : decode cX3_init 4 = .ok (.aload_n 0, 1) := by decide +kernel
theorem dX3_init_5 : decode cX3_init 5 = .ok (.aload_n 1, 1) := by decide +kernel
theorem dX3_init_6 : decode cX3_init 6 = .ok (.putfield 7, 3) := by decide +kernel
theorem dX3_init_9 : decode cX3_init 9 = .ok (.aload_n 0, 1) := by decide +kernel
theorem dX3_init_10 : decode cX3_init 10 = .ok (.new 13, 3) := by decide +kernel
theorem dX3_init_13 : decode cX3_init 13 = .ok (.dup, 1) := by decide +kernel
theorem dX3_init_14 : decode cX3_init 14 = .ok (.aload_n 1, 1) := by decide +kernel
theorem dX3_init_15 : decode cX3_init 15 = .ok (.invokespecial 15, 3) := by decide +kernel
theorem dX3_init_18 : decode cX3_init 18 = .ok (.putfield 18, 3) := by decide +kernel
theorem dX3_init_21 : decode cX3_init 21 = .ok (.return_, 1) := by decide +kernel
theorem dX4_init_0 : decode cX4_init 0 = .ok (.aload_n 0, 1) := by decide +kernel
theorem dX4_init_1 : decode cX4_init 1 = .ok (.invokespecial 3, 3) := by decide +kernel
theorem dX4_init_4 : decode cX4_init 4 = .ok (.aload_n 0, 1) := by decide +kernel
theorem dX4_init_5 : decode cX4_init 5 = .ok (.iconst 0, 1) := by decide +kernel
theorem dX4_init_6 : decode cX4_init 6 = .ok (.putfield 9, 3) := by decide +kernel
theorem dX4_init_9 : decode cX4_init 9 = .ok (.aload_n 0, 1) := by decide +kernel
theorem dX4_init_10 : decode cX4_init 10 = .ok (.iconst 0, 1) := by decide +kernel
theorem dX4_init_11 : decode cX4_init 11 = .ok (.putfield 15, 3) := by decide +kernel
theorem dX4_init_14 : decode cX4_init 14 = .ok (.aload_n 0, 1) := by decide +kernel
theorem dX4_init_15 : decode cX4_init 15 = .ok (.iconst 0, 1) := by decide +kernel
theorem dX4_init_16 : decode cX4_init 16 = .ok (.putfield 18, 3) := by decide +kernel
theorem dX4_init_19 : decode cX4_init 19 = .ok (.aload_n 0, 1) := by decide +kernel
theorem dX4_init_20 : decode cX4_init 20 = .ok (.iconst 0, 1) := by decide +kernel
theorem dX4_init_21 : decode cX4_init 21 = .ok (.putfield 21, 3) := by decide +kernel
theorem dX4_init_24 : decode cX4_init 24 = .ok (.aload_n 0, 1) := by decide +kernel
theorem dX4_init_25 : decode cX4_init 25 = .ok (.iconst 0, 1) := by decide +kernel
theorem dX4_init_26 : decode cX4_init 26 = .ok (.putfield 25, 3) := by decide +kernel
theorem dX4_init_29 : decode cX4_init 29 = .ok (.aload_n 0, 1) := by decide +kernel
theorem dX4_init_30 : decode cX4_init 30 = .ok (.aload_n 1, 1) := by decide +kernel
theorem dX4_init_31 : decode cX4_init 31 = .ok (.putfield 28, 3) := by decide +kernel
theorem dX4_init_34 : decode cX4_init 34 = .ok (.return_, 1) := by decide +kernel
theorem dX4_begin_0 : decode cX4_begin 0 = .ok (.aload_n 0, 1) := by decide +kernel
theorem dX4_begin_1 : decode cX4_begin 1 = .ok (.iconst 1, 1) := by decide +kernel
theorem dX4_begin_2 : decode cX4_begin 2 = .ok (.putfield 9, 3) := by decide +kernel
theorem dX4_begin_5 : decode cX4_begin 5 = .ok (.aload_n 0, 1) := by decide +kernel
theorem dX4_begin_6 : decode cX4_begin 6 = .ok (.iconst 0, 1) := by decide +kernel
theorem dX4_begin_7 : decode cX4_begin 7 = .ok (.putfield 15, 3) := by decide +kernel
theorem dX4_begin_10 : decode cX4_begin 10 = .ok (.aload_n 0, 1) := by decide +kernel
theorem dX4_begin_11 : decode cX4_begin 11 = .ok (.iconst 0, 1) := by decide +kernel
theorem dX4_begin_12 : decode cX4_begin 12 = .ok (.putfield 18, 3) := by decide +kernel
theorem dX4_begin_15 : decode cX4_begin 15 = .ok (.aload_n 0, 1) := by decide +kernel
theorem dX4_begin_16 : decode cX4_begin 16 = .ok (.iload_n 1, 1) := by decide +kernel
theorem dX4_begin_17 : decode cX4_begin 17 = .ok (.putfield 21, 3) := by decide +kernel
theorem dX4_begin_20 : decode cX4_begin 20 = .ok (.aload_n 0, 1) := by decide +kernel
theorem dX4_begin_21 : decode cX4_begin 21 = .ok (.iconst 0, 1) := by decide +kernel
theorem dX4_begin_22 : decode cX4_begin 22 = .ok (.putfield 25, 3) := by decide +kernel
theorem dX4_begin_25 : decode cX4_begin 25 = .ok (.return_, 1) := by decide +kernel
theorem dX4_outdate_0 : decode cX4_outdate 0 = .ok (.aload_n 0, 1) := by decide +kernel
theorem dX4_outdate_1 : decode cX4_outdate 1 = .ok (.iconst 1, 1) := by decide +kernel
theorem dX4_outdate_2 : decode cX4_outdate 2 = .ok (.putfield 15, 3) := by decide +kernel
theorem dX4_outdate_5 : decode cX4_outdate 5 = .ok (.return_, 1) := by decide +kernel
theorem dX4_isUsable_0 : decode cX4_isUsable 0 = .ok (.aload_n 0, 1) := by decide +kernel
theorem dX4_isUsable_1 : decode cX4_isUsable 1 = .ok (.getfield 9, 3) := by decide +kernel
theorem dX4_isUsable_4 : decode cX4_isUsable 4 = .ok (.ifCond .eq 14, 3) := by decide +kernel
theorem dX4_isUsable_7 : decode cX4_isUsable 7 = .ok (.aload_n 0, 1) := by decide +kernel
theorem dX4_isUsable_8 : decode cX4_isUsable 8 = .ok (.getfield 15, 3) := by decide +kernel
theorem dX4_isUsable_11 : decode cX4_isUsable 11 = .ok (.ifCond .ne 7, 3) := by decide +kernel
theorem dX4_isUsable_14 : decode cX4_isUsable 14 = .ok (.iconst 1, 1) := by decide +kernel
theorem dX4_isUsable_15 : decode cX4_isUsable 15 = .ok (.goto 4, 3) := by decide +kernel
theorem dX4_isUsable_18 : decode cX4_isUsable 18 = .ok (.iconst 0, 1) := by decide +kernel
theorem dX4_isUsable_19 : decode cX4_isUsable 19 = .ok (.ireturn, 1) := by decide +kernel
theorem dX4_isOutdated_0 : decode cX4_isOutdated 0 = .ok (.aload_n 0, 1) := by decide +kernel
theorem dX4_isOutdated_1 : decode cX4_isOutdated 1 = .ok (.getfield 9, 3) := by decide +kernel
theorem dX4_isOutdated_4 : decode cX4_isOutdated 4 = .ok (.ifCond .eq 14, 3) := by decide +kernel
theorem dX4_isOutdated_7 : decode cX4_isOutdated 7 = .ok (.aload_n 0, 1) := by decide +kernel
theorem dX4_isOutdated_8 : decode cX4_isOutdated 8 = .ok (.getfield 15, 3) := by decide +kernel
theorem dX4_isOutdated_11 : decode cX4_isOutdated 11 = .ok (.ifCond .eq 7, 3) := by decide +kernel
theorem dX4_isOutdated_14 : decode cX4_isOutdated 14 = .ok (.iconst 1, 1) := by decide +kernel
theorem dX4_isOutdated_15 : decode cX4_isOutdated 15 = .ok (.goto 4, 3) := by decide +kernel
theorem dX4_isOutdated_18 : decode cX4_isOutdated 18 = .ok (.iconst 0, 1) := by decide +kernel
theorem dX4_isOutdated_19 : decode cX4_isOutdated 19 = .ok (.ireturn, 1) := by decide +kernel
theorem dX4_isAnyAhead_0 : decode cX4_isAnyAhead 0 = .ok (.aload_n 0, 1) := by decide +kernel
theorem dX4_isAnyAhead_1 : decode cX4_isAnyAhead 1 = .ok (.invokevirtual 32, 3) := by decide +kernel
theorem dX4_isAnyAhead_4 : decode cX4_isAnyAhead 4 = .ok (.ifCond .eq 21, 3) := by decide +kernel
theorem dX4_isAnyAhead_7 : decode cX4_isAnyAhead 7 = .ok (.aload_n 0, 1) := by decide +kernel
theorem dX4_isAnyAhead_8 : decode cX4_isAnyAhead 8 = .ok (.getfield 28, 3) := by decide +kernel
theorem dX4_isAnyAhead_11 : decode cX4_isAnyAhead 11 = .ok (.aload_n 0, 1) := by decide +kernel
theorem dX4_isAnyAhead_12 : decode cX4_isAnyAhead 12 = .ok (.getfield 25, 3) := by decide +kernel
theorem dX4_isAnyAhead_15 : decode cX4_isAnyAhead 15 = .ok (.invokevirtual 36, 3) := by decide +kernel
theorem dX4_isAnyAhead_18 : decode cX4_isAnyAhead 18 = .ok (.ifCond .eq 7, 3) := by decide +kernel
theorem dX4_isAnyAhead_21 : decode cX4_isAnyAhead 21 = .ok (.iconst 1, 1) := by decide +kernel
theorem dX4_isAnyAhead_22 : decode cX4_isAnyAhead 22 = .ok (.goto 4, 3) := by decide +kernel
theorem dX4_isAnyAhead_25 : decode cX4_isAnyAhead 25 = .ok (.iconst 0, 1) := by decide +kernel
theorem dX4_isAnyAhead_26 : decode cX4_isAnyAhead 26 = .ok (.ireturn, 1) := by decide +kernel
theorem dX4_canCut_0 : decode cX4_canCut 0 = .ok (.aload_n 0, 1) := by decide +kernel
theorem dX4_canCut_1 : decode cX4_canCut 1 = .ok (.invokevirtual 32, 3) := by decide +kernel
theorem dX4_canCut_4 : decode cX4_canCut 4 = .ok (.ifCond .eq 14, 3) := by decide +kernel
theorem dX4_canCut_7 : decode cX4_canCut 7 = .ok (.aload_n 0, 1) := by decide +kernel
theorem dX4_canCut_8 : decode cX4_canCut 8 = .ok (.getfield 18, 3) := by decide +kernel
theorem dX4_canCut_11 : decode cX4_canCut 11 = .ok (.ifCond .eq 7, 3) := by decide +kernel
theorem dX4_canCut_14 : decode cX4_canCut 14 = .ok (.iconst 1, 1) := by decide +kernel
theorem dX4_canCut_15 : decode cX4_canCut 15 = .ok (.goto 4, 3) := by decide +kernel
theorem dX4_canCut_18 : decode cX4_canCut 18 = .ok (.iconst 0, 1) := by decide +kernel
theorem dX4_canCut_19 : decode cX4_canCut 19 = .ok (.ireturn, 1) := by decide +kernel
theorem dX4_advance_0 : decode cX4_advance 0 = .ok (.aload_n 0, 1) := by decide +kernel
theorem dX4_advance_1 : decode cX4_advance 1 = .ok (.getfield 28, 3) := by decide +kernel
theorem dX4_advance_4 : decode cX4_advance 4 = .ok (.aload_n 0, 1) := by decide +kernel
theorem dX4_advance_5 : decode cX4_advance 5 = .ok (.getfield 25, 3) := by decide +kernel
theorem dX4_advance_8 : decode cX4_advance 8 = .ok (.aload_n 0, 1) := by decide +kernel
theorem dX4_advance_9 : decode cX4_advance 9 = .ok (.getfield 21, 3) := by decide +kernel
theorem dX4_advance_12 : decode cX4_advance 12 = .ok (.invokevirtual 42, 3) := by decide +kernel
theorem dX4_advance_15 : decode cX4_advance 15 = .ok (.istore_n 1, 1) := by decide +kernel
theorem dX4_advance_16 : decode cX4_advance 16 = .ok (.aload_n 0, 1) := by decide +kernel
theorem dX4_advance_17 : decode cX4_advance 17 = .ok (.dup, 1) := by decide +kernel
theorem dX4_advance_18 : decode cX4_advance 18 = .ok (.getfield 25, 3) := by decide +kernel
theorem dX4_advance_21 : decode cX4_advance 21 = .ok (.iconst 1, 1) := by decide +kernel
theorem dX4_advance_22 : decode cX4_advance 22 = .ok (.iadd, 1) := by decide +kernel
theorem dX4_advance_23 : decode cX4_advance 23 = .ok (.putfield 25, 3) := by decide +kernel
theorem dX4_advance_26 : decode cX4_advance 26 = .ok (.aload_n 0, 1) := by decide +kernel
theorem dX4_advance_27 : decode cX4_advance 27 = .ok (.iconst 1, 1) := by decide +kernel
theorem dX4_advance_28 : decode cX4_advance 28 = .ok (.putfield 18, 3) := by decide +kernel
theorem dX4_advance_31 : decode cX4_advance 31 = .ok (.iload_n 1, 1) := by decide +kernel
theorem dX4_advance_32 : decode cX4_advance 32 = .ok (.ireturn, 1) := by decide +kernel
theorem dX4_advanceToEnd_0 : decode cX4_advanceToEnd 0 = .ok (.aload_n 0, 1) := by decide +kernel
theorem dX4_advanceToEnd_1 : decode cX4_advanceToEnd 1 = .ok (.getfield 28, 3) := by decide +kernel
theorem dX4_advanceToEnd_4 : decode cX4_advanceToEnd 4 = .ok (.getfield 46, 3) := by decide +kernel
theorem dX4_advanceToEnd_7 : decode cX4_advanceToEnd 7 = .ok (.aload_n 0, 1) := by decide +kernel
theorem dX4_advanceToEnd_8 : decode cX4_advanceToEnd 8 = .ok (.getfield 25, 3) := by decide +kernel
theorem dX4_advanceToEnd_11 : decode cX4_advanceToEnd 11 = .ok (.isub, 1) := by decide +kernel
theorem dX4_advanceToEnd_12 : decode cX4_advanceToEnd 12 = .ok (.istore_n 1, 1) := by decide +kernel
theorem dX4_advanceToEnd_13 : decode cX4_advanceToEnd 13 = .ok (.iconst 0, 1) := by decide +kernel
theorem dX4_advanceToEnd_14 : decode cX4_advanceToEnd 14 = .ok (.istore_n 2, 1) := by decide +kernel
theorem dX4_advanceToEnd_15 : decode cX4_advanceToEnd 15 = .ok (.iconst 0, 1) := by decide +kernel
theorem dX4_advanceToEnd_16 : decode cX4_advanceToEnd 16 = .ok (.istore_n 3, 1) := by decide +kernel
theorem dX4_advanceToEnd_17 : decode cX4_advanceToEnd 17 = .ok (.iload_n 3, 1) := by decide +kernel
theorem dX4_advanceToEnd_18 : decode cX4_advanceToEnd 18 = .ok (.iload_n 1, 1) := by decide +kernel
theorem dX4_advanceToEnd_19 : decode cX4_advanceToEnd 19 = .ok (.if_icmp .ge 16, 3) := by decide +kernel
theorem dX4_advanceToEnd_22 : decode cX4_advanceToEnd 22 = .ok (.iload_n 2, 1) := by decide +kernel
theorem dX4_advanceToEnd_23 : decode cX4_advanceToEnd 23 = .ok (.aload_n 0, 1) := by decide +kernel
theorem dX4_advanceToEnd_24 : decode cX4_advanceToEnd 24 = .ok (.invokevirtual 49, 3) := by decide +kernel
theorem dX4_advanceToEnd_27 : decode cX4_advanceToEnd 27 = .ok (.iadd, 1) := by decide +kernel
theorem dX4_advanceToEnd_28 : decode cX4_advanceToEnd 28 = .ok (.istore_n 2, 1) := by decide +kernel
theorem dX4_advanceToEnd_29 : decode cX4_advanceToEnd 29 = .ok (.iinc 3 1, 3) := by decide +kernel
theorem dX4_advanceToEnd_32 : decode cX4_advanceToEnd 32 = .ok (.goto (-15), 3) := by decide +kernel
theorem dX4_advanceToEnd_35 : decode cX4_advanceToEnd 35 = .ok (.iload_n 2, 1) := by decide +kernel
theorem dX4_advanceToEnd_36 : decode cX4_advanceToEnd 36 = .ok (.ireturn, 1) := by decide +kernel
theorem dX4_cutLast_0 : decode cX4_cutLast 0 = .ok (.aload_n 0, 1) := by decide +kernel
theorem dX4_cutLast_1 : decode cX4_cutLast 1 = .ok (.dup, 1) := by decide +kernel
theorem dX4_cutLast_2 : decode cX4_cutLast 2 = .ok (.getfield 25, 3) := by decide +kernel
theorem dX4_cutLast_5 : decode cX4_cutLast 5 = .ok (.iconst 1, 1) := by decide +kernel
theorem dX4_cutLast_6 : decode cX4_cutLast 6 = .ok (.isub, 1) := by decide +kernel
theorem dX4_cutLast_7 : decode cX4_cutLast 7 = .ok (.putfield 25, 3) := by decide +kernel
theorem dX4_cutLast_10 : decode cX4_cutLast 10 = .ok (.aload_n 0, 1) := by decide +kernel
theorem dX4_cutLast_11 : decode cX4_cutLast 11 = .ok (.iconst 0, 1) := by decide +kernel
theorem dX4_cutLast_12 : decode cX4_cutLast 12 = .ok (.putfield 18, 3) := by decide +kernel
theorem dX4_cutLast_15 : decode cX4_cutLast 15 = .ok (.aload_n 0, 1) := by decide +kernel
theorem dX4_cutLast_16 : decode cX4_cutLast 16 = .ok (.getfield 28, 3) := by decide +kernel
theorem dX4_cutLast_19 : decode cX4_cutLast 19 = .ok (.aload_n 0, 1) := by decide +kernel
theorem dX4_cutLast_20 : decode cX4_cutLast 20 = .ok (.getfield 25, 3) := by decide +kernel
theorem dX4_cutLast_23 : decode cX4_cutLast 23 = .ok (.invokevirtual 53, 3) := by decide +kernel
theorem dX4_cutLast_26 : decode cX4_cutLast 26 = .ok (.return_, 1) := by decide +kernel
theorem dX5_init_0 : decode cX5_init 0 = .ok (.aload_n 0, 1) := by decide +kernel
theorem dX5_init_1 : decode cX5_init 1 = .ok (.invokespecial 1, 3) := by decide +kernel
theorem dX5_init_4 : decode cX5_init 4 = .ok (.aload_n 0, 1) := by decide +kernel
theorem dX5_init_5 : decode cX5_init 5 = .ok (.iconst 4, 1) := by decide +kernel
theorem dX5_init_6 : decode cX5_init 6 = .ok (.anewarray 9, 3) := by decide +kernel
theorem dX5_init_9 : decode cX5_init 9 = .ok (.putfield 11, 3) := by decide +kernel
theorem dX5_init_12 : decode cX5_init 12 = .ok (.aload_n 0, 1) := by decide +kernel
theorem dX5_init_13 : decode cX5_init 13 = .ok (.new 15, 3) := by decide +kernel
theorem dX5_init_16 : decode cX5_init 16 = .ok (.dup, 1) := by decide +kernel
theorem dX5_init_17 : decode cX5_init 17 = .ok (.invokespecial 17, 3) := by decide +kernel
theorem dX5_init_20 : decode cX5_init 20 = .ok (.putfield 18, 3) := by decide +kernel
theorem dX5_init_23 : decode cX5_init 23 = .ok (.aload_n 0, 1) := by decide +kernel
theorem dX5_init_24 : decode cX5_init 24 = .ok (.new 22, 3) := by decide +kernel
theorem dX5_init_27 : decode cX5_init 27 = .ok (.dup, 1) := by decide +kernel
theorem dX5_init_28 : decode cX5_init 28 = .ok (.iconst 1, 1) := by decide +kernel
theorem dX5_init_29 : decode cX5_init 29 = .ok (.iconst (-1), 1) := by decide +kernel
theorem dX5_init_30 : decode cX5_init 30 = .ok (.invokespecial 24, 3) := by decide +kernel
theorem dX5_init_33 : decode cX5_init 33 = .ok (.putfield 27, 3) := by decide +kernel
theorem dX5_init_36 : decode cX5_init 36 = .ok (.aload_n 0, 1) := by decide +kernel
theorem dX5_init_37 : decode cX5_init 37 = .ok (.bipush 6, 2) := by decide +kernel
theorem dX5_init_39 : decode cX5_init 39 = .ok (.anewarray 31, 3) := by decide +kernel
theorem dX5_init_42 : decode cX5_init 42 = .ok (.putfield 33, 3) := by decide +kernel
theorem dX5_init_45 : decode cX5_init 45 = .ok (.aload_n 0, 1) := by decide +kernel
theorem dX5_init_46 : decode cX5_init 46 = .ok (.bipush 6, 2) := by decide +kernel
theorem dX5_init_48 : decode cX5_init 48 = .ok (.newarray .int, 2) := by decide +kernel
theorem dX5_init_50 : decode cX5_init 50 = .ok (.putfield 37, 3) := by decide +kernel
theorem dX5_init_53 : decode cX5_init 53 = .ok (.aload_n 0, 1) := by decide +kernel
theorem dX5_init_54 : decode cX5_init 54 = .ok (.iconst 0, 1) := by decide +kernel
theorem dX5_init_55 : decode cX5_init 55 = .ok (.putfield 41, 3) := by decide +kernel
theorem dX5_init_58 : decode cX5_init 58 = .ok (.aload_n 0, 1) := by decide +kernel
theorem dX5_init_59 : decode cX5_init 59 = .ok (.iconst 0, 1) := by decide +kernel
theorem dX5_init_60 : decode cX5_init 60 = .ok (.putfield 45, 3) := by decide +kernel
theorem dX5_init_63 : decode cX5_init 63 = .ok (.iconst 0, 1) := by decide +kernel
theorem dX5_init_64 : decode cX5_init 64 = .ok (.istore_n 1, 1) := by decide +kernel
theorem dX5_init_65 : decode cX5_init 65 = .ok (.iload_n 1, 1) := by decide +kernel
theorem dX5_init_66 : decode cX5_init 66 = .ok (.iconst 4, 1) := by decide +kernel
theorem dX5_init_67 : decode cX5_init 67 = .ok (.if_icmp .ge 31, 3) := by decide +kernel
theorem dX5_init_70 : decode cX5_init 70 = .ok (.aload_n 0, 1) := by decide +kernel
theorem dX5_init_71 : decode cX5_init 71 = .ok (.getfield 11, 3) := by decide +kernel
theorem dX5_init_74 : decode cX5_init 74 = .ok (.iload_n 1, 1) := by decide +kernel
theorem dX5_init_75 : decode cX5_init 75 = .ok (.new 9, 3) := by decide +kernel
theorem dX5_init_78 : decode cX5_init 78 = .ok (.dup, 1) := by decide +kernel
theorem dX5_init_79 : decode cX5_init 79 = .ok (.new 22, 3) := by decide +kernel
theorem dX5_init_82 : decode cX5_init 82 = .ok (.dup, 1) := by decide +kernel
theorem dX5_init_83 : decode cX5_init 83 = .ok (.iconst 0, 1) := by decide +kernel
theorem dX5_init_84 : decode cX5_init 84 = .ok (.iconst (-1), 1) := by decide +kernel
theorem dX5_init_85 : decode cX5_init 85 = .ok (.invokespecial 24, 3) := by decide +kernel
theorem dX5_init_88 : decode cX5_init 88 = .ok (.invokespecial 48, 3) := by decide +kernel
theorem dX5_init_91 : decode cX5_init 91 = .ok (.aastore, 1) := by decide +kernel
theorem dX5_init_92 : decode cX5_init 92 = .ok (.iinc 1 1, 3) := by decide +kernel
theorem dX5_init_95 : decode cX5_init 95 = .ok (.goto (-30), 3) := by decide +kernel
theorem dX5_init_98 : decode cX5_init 98 = .ok (.iconst 0, 1) := by decide +kernel
theorem dX5_init_99 : decode cX5_init 99 = .ok (.istore_n 1, 1) := by decide +kernel
theorem dX5_init_100 : decode cX5_init 100 = .ok (.iload_n 1, 1) := by decide +kernel
theorem dX5_init_101 : decode cX5_init 101 = .ok (.bipush 6, 2) := by decide +kernel
theorem dX5_init_103 : decode cX5_init 103 = .ok (.if_icmp .ge 25, 3) := by decide +kernel
theorem dX5_init_106 : decode cX5_init 106 = .ok (.aload_n 0, 1) := by decide +kernel
theorem dX5_init_107 : decode cX5_init 107 = .ok (.getfield 33, 3) := by decide +kernel
theorem dX5_init_110 : decode cX5_init 110 = .ok (.iload_n 1, 1) := by decide +kernel
theorem dX5_init_111 : decode cX5_init 111 = .ok (.new 31, 3) := by decide +kernel
theorem dX5_init_114 : decode cX5_init 114 = .ok (.dup, 1) := by decide +kernel
theorem dX5_init_115 : decode cX5_init 115 = .ok (.iload_n 1, 1) := by decide +kernel
theorem dX5_init_116 : decode cX5_init 116 = .ok (.iconst 1, 1) := by decide +kernel
theorem dX5_init_117 : decode cX5_init 117 = .ok (.iadd, 1) := by decide +kernel
theorem dX5_init_118 : decode cX5_init 118 = .ok (.invokespecial 51, 3) := by decide +kernel
theorem dX5_init_121 : decode cX5_init 121 = .ok (.aastore, 1) := by decide +kernel
theorem dX5_init_122 : decode cX5_init 122 = .ok (.iinc 1 1, 3) := by decide +kernel
theorem dX5_init_125 : decode cX5_init 125 = .ok (.goto (-25), 3) := by decide +kernel
theorem dX5_init_128 : decode cX5_init 128 = .ok (.return_, 1) := by decide +kernel
theorem dX5_make_0 : decode cX5_make 0 = .ok (.aload_n 0, 1) := by decide +kernel
theorem dX5_make_1 : decode cX5_make 1 = .ok (.iload_n 1, 1) := by decide +kernel
theorem dX5_make_2 : decode cX5_make 2 = .ok (.invokevirtual 54, 3) := by decide +kernel
theorem dX5_make_5 : decode cX5_make 5 = .ok (.astore 4, 2) := by decide +kernel
theorem dX5_make_7 : decode cX5_make 7 = .ok (.iload_n 3, 1) := by decide +kernel
theorem dX5_make_8 : decode cX5_make 8 = .ok (.iconst (-1), 1) := by decide +kernel
theorem dX5_make_9 : decode cX5_make 9 = .ok (.if_icmp .eq 24, 3) := by decide +kernel
theorem dX5_make_12 : decode cX5_make 12 = .ok (.iload_n 3, 1) := by decide +kernel
theorem dX5_make_13 : decode cX5_make 13 = .ok (.iconst 1, 1) := by decide +kernel
theorem dX5_make_14 : decode cX5_make 14 = .ok (.if_icmp .lt 9, 3) := by decide +kernel
theorem dX5_make_17 : decode cX5_make 17 = .ok (.iload_n 3, 1) := by decide +kernel
theorem dX5_make_18 : decode cX5_make 18 = .ok (.bipush 12, 2) := by decide +kernel
theorem dX5_make_20 : decode cX5_make 20 = .ok (.if_icmp .le 13, 3) := by decide +kernel
theorem dX5_make_23 : decode cX5_make 23 = .ok (.new 58, 3) := by decide +kernel
theorem dX5_make_26 : decode cX5_make 26 = .ok (.dup, 1) := by decide +kernel
theorem dX5_make_27 : decode cX5_make 27 = .ok (.ldc 60, 2) := by decide +kernel
theorem dX5_make_29 : decode cX5_make 29 = .ok (.invokespecial 62, 3) := by decide +kernel
theorem dX5_make_32 : decode cX5_make 32 = .ok (.athrow, 1) := by decide +kernel
theorem dX5_make_33 : decode cX5_make 33 = .ok (.aload 4, 2) := by decide +kernel
theorem dX5_make_35 : decode cX5_make 35 = .ok (.getfield 65, 3) := by decide +kernel
theorem dX5_make_38 : decode cX5_make 38 = .ok (.invokevirtual 69, 3) := by decide +kernel
theorem dX5_make_41 : decode cX5_make 41 = .ok (.aload 4, 2) := by decide +kernel
theorem dX5_make_43 : decode cX5_make 43 = .ok (.getfield 74, 3) := by decide +kernel
theorem dX5_make_46 : decode cX5_make 46 = .ok (.iload_n 2, 1) := by decide +kernel
theorem dX5_make_47 : decode cX5_make 47 = .ok (.iload_n 3, 1) := by decide +kernel
theorem dX5_make_48 : decode cX5_make 48 = .ok (.invokevirtual 77, 3) := by decide +kernel
theorem dX5_make_51 : decode cX5_make 51 = .ok (.ireturn, 1) := by decide +kernel
theorem dX5_put_0 : decode cX5_put 0 = .ok (.aload_n 0, 1) := by decide +kernel
theorem dX5_put_1 : decode cX5_put 1 = .ok (.iload_n 1, 1) := by decide +kernel
theorem dX5_put_2 : decode cX5_put 2 = .ok (.invokevirtual 54, 3) := by decide +kernel
theorem dX5_put_5 : decode cX5_put 5 = .ok (.astore 4, 2) := by decide +kernel
theorem dX5_put_7 : decode cX5_put 7 = .ok (.iload_n 2, 1) := by decide +kernel
theorem dX5_put_8 : decode cX5_put 8 = .ok (.invokestatic 81, 3) := by decide +kernel
theorem dX5_put_11 : decode cX5_put 11 = .ok (.iload_n 3, 1) := by decide +kernel
theorem dX5_put_12 : decode cX5_put 12 = .ok (.invokestatic 84, 3) := by decide +kernel
theorem dX5_put_15 : decode cX5_put 15 = .ok (.aload 4, 2) := by decide +kernel
theorem dX5_put_17 : decode cX5_put 17 = .ok (.getfield 65, 3) := by decide +kernel
theorem dX5_put_20 : decode cX5_put 20 = .ok (.invokevirtual 69, 3) := by decide +kernel
theorem dX5_put_23 : decode cX5_put 23 = .ok (.aload 4, 2) := by decide +kernel
theorem dX5_put_25 : decode cX5_put 25 = .ok (.getfield 74, 3) := by decide +kernel
theorem dX5_put_28 : decode cX5_put 28 = .ok (.iload_n 2, 1) := by decide +kernel
theorem dX5_put_29 : decode cX5_put 29 = .ok (.iload_n 3, 1) := by decide +kernel
theorem dX5_put_30 : decode cX5_put 30 = .ok (.invokevirtual 87, 3) := by decide +kernel
theorem dX5_put_33 : decode cX5_put 33 = .ok (.ireturn, 1) := by decide +kernel
theorem dX5_putIfAbsent_0 : decode cX5_putIfAbsent 0 = .ok (.aload_n 0, 1) := by decide +kernel
theorem dX5_putIfAbsent_1 : decode cX5_putIfAbsent 1 = .ok (.iload_n 1, 1) := by decide +kernel
theorem dX5_putIfAbsent_2 : decode cX5_putIfAbsent 2 = .ok (.invokevirtual 54, 3) := by decide +kernel
theorem dX5_putIfAbsent_5 : decode cX5_putIfAbsent 5 = .ok (.astore 4, 2) := by decide +kernel
theorem dX5_putIfAbsent_7 : decode cX5_putIfAbsent 7 = .ok (.iload_n 2, 1) := by decide +kernel
theorem dX5_putIfAbsent_8 : decode cX5_putIfAbsent 8 = .ok (.invokestatic 81, 3) := by decide +kernel
theorem dX5_putIfAbsent_11 : decode cX5_putIfAbsent 11 = .ok (.iload_n 3, 1) := by decide +kernel
theorem dX5_putIfAbsent_12 : decode cX5_putIfAbsent 12 = .ok (.invokestatic 84, 3) := by decide +kernel
theorem dX5_putIfAbsent_15 : decode cX5_putIfAbsent 15 = .ok (.aload 4, 2) := by decide +kernel
theorem dX5_putIfAbsent_17 : decode cX5_putIfAbsent 17 = .ok (.getfield 74, 3) := by decide +kernel
theorem dX5_putIfAbsent_20 : decode cX5_putIfAbsent 20 = .ok (.getfield 91, 3) := by decide +kernel
theorem dX5_putIfAbsent_23 : decode cX5_putIfAbsent 23 = .ok (.iconst (-1), 1) := by decide +kernel
theorem dX5_putIfAbsent_24 : decode cX5_putIfAbsent 24 = .ok (.if_icmp .eq 13, 3) := by decide +kernel
theorem dX5_putIfAbsent_27 : decode cX5_putIfAbsent 27 = .ok (.new 94, 3) := by decide +kernel
theorem dX5_putIfAbsent_30 : decode cX5_putIfAbsent 30 = .ok (.dup, 1) := by decide +kernel
theorem dX5_putIfAbsent_31 : decode cX5_putIfAbsent 31 = .ok (.ldc 96, 2) := by decide +kernel
theorem dX5_putIfAbsent_33 : decode cX5_putIfAbsent 33 = .ok (.invokespecial 98, 3) := by decide +kernel
theorem dX5_putIfAbsent_36 : decode cX5_putIfAbsent 36 = .ok (.athrow, 1) := by decide +kernel
theorem dX5_putIfAbsent_37 : decode cX5_putIfAbsent 37 = .ok (.aload 4, 2) := by decide +kernel
theorem dX5_putIfAbsent_39 : decode cX5_putIfAbsent 39 = .ok (.getfield 65, 3) := by decide +kernel
theorem dX5_putIfAbsent_42 : decode cX5_putIfAbsent 42 = .ok (.invokevirtual 69, 3) := by decide +kernel
theorem dX5_putIfAbsent_45 : decode cX5_putIfAbsent 45 = .ok (.aload 4, 2) := by decide +kernel
theorem dX5_putIfAbsent_47 : decode cX5_putIfAbsent 47 = .ok (.getfield 74, 3) := by decide +kernel
theorem dX5_putIfAbsent_50 : decode cX5_putIfAbsent 50 = .ok (.iload_n 2, 1) := by decide +kernel
theorem dX5_putIfAbsent_51 : decode cX5_putIfAbsent 51 = .ok (.iload_n 3, 1) := by decide +kernel
theorem dX5_putIfAbsent_52 : decode cX5_putIfAbsent 52 = .ok (.invokevirtual 99, 3) := by decide +kernel
theorem dX5_putIfAbsent_55 : decode cX5_putIfAbsent 55 = .ok (.ireturn, 1) := by decide +kernel
theorem dX5_get_0 : decode cX5_get 0 = .ok (.aload_n 0, 1) := by decide +kernel
theorem dX5_get_1 : decode cX5_get 1 = .ok (.iload_n 1, 1) := by decide +kernel
theorem dX5_get_2 : decode cX5_get 2 = .ok (.invokevirtual 54, 3) := by decide +kernel
theorem dX5_get_5 : decode cX5_get 5 = .ok (.astore_n 3, 1) := by decide +kernel
theorem dX5_get_6 : decode cX5_get 6 = .ok (.iload_n 2, 1) := by decide +kernel
theorem dX5_get_7 : decode cX5_get 7 = .ok (.invokestatic 81, 3) := by decide +kernel
theorem dX5_get_10 : decode cX5_get 10 = .ok (.aload_n 3, 1) := by decide +kernel
theorem dX5_get_11 : decode cX5_get 11 = .ok (.getfield 65, 3) := by decide +kernel
theorem dX5_get_14 : decode cX5_get 14 = .ok (.invokevirtual 69, 3) := by decide +kernel
theorem dX5_get_17 : decode cX5_get 17 = .ok (.aload_n 3, 1) := by decide +kernel
theorem dX5_get_18 : decode cX5_get 18 = .ok (.getfield 74, 3) := by decide +kernel
theorem dX5_get_21 : decode cX5_get 21 = .ok (.iload_n 2, 1) := by decide +kernel
theorem dX5_get_22 : decode cX5_get 22 = .ok (.iconst (-1), 1) := by decide +kernel
theorem dX5_get_23 : decode cX5_get 23 = .ok (.invokevirtual 102, 3) := by decide +kernel
theorem dX5_get_26 : decode cX5_get 26 = .ok (.ireturn, 1) := by decide +kernel
theorem dX5_getOr_0 : decode cX5_getOr 0 = .ok (.aload_n 0, 1) := by decide +kernel
theorem dX5_getOr_1 : decode cX5_getOr 1 = .ok (.iload_n 1, 1) := by decide +kernel
theorem dX5_getOr_2 : decode cX5_getOr 2 = .ok (.invokevirtual 54, 3) := by decide +kernel
theorem dX5_getOr_5 : decode cX5_getOr 5 = .ok (.astore 4, 2) := by decide +kernel
theorem dX5_getOr_7 : decode cX5_getOr 7 = .ok (.iload_n 2, 1) := by decide +kernel
theorem dX5_getOr_8 : decode cX5_getOr 8 = .ok (.invokestatic 81, 3) := by decide +kernel
theorem dX5_getOr_11 : decode cX5_getOr 11 = .ok (.aload 4, 2) := by decide +kernel
theorem dX5_getOr_13 : decode cX5_getOr 13 = .ok (.getfield 65, 3) := by decide +kernel
theorem dX5_getOr_16 : decode cX5_getOr 16 = .ok (.invokevirtual 69, 3) := by decide +kernel
theorem dX5_getOr_19 : decode cX5_getOr 19 = .ok (.aload 4, 2) := by decide +kernel
theorem dX5_getOr_21 : decode cX5_getOr 21 = .ok (.getfield 74, 3) := by decide +kernel
theorem dX5_getOr_24 : decode cX5_getOr 24 = .ok (.iload_n 2, 1) := by decide +kernel
theorem dX5_getOr_25 : decode cX5_getOr 25 = .ok (.iload_n 3, 1) := by decide +kernel
theorem dX5_getOr_26 : decode cX5_getOr 26 = .ok (.invokevirtual 102, 3) := by decide +kernel
theorem dX5_getOr_29 : decode cX5_getOr 29 = .ok (.ireturn, 1) := by decide +kernel
theorem dX5_remove_0 : decode cX5_remove 0 = .ok (.aload_n 0, 1) := by decide +kernel
theorem dX5_remove_1 : decode cX5_remove 1 = .ok (.iload_n 1, 1) := by decide +kernel
theorem dX5_remove_2 : decode cX5_remove 2 = .ok (.invokevirtual 54, 3) := by decide +kernel
theorem dX5_remove_5 : decode cX5_remove 5 = .ok (.astore_n 3, 1) := by decide +kernel
theorem dX5_remove_6 : decode cX5_remove 6 = .ok (.iload_n 2, 1) := by decide +kernel
theorem dX5_remove_7 : decode cX5_remove 7 = .ok (.invokestatic 81, 3) := by decide +kernel
theorem dX5_remove_10 : decode cX5_remove 10 = .ok (.aload_n 3, 1) := by decide +kernel
theorem dX5_remove_11 : decode cX5_remove 11 = .ok (.getfield 65, 3) := by decide +kernel
theorem dX5_remove_14 : decode cX5_remove 14 = .ok (.invokevirtual 69, 3) := by decide +kernel
theorem dX5_remove_17 : decode cX5_remove 17 = .ok (.aload_n 3, 1) := by decide +kernel
theorem dX5_remove_18 : decode cX5_remove 18 = .ok (.getfield 74, 3) := by decide +kernel
theorem dX5_remove_21 : decode cX5_remove 21 = .ok (.iload_n 2, 1) := by decide +kernel
theorem dX5_remove_22 : decode cX5_remove 22 = .ok (.invokevirtual 105, 3) := by decide +kernel
theorem dX5_remove_25 : decode cX5_remove 25 = .ok (.ireturn, 1) := by decide +kernel
theorem dX5_clear_0 : decode cX5_clear 0 = .ok (.aload_n 0, 1) := by decide +kernel
theorem dX5_clear_1 : decode cX5_clear 1 = .ok (.iload_n 1, 1) := by decide +kernel
theorem dX5_clear_2 : decode cX5_clear 2 = .ok (.invokevirtual 54, 3) := by decide +kernel
theorem dX5_clear_5 : decode cX5_clear 5 = .ok (.astore_n 2, 1) := by decide +kernel
theorem dX5_clear_6 : decode cX5_clear 6 = .ok (.aload_n 2, 1) := by decide +kernel
theorem dX5_clear_7 : decode cX5_clear 7 = .ok (.getfield 65, 3) := by decide +kernel
theorem dX5_clear_10 : decode cX5_clear 10 = .ok (.invokevirtual 69, 3) := by decide +kernel
theorem dX5_clear_13 : decode cX5_clear 13 = .ok (.aload_n 2, 1) := by decide +kernel
theorem dX5_clear_14 : decode cX5_clear 14 = .ok (.getfield 74, 3) := by decide +kernel
theorem dX5_clear_17 : decode cX5_clear 17 = .ok (.invokevirtual 109, 3) := by decide +kernel
theorem dX5_clear_20 : decode cX5_clear 20 = .ok (.ireturn, 1) := by decide +kernel
theorem dX5_set_0 : decode cX5_set 0 = .ok (.aload_n 0, 1) := by decide +kernel
theorem dX5_set_1 : decode cX5_set 1 = .ok (.iload_n 1, 1) := by decide +kernel
theorem dX5_set_2 : decode cX5_set 2 = .ok (.invokevirtual 54, 3) := by decide +kernel
theorem dX5_set_5 : decode cX5_set 5 = .ok (.astore 4, 2) := by decide +kernel
theorem dX5_set_7 : decode cX5_set 7 = .ok (.iload_n 3, 1) := by decide +kernel
theorem dX5_set_8 : decode cX5_set 8 = .ok (.invokestatic 84, 3) := by decide +kernel
theorem dX5_set_11 : decode cX5_set 11 = .ok (.aload 4, 2) := by decide +kernel
theorem dX5_set_13 : decode cX5_set 13 = .ok (.getfield 74, 3) := by decide +kernel
theorem dX5_set_16 : decode cX5_set 16 = .ok (.iload_n 2, 1) := by decide +kernel
theorem dX5_set_17 : decode cX5_set 17 = .ok (.invokevirtual 113, 3) := by decide +kernel
theorem dX5_set_20 : decode cX5_set 20 = .ok (.ifCond .ne 8, 3) := by decide +kernel
theorem dX5_set_23 : decode cX5_set 23 = .ok (.aload_n 0, 1) := by decide +kernel
theorem dX5_set_24 : decode cX5_set 24 = .ok (.invokevirtual 117, 3) := by decide +kernel
theorem dX5_set_27 : decode cX5_set 27 = .ok (.ireturn, 1) := by decide +kernel
theorem dX5_set_28 : decode cX5_set 28 = .ok (.aload 4, 2) := by decide +kernel
theorem dX5_set_30 : decode cX5_set 30 = .ok (.getfield 74, 3) := by decide +kernel
theorem dX5_set_33 : decode cX5_set 33 = .ok (.iload_n 2, 1) := by decide +kernel
theorem dX5_set_34 : decode cX5_set 34 = .ok (.iload_n 3, 1) := by decide +kernel
theorem dX5_set_35 : decode cX5_set 35 = .ok (.invokevirtual 120, 3) := by decide +kernel
theorem dX5_set_38 : decode cX5_set 38 = .ok (.ireturn, 1) := by decide +kernel
theorem dX5_copy_0 : decode cX5_copy 0 = .ok (.aload_n 0, 1) := by decide +kernel
theorem dX5_copy_1 : decode cX5_copy 1 = .ok (.iload_n 1, 1) := by decide +kernel
theorem dX5_copy_2 : decode cX5_copy 2 = .ok (.invokevirtual 54, 3) := by decide +kernel
theorem dX5_copy_5 : decode cX5_copy 5 = .ok (.astore_n 3, 1) := by decide +kernel
theorem dX5_copy_6 : decode cX5_copy 6 = .ok (.aload_n 0, 1) := by decide +kernel
theorem dX5_copy_7 : decode cX5_copy 7 = .ok (.iload_n 2, 1) := by decide +kernel
theorem dX5_copy_8 : decode cX5_copy 8 = .ok (.invokevirtual 54, 3) := by decide +kernel
theorem dX5_copy_11 : decode cX5_copy 11 = .ok (.astore 4, 2) := by decide +kernel
theorem dX5_copy_13 : decode cX5_copy 13 = .ok (.aload 4, 2) := by decide +kernel
theorem dX5_copy_15 : decode cX5_copy 15 = .ok (.getfield 65, 3) := by decide +kernel
theorem dX5_copy_18 : decode cX5_copy 18 = .ok (.invokevirtual 69, 3) := by decide +kernel
theorem dX5_copy_21 : decode cX5_copy 21 = .ok (.aload 4, 2) := by decide +kernel
theorem dX5_copy_23 : decode cX5_copy 23 = .ok (.getfield 74, 3) := by decide +kernel
theorem dX5_copy_26 : decode cX5_copy 26 = .ok (.aload_n 3, 1) := by decide +kernel
theorem dX5_copy_27 : decode cX5_copy 27 = .ok (.getfield 74, 3) := by decide +kernel
theorem dX5_copy_30 : decode cX5_copy 30 = .ok (.invokevirtual 123, 3) := by decide +kernel
theorem dX5_copy_33 : decode cX5_copy 33 = .ok (.aload 4, 2) := by decide +kernel
theorem dX5_copy_35 : decode cX5_copy 35 = .ok (.getfield 74, 3) := by decide +kernel
theorem dX5_copy_38 : decode cX5_copy 38 = .ok (.getfield 126, 3) := by decide +kernel
theorem dX5_copy_41 : decode cX5_copy 41 = .ok (.ireturn, 1) := by decide +kernel
theorem dX5_has_0 : decode cX5_has 0 = .ok (.aload_n 0, 1) := by decide +kernel
theorem dX5_has_1 : decode cX5_has 1 = .ok (.iload_n 1, 1) := by decide +kernel
theorem dX5_has_2 : decode cX5_has 2 = .ok (.invokevirtual 54, 3) := by decide +kernel
theorem dX5_has_5 : decode cX5_has 5 = .ok (.astore_n 3, 1) := by decide +kernel
theorem dX5_has_6 : decode cX5_has 6 = .ok (.iload_n 2, 1) := by decide +kernel
theorem dX5_has_7 : decode cX5_has 7 = .ok (.invokestatic 81, 3) := by decide +kernel
theorem dX5_has_10 : decode cX5_has 10 = .ok (.aload_n 3, 1) := by decide +kernel
theorem dX5_has_11 : decode cX5_has 11 = .ok (.getfield 74, 3) := by decide +kernel
theorem dX5_has_14 : decode cX5_has 14 = .ok (.iload_n 2, 1) := by decide +kernel
theorem dX5_has_15 : decode cX5_has 15 = .ok (.invokevirtual 129, 3) := by decide +kernel
theorem dX5_has_18 : decode cX5_has 18 = .ok (.iconst (-1), 1) := by decide +kernel
theorem dX5_has_19 : decode cX5_has 19 = .ok (.if_icmp .eq 7, 3) := by decide +kernel
theorem dX5_has_22 : decode cX5_has 22 = .ok (.iconst 1, 1) := by decide +kernel
theorem dX5_has_23 : decode cX5_has 23 = .ok (.goto 4, 3) := by decide +kernel
theorem dX5_has_26 : decode cX5_has 26 = .ok (.iconst 0, 1) := by decide +kernel
theorem dX5_has_27 : decode cX5_has 27 = .ok (.ireturn, 1) := by decide +kernel
theorem dX5_size_0 : decode cX5_size 0 = .ok (.aload_n 0, 1) := by decide +kernel
theorem dX5_size_1 : decode cX5_size 1 = .ok (.iload_n 1, 1) := by decide +kernel
theorem dX5_size_2 : decode cX5_size 2 = .ok (.invokevirtual 54, 3) := by decide +kernel
theorem dX5_size_5 : decode cX5_size 5 = .ok (.getfield 74, 3) := by decide +kernel
theorem dX5_size_8 : decode cX5_size 8 = .ok (.getfield 126, 3) := by decide +kernel
theorem dX5_size_11 : decode cX5_size 11 = .ok (.ireturn, 1) := by decide +kernel
theorem dX5_keyAt_0 : decode cX5_keyAt 0 = .ok (.aload_n 0, 1) := by decide +kernel
theorem dX5_keyAt_1 : decode cX5_keyAt 1 = .ok (.iload_n 1, 1) := by decide +kernel
theorem dX5_keyAt_2 : decode cX5_keyAt 2 = .ok (.invokevirtual 54, 3) := by decide +kernel
theorem dX5_keyAt_5 : decode cX5_keyAt 5 = .ok (.getfield 74, 3) := by decide +kernel
theorem dX5_keyAt_8 : decode cX5_keyAt 8 = .ok (.iload_n 2, 1) := by decide +kernel
theorem dX5_keyAt_9 : decode cX5_keyAt 9 = .ok (.iconst 0, 1) := by decide +kernel
theorem dX5_keyAt_10 : decode cX5_keyAt 10 = .ok (.invokevirtual 132, 3) := by decide +kernel
theorem dX5_keyAt_13 : decode cX5_keyAt 13 = .ok (.ireturn, 1) := by decide +kernel
theorem dX5_valueAt_0 : decode cX5_valueAt 0 = .ok (.aload_n 0, 1) := by decide +kernel
theorem dX5_valueAt_1 : decode cX5_valueAt 1 = .ok (.iload_n 1, 1) := by decide +kernel
theorem dX5_valueAt_2 : decode cX5_valueAt 2 = .ok (.invokevirtual 54, 3) := by decide +kernel
theorem dX5_valueAt_5 : decode cX5_valueAt 5 = .ok (.getfield 74, 3) := by decide +kernel
theorem dX5_valueAt_8 : decode cX5_valueAt 8 = .ok (.iload_n 2, 1) := by decide +kernel
theorem dX5_valueAt_9 : decode cX5_valueAt 9 = .ok (.iconst 1, 1) := by decide +kernel
theorem dX5_valueAt_10 : decode cX5_valueAt 10 = .ok (.invokevirtual 132, 3) := by decide +kernel
theorem dX5_valueAt_13 : decode cX5_valueAt 13 = .ok (.ireturn, 1) := by decide +kernel
theorem dX5_pairAt_0 : decode cX5_pairAt 0 = .ok (.aload_n 0, 1) := by decide +kernel
theorem dX5_pairAt_1 : decode cX5_pairAt 1 = .ok (.iload_n 1, 1) := by decide +kernel
theorem dX5_pairAt_2 : decode cX5_pairAt 2 = .ok (.invokevirtual 54, 3) := by decide +kernel
theorem dX5_pairAt_5 : decode cX5_pairAt 5 = .ok (.getfield 74, 3) := by decide +kernel
theorem dX5_pairAt_8 : decode cX5_pairAt 8 = .ok (.iload_n 2, 1) := by decide +kernel
theorem dX5_pairAt_9 : decode cX5_pairAt 9 = .ok (.iconst 2, 1) := by decide +kernel
theorem dX5_pairAt_10 : decode cX5_pairAt 10 = .ok (.invokevirtual 132, 3) := by decide +kernel
theorem dX5_pairAt_13 : decode cX5_pairAt 13 = .ok (.ireturn, 1) := by decide +kernel
theorem dX5_placeOf_0 : decode cX5_placeOf 0 = .ok (.aload_n 0, 1) := by decide +kernel
theorem dX5_placeOf_1 : decode cX5_placeOf 1 = .ok (.iload_n 1, 1) := by decide +kernel
theorem dX5_placeOf_2 : decode cX5_placeOf 2 = .ok (.invokevirtual 54, 3) := by decide +kernel
theorem dX5_placeOf_5 : decode cX5_placeOf 5 = .ok (.astore_n 3, 1) := by decide +kernel
theorem dX5_placeOf_6 : decode cX5_placeOf 6 = .ok (.iload_n 2, 1) := by decide +kernel
theorem dX5_placeOf_7 : decode cX5_placeOf 7 = .ok (.invokestatic 81, 3) := by decide +kernel
theorem dX5_placeOf_10 : decode cX5_placeOf 10 = .ok (.aload_n 3, 1) := by decide +kernel
theorem dX5_placeOf_11 : decode cX5_placeOf 11 = .ok (.getfield 74, 3) := by decide +kernel
theorem dX5_placeOf_14 : decode cX5_placeOf 14 = .ok (.iload_n 2, 1) := by decide +kernel
theorem dX5_placeOf_15 : decode cX5_placeOf 15 = .ok (.invokevirtual 129, 3) := by decide +kernel
theorem dX5_placeOf_18 : decode cX5_placeOf 18 = .ok (.ireturn, 1) := by decide +kernel
theorem dX5_eldest_0 : decode cX5_eldest 0 = .ok (.aload_n 0, 1) := by decide +kernel
theorem dX5_eldest_1 : decode cX5_eldest 1 = .ok (.iload_n 1, 1) := by decide +kernel
theorem dX5_eldest_2 : decode cX5_eldest 2 = .ok (.invokevirtual 54, 3) := by decide +kernel
theorem dX5_eldest_5 : decode cX5_eldest 5 = .ok (.getfield 74, 3) := by decide +kernel
theorem dX5_eldest_8 : decode cX5_eldest 8 = .ok (.iconst 0, 1) := by decide +kernel
theorem dX5_eldest_9 : decode cX5_eldest 9 = .ok (.iconst 0, 1) := by decide +kernel
theorem dX5_eldest_10 : decode cX5_eldest 10 = .ok (.invokevirtual 132, 3) := by decide +kernel
theorem dX5_eldest_13 : decode cX5_eldest 13 = .ok (.ireturn, 1) := by decide +kernel
theorem dX5_latest_0 : decode cX5_latest 0 = .ok (.aload_n 0, 1) := by decide +kernel
theorem dX5_latest_1 : decode cX5_latest 1 = .ok (.iload_n 1, 1) := by decide +kernel
theorem dX5_latest_2 : decode cX5_latest 2 = .ok (.invokevirtual 54, 3) := by decide +kernel
theorem dX5_latest_5 : decode cX5_latest 5 = .ok (.astore_n 2, 1) := by decide +kernel
theorem dX5_latest_6 : decode cX5_latest 6 = .ok (.aload_n 2, 1) := by decide +kernel
theorem dX5_latest_7 : decode cX5_latest 7 = .ok (.getfield 74, 3) := by decide +kernel
theorem dX5_latest_10 : decode cX5_latest 10 = .ok (.aload_n 2, 1) := by decide +kernel
theorem dX5_latest_11 : decode cX5_latest 11 = .ok (.getfield 74, 3) := by decide +kernel
theorem dX5_latest_14 : decode cX5_latest 14 = .ok (.getfield 126, 3) := by decide +kernel
theorem dX5_latest_17 : decode cX5_latest 17 = .ok (.iconst 1, 1) := by decide +kernel
theorem dX5_latest_18 : decode cX5_latest 18 = .ok (.isub, 1) := by decide +kernel
theorem dX5_latest_19 : decode cX5_latest 19 = .ok (.iconst 0, 1) := by decide +kernel
theorem dX5_latest_20 : decode cX5_latest 20 = .ok (.invokevirtual 132, 3) := by decide +kernel
theorem dX5_latest_23 : decode cX5_latest 23 = .ok (.ireturn, 1) := by decide +kernel
theorem dX5_text_0 : decode cX5_text 0 = .ok (.aload_n 0, 1) := by decide +kernel
theorem dX5_text_1 : decode cX5_text 1 = .ok (.iload_n 1, 1) := by decide +kernel
theorem dX5_text_2 : decode cX5_text 2 = .ok (.invokevirtual 54, 3) := by decide +kernel
theorem dX5_text_5 : decode cX5_text 5 = .ok (.astore_n 3, 1) := by decide +kernel
theorem dX5_text_6 : decode cX5_text 6 = .ok (.iload_n 2, 1) := by decide +kernel
theorem dX5_text_7 : decode cX5_text 7 = .ok (.invokestatic 135, 3) := by decide +kernel
theorem dX5_text_10 : decode cX5_text 10 = .ok (.aload_n 3, 1) := by decide +kernel
theorem dX5_text_11 : decode cX5_text 11 = .ok (.getfield 74, 3) := by decide +kernel
theorem dX5_text_14 : decode cX5_text 14 = .ok (.iload_n 2, 1) := by decide +kernel
theorem dX5_text_15 : decode cX5_text 15 = .ok (.invokevirtual 138, 3) := by decide +kernel
theorem dX5_text_18 : decode cX5_text 18 = .ok (.areturn, 1) := by decide +kernel
theorem dX5_ofTable_0 : decode cX5_ofTable 0 = .ok (.aload_n 0, 1) := by decide +kernel
theorem dX5_ofTable_1 : decode cX5_ofTable 1 = .ok (.iload_n 1, 1) := by decide +kernel
theorem dX5_ofTable_2 : decode cX5_ofTable 2 = .ok (.invokevirtual 54, 3) := by decide +kernel
theorem dX5_ofTable_5 : decode cX5_ofTable 5 = .ok (.getfield 74, 3) := by decide +kernel
theorem dX5_ofTable_8 : decode cX5_ofTable 8 = .ok (.astore_n 3, 1) := by decide +kernel
theorem dX5_ofTable_9 : decode cX5_ofTable 9 = .ok (.iload_n 2, 1) := by decide +kernel
theorem dX5_ofTable_10 : decode cX5_ofTable 10 = .ok (.tableswitch 67 0 4 #[34, 47, 52, 57, 62], 34) := by decide +kernel
theorem dX5_ofTable_44 : decode cX5_ofTable 44 = .ok (.aload_n 3, 1) := by decide +kernel
theorem dX5_ofTable_45 : decode cX5_ofTable 45 = .ok (.getfield 142, 3) := by decide +kernel
theorem dX5_ofTable_48 : decode cX5_ofTable 48 = .ok (.ifCond .eq 7, 3) := by decide +kernel
theorem dX5_ofTable_51 : decode cX5_ofTable 51 = .ok (.iconst 1, 1) := by decide +kernel
theorem dX5_ofTable_52 : decode cX5_ofTable 52 = .ok (.goto 4, 3) := by decide +kernel
theorem dX5_ofTable_55 : decode cX5_ofTable 55 = .ok (.iconst 0, 1) := by decide +kernel
theorem dX5_ofTable_56 : decode cX5_ofTable 56 = .ok (.ireturn, 1) := by decide +kernel
theorem dX5_ofTable_57 : decode cX5_ofTable 57 = .ok (.aload_n 3, 1) := by decide +kernel
theorem dX5_ofTable_58 : decode cX5_ofTable 58 = .ok (.getfield 91, 3) := by decide +kernel
theorem dX5_ofTable_61 : decode cX5_ofTable 61 = .ok (.ireturn, 1) := by decide +kernel
theorem dX5_ofTable_62 : decode cX5_ofTable 62 = .ok (.aload_n 3, 1) := by decide +kernel
theorem dX5_ofTable_63 : decode cX5_ofTable 63 = .ok (.getfield 146, 3) := by decide +kernel
theorem dX5_ofTable_66 : decode cX5_ofTable 66 = .ok (.ireturn, 1) := by decide +kernel
theorem dX5_ofTable_67 : decode cX5_ofTable 67 = .ok (.aload_n 3, 1) := by decide +kernel
theorem dX5_ofTable_68 : decode cX5_ofTable 68 = .ok (.getfield 149, 3) := by decide +kernel
theorem dX5_ofTable_71 : decode cX5_ofTable 71 = .ok (.ireturn, 1) := by decide +kernel
theorem dX5_ofTable_72 : decode cX5_ofTable 72 = .ok (.aload_n 3, 1) := by decide +kernel
theorem dX5_ofTable_73 : decode cX5_ofTable 73 = .ok (.invokevirtual 152, 3) := by decide +kernel
theorem dX5_ofTable_76 : decode cX5_ofTable 76 = .ok (.ireturn, 1) := by decide +kernel
theorem dX5_ofTable_77 : decode cX5_ofTable 77 = .ok (.new 58, 3) := by decide +kernel
theorem dX5_ofTable_80 : decode cX5_ofTable 80 = .ok (.dup, 1) := by decide +kernel
theorem dX5_ofTable_81 : decode cX5_ofTable 81 = .ok (.ldc 155, 2) := by decide +kernel
theorem dX5_ofTable_83 : decode cX5_ofTable 83 = .ok (.invokespecial 62, 3) := by decide +kernel
theorem dX5_ofTable_86 : decode cX5_ofTable 86 = .ok (.athrow, 1) := by decide +kernel
theorem dX5_walk_0 : decode cX5_walk 0 = .ok (.aload_n 0, 1) := by decide +kernel
theorem dX5_walk_1 : decode cX5_walk 1 = .ok (.iload_n 1, 1) := by decide +kernel
theorem dX5_walk_2 : decode cX5_walk 2 = .ok (.invokevirtual 54, 3) := by decide +kernel
theorem dX5_walk_5 : decode cX5_walk 5 = .ok (.astore_n 3, 1) := by decide +kernel
theorem dX5_walk_6 : decode cX5_walk 6 = .ok (.iload_n 2, 1) := by decide +kernel
theorem dX5_walk_7 : decode cX5_walk 7 = .ok (.invokestatic 135, 3) := by decide +kernel
theorem dX5_walk_10 : decode cX5_walk 10 = .ok (.aload_n 3, 1) := by decide +kernel
theorem dX5_walk_11 : decode cX5_walk 11 = .ok (.getfield 65, 3) := by decide +kernel
theorem dX5_walk_14 : decode cX5_walk 14 = .ok (.iload_n 2, 1) := by decide +kernel
theorem dX5_walk_15 : decode cX5_walk 15 = .ok (.invokevirtual 157, 3) := by decide +kernel
theorem dX5_walk_18 : decode cX5_walk 18 = .ok (.aload_n 3, 1) := by decide +kernel
theorem dX5_walk_19 : decode cX5_walk 19 = .ok (.getfield 74, 3) := by decide +kernel
theorem dX5_walk_22 : decode cX5_walk 22 = .ok (.getfield 126, 3) := by decide +kernel
theorem dX5_walk_25 : decode cX5_walk 25 = .ok (.ireturn, 1) := by decide +kernel
theorem dX5_step_0 : decode cX5_step 0 = .ok (.aload_n 0, 1) := by decide +kernel
theorem dX5_step_1 : decode cX5_step 1 = .ok (.iload_n 1, 1) := by decide +kernel
theorem dX5_step_2 : decode cX5_step 2 = .ok (.invokevirtual 54, 3) := by decide +kernel
theorem dX5_step_5 : decode cX5_step 5 = .ok (.astore_n 2, 1) := by decide +kernel
theorem dX5_step_6 : decode cX5_step 6 = .ok (.aload_n 2, 1) := by decide +kernel
theorem dX5_step_7 : decode cX5_step 7 = .ok (.getfield 65, 3) := by decide +kernel
theorem dX5_step_10 : decode cX5_step 10 = .ok (.invokevirtual 160, 3) := by decide +kernel
theorem dX5_step_13 : decode cX5_step 13 = .ok (.ifCond .ne 8, 3) := by decide +kernel
theorem dX5_step_16 : decode cX5_step 16 = .ok (.aload_n 0, 1) := by decide +kernel
theorem dX5_step_17 : decode cX5_step 17 = .ok (.invokevirtual 117, 3) := by decide +kernel
theorem dX5_step_20 : decode cX5_step 20 = .ok (.ireturn, 1) := by decide +kernel
theorem dX5_step_21 : decode cX5_step 21 = .ok (.aload_n 2, 1) := by decide +kernel
theorem dX5_step_22 : decode cX5_step 22 = .ok (.getfield 65, 3) := by decide +kernel
theorem dX5_step_25 : decode cX5_step 25 = .ok (.invokevirtual 164, 3) := by decide +kernel
theorem dX5_step_28 : decode cX5_step 28 = .ok (.ifCond .ne 6, 3) := by decide +kernel
theorem dX5_step_31 : decode cX5_step 31 = .ok (.bipush (-8), 2) := by decide +kernel
theorem dX5_step_33 : decode cX5_step 33 = .ok (.ireturn, 1) := by decide +kernel
theorem dX5_step_34 : decode cX5_step 34 = .ok (.aload_n 2, 1) := by decide +kernel
theorem dX5_step_35 : decode cX5_step 35 = .ok (.getfield 65, 3) := by decide +kernel
theorem dX5_step_38 : decode cX5_step 38 = .ok (.invokevirtual 167, 3) := by decide +kernel
theorem dX5_step_41 : decode cX5_step 41 = .ok (.ireturn, 1) := by decide +kernel
theorem dX5_cut_0 : decode cX5_cut 0 = .ok (.aload_n 0, 1) := by decide +kernel
theorem dX5_cut_1 : decode cX5_cut 1 = .ok (.iload_n 1, 1) := by decide +kernel
theorem dX5_cut_2 : decode cX5_cut 2 = .ok (.invokevirtual 54, 3) := by decide +kernel
theorem dX5_cut_5 : decode cX5_cut 5 = .ok (.astore_n 2, 1) := by decide +kernel
theorem dX5_cut_6 : decode cX5_cut 6 = .ok (.aload_n 2, 1) := by decide +kernel
theorem dX5_cut_7 : decode cX5_cut 7 = .ok (.getfield 65, 3) := by decide +kernel
theorem dX5_cut_10 : decode cX5_cut 10 = .ok (.invokevirtual 170, 3) := by decide +kernel
theorem dX5_cut_13 : decode cX5_cut 13 = .ok (.ifCond .ne 8, 3) := by decide +kernel
theorem dX5_cut_16 : decode cX5_cut 16 = .ok (.aload_n 0, 1) := by decide +kernel
theorem dX5_cut_17 : decode cX5_cut 17 = .ok (.invokevirtual 117, 3) := by decide +kernel
theorem dX5_cut_20 : decode cX5_cut 20 = .ok (.ireturn, 1) := by decide +kernel
theorem dX5_cut_21 : decode cX5_cut 21 = .ok (.aload_n 2, 1) := by decide +kernel
theorem dX5_cut_22 : decode cX5_cut 22 = .ok (.getfield 65, 3) := by decide +kernel
theorem dX5_cut_25 : decode cX5_cut 25 = .ok (.invokevirtual 173, 3) := by decide +kernel
theorem dX5_cut_28 : decode cX5_cut 28 = .ok (.aload_n 2, 1) := by decide +kernel
theorem dX5_cut_29 : decode cX5_cut 29 = .ok (.getfield 74, 3) := by decide +kernel
theorem dX5_cut_32 : decode cX5_cut 32 = .ok (.getfield 126, 3) := by decide +kernel
theorem dX5_cut_35 : decode cX5_cut 35 = .ok (.ireturn, 1) := by decide +kernel
theorem dX5_hasMore_0 : decode cX5_hasMore 0 = .ok (.aload_n 0, 1) := by decide +kernel
theorem dX5_hasMore_1 : decode cX5_hasMore 1 = .ok (.iload_n 1, 1) := by decide +kernel
theorem dX5_hasMore_2 : decode cX5_hasMore 2 = .ok (.invokevirtual 54, 3) := by decide +kernel
theorem dX5_hasMore_5 : decode cX5_hasMore 5 = .ok (.getfield 65, 3) := by decide +kernel
theorem dX5_hasMore_8 : decode cX5_hasMore 8 = .ok (.invokevirtual 164, 3) := by decide +kernel
theorem dX5_hasMore_11 : decode cX5_hasMore 11 = .ok (.ireturn, 1) := by decide +kernel
theorem dX5_isStale_0 : decode cX5_isStale 0 = .ok (.aload_n 0, 1) := by decide +kernel
theorem dX5_isStale_1 : decode cX5_isStale 1 = .ok (.iload_n 1, 1) := by decide +kernel
theorem dX5_isStale_2 : decode cX5_isStale 2 = .ok (.invokevirtual 54, 3) := by decide +kernel
theorem dX5_isStale_5 : decode cX5_isStale 5 = .ok (.getfield 65, 3) := by decide +kernel
theorem dX5_isStale_8 : decode cX5_isStale 8 = .ok (.invokevirtual 176, 3) := by decide +kernel
theorem dX5_isStale_11 : decode cX5_isStale 11 = .ok (.ireturn, 1) := by decide +kernel
theorem dX5_rest_0 : decode cX5_rest 0 = .ok (.aload_n 0, 1) := by decide +kernel
theorem dX5_rest_1 : decode cX5_rest 1 = .ok (.iload_n 1, 1) := by decide +kernel
theorem dX5_rest_2 : decode cX5_rest 2 = .ok (.invokevirtual 54, 3) := by decide +kernel
theorem dX5_rest_5 : decode cX5_rest 5 = .ok (.astore_n 2, 1) := by decide +kernel
theorem dX5_rest_6 : decode cX5_rest 6 = .ok (.aload_n 2, 1) := by decide +kernel
theorem dX5_rest_7 : decode cX5_rest 7 = .ok (.getfield 65, 3) := by decide +kernel
theorem dX5_rest_10 : decode cX5_rest 10 = .ok (.invokevirtual 160, 3) := by decide +kernel
theorem dX5_rest_13 : decode cX5_rest 13 = .ok (.ifCond .ne 8, 3) := by decide +kernel
theorem dX5_rest_16 : decode cX5_rest 16 = .ok (.aload_n 0, 1) := by decide +kernel
theorem dX5_rest_17 : decode cX5_rest 17 = .ok (.invokevirtual 117, 3) := by decide +kernel
theorem dX5_rest_20 : decode cX5_rest 20 = .ok (.ireturn, 1) := by decide +kernel
theorem dX5_rest_21 : decode cX5_rest 21 = .ok (.aload_n 2, 1) := by decide +kernel
theorem dX5_rest_22 : decode cX5_rest 22 = .ok (.getfield 65, 3) := by decide +kernel
theorem dX5_rest_25 : decode cX5_rest 25 = .ok (.invokevirtual 179, 3) := by decide +kernel
theorem dX5_rest_28 : decode cX5_rest 28 = .ok (.ireturn, 1) := by decide +kernel
theorem dX5_ask_0 : decode cX5_ask 0 = .ok (.iload_n 1, 1) := by decide +kernel
theorem dX5_ask_1 : decode cX5_ask 1 = .ok (.invokestatic 81, 3) := by decide +kernel
theorem dX5_ask_4 : decode cX5_ask 4 = .ok (.aload_n 0, 1) := by decide +kernel
theorem dX5_ask_5 : decode cX5_ask 5 = .ok (.iconst 1, 1) := by decide +kernel
theorem dX5_ask_6 : decode cX5_ask 6 = .ok (.invokevirtual 182, 3) := by decide +kernel
theorem dX5_ask_9 : decode cX5_ask 9 = .ok (.aload_n 0, 1) := by decide +kernel
theorem dX5_ask_10 : decode cX5_ask 10 = .ok (.iload_n 1, 1) := by decide +kernel
theorem dX5_ask_11 : decode cX5_ask 11 = .ok (.invokevirtual 185, 3) := by decide +kernel
theorem dX5_ask_14 : decode cX5_ask 14 = .ok (.ireturn, 1) := by decide +kernel
theorem dX5_askRow_0 : decode cX5_askRow 0 = .ok (.iload_n 1, 1) := by decide +kernel
theorem dX5_askRow_1 : decode cX5_askRow 1 = .ok (.invokestatic 81, 3) := by decide +kernel
theorem dX5_askRow_4 : decode cX5_askRow 4 = .ok (.iload_n 2, 1) := by decide +kernel
theorem dX5_askRow_5 : decode cX5_askRow 5 = .ok (.ifCond .lt 9, 3) := by decide +kernel
theorem dX5_askRow_8 : decode cX5_askRow 8 = .ok (.iload_n 2, 1) := by decide +kernel
theorem dX5_askRow_9 : decode cX5_askRow 9 = .ok (.bipush 20, 2) := by decide +kernel
theorem dX5_askRow_11 : decode cX5_askRow 11 = .ok (.if_icmp .lt 13, 3) := by decide +kernel
theorem dX5_askRow_14 : decode cX5_askRow 14 = .ok (.new 58, 3) := by decide +kernel
theorem dX5_askRow_17 : decode cX5_askRow 17 = .ok (.dup, 1) := by decide +kernel
theorem dX5_askRow_18 : decode cX5_askRow 18 = .ok (.ldc 188, 2) := by decide +kernel
theorem dX5_askRow_20 : decode cX5_askRow 20 = .ok (.invokespecial 62, 3) := by decide +kernel
theorem dX5_askRow_23 : decode cX5_askRow 23 = .ok (.athrow, 1) := by decide +kernel
theorem dX5_askRow_24 : decode cX5_askRow 24 = .ok (.iload_n 3, 1) := by decide +kernel
theorem dX5_askRow_25 : decode cX5_askRow 25 = .ok (.iconst 1, 1) := by decide +kernel
theorem dX5_askRow_26 : decode cX5_askRow 26 = .ok (.if_icmp .lt 9, 3) := by decide +kernel
theorem dX5_askRow_29 : decode cX5_askRow 29 = .ok (.iload_n 3, 1) := by decide +kernel
theorem dX5_askRow_30 : decode cX5_askRow 30 = .ok (.bipush 12, 2) := by decide +kernel
theorem dX5_askRow_32 : decode cX5_askRow 32 = .ok (.if_icmp .le 13, 3) := by decide +kernel
theorem dX5_askRow_35 : decode cX5_askRow 35 = .ok (.new 58, 3) := by decide +kernel
theorem dX5_askRow_38 : decode cX5_askRow 38 = .ok (.dup, 1) := by decide +kernel
theorem dX5_askRow_39 : decode cX5_askRow 39 = .ok (.ldc 190, 2) := by decide +kernel
theorem dX5_askRow_41 : decode cX5_askRow 41 = .ok (.invokespecial 62, 3) := by decide +kernel
theorem dX5_askRow_44 : decode cX5_askRow 44 = .ok (.athrow, 1) := by decide +kernel
theorem dX5_askRow_45 : decode cX5_askRow 45 = .ok (.aload_n 0, 1) := by decide +kernel
theorem dX5_askRow_46 : decode cX5_askRow 46 = .ok (.iload_n 3, 1) := by decide +kernel
theorem dX5_askRow_47 : decode cX5_askRow 47 = .ok (.invokevirtual 182, 3) := by decide +kernel
theorem dX5_askRow_50 : decode cX5_askRow 50 = .ok (.iconst 0, 1) := by decide +kernel
theorem dX5_askRow_51 : decode cX5_askRow 51 = .ok (.istore 4, 2) := by decide +kernel
theorem dX5_askRow_53 : decode cX5_askRow 53 = .ok (.iconst 0, 1) := by decide +kernel
theorem dX5_askRow_54 : decode cX5_askRow 54 = .ok (.istore 5, 2) := by decide +kernel
theorem dX5_askRow_56 : decode cX5_askRow 56 = .ok (.iload 5, 2) := by decide +kernel
theorem dX5_askRow_58 : decode cX5_askRow 58 = .ok (.iload_n 3, 1) := by decide +kernel
theorem dX5_askRow_59 : decode cX5_askRow 59 = .ok (.if_icmp .ge 27, 3) := by decide +kernel
theorem dX5_askRow_62 : decode cX5_askRow 62 = .ok (.iload 4, 2) := by decide +kernel
theorem dX5_askRow_64 : decode cX5_askRow 64 = .ok (.aload_n 0, 1) := by decide +kernel
theorem dX5_askRow_65 : decode cX5_askRow 65 = .ok (.iload_n 1, 1) := by decide +kernel
theorem dX5_askRow_66 : decode cX5_askRow 66 = .ok (.iload 5, 2) := by decide +kernel
theorem dX5_askRow_68 : decode cX5_askRow 68 = .ok (.iload_n 2, 1) := by decide +kernel
theorem dX5_askRow_69 : decode cX5_askRow 69 = .ok (.imul, 1) := by decide +kernel
theorem dX5_askRow_70 : decode cX5_askRow 70 = .ok (.iadd, 1) := by decide +kernel
theorem dX5_askRow_71 : decode cX5_askRow 71 = .ok (.bipush 20, 2) := by decide +kernel
theorem dX5_askRow_73 : decode cX5_askRow 73 = .ok (.irem, 1) := by decide +kernel
theorem dX5_askRow_74 : decode cX5_askRow 74 = .ok (.invokevirtual 185, 3) := by decide +kernel
theorem dX5_askRow_77 : decode cX5_askRow 77 = .ok (.iadd, 1) := by decide +kernel
theorem dX5_askRow_78 : decode cX5_askRow 78 = .ok (.istore 4, 2) := by decide +kernel
theorem dX5_askRow_80 : decode cX5_askRow 80 = .ok (.iinc 5 1, 3) := by decide +kernel
theorem dX5_askRow_83 : decode cX5_askRow 83 = .ok (.goto (-27), 3) := by decide +kernel
theorem dX5_askRow_86 : decode cX5_askRow 86 = .ok (.iload 4, 2) := by decide +kernel
theorem dX5_askRow_88 : decode cX5_askRow 88 = .ok (.ireturn, 1) := by decide +kernel
theorem dX5_forget_0 : decode cX5_forget 0 = .ok (.aload_n 0, 1) := by decide +kernel
theorem dX5_forget_1 : decode cX5_forget 1 = .ok (.getfield 18, 3) := by decide +kernel
theorem dX5_forget_4 : decode cX5_forget 4 = .ok (.getfield 192, 3) := by decide +kernel
theorem dX5_forget_7 : decode cX5_forget 7 = .ok (.istore_n 1, 1) := by decide +kernel
theorem dX5_forget_8 : decode cX5_forget 8 = .ok (.aload_n 0, 1) := by decide +kernel
theorem dX5_forget_9 : decode cX5_forget 9 = .ok (.getfield 18, 3) := by decide +kernel
theorem dX5_forget_12 : decode cX5_forget 12 = .ok (.iconst 0, 1) := by decide +kernel
theorem dX5_forget_13 : decode cX5_forget 13 = .ok (.putfield 192, 3) := by decide +kernel
theorem dX5_forget_16 : decode cX5_forget 16 = .ok (.aload_n 0, 1) := by decide +kernel
theorem dX5_forget_17 : decode cX5_forget 17 = .ok (.getfield 27, 3) := by decide +kernel
theorem dX5_forget_20 : decode cX5_forget 20 = .ok (.iconst 1, 1) := by decide +kernel
theorem dX5_forget_21 : decode cX5_forget 21 = .ok (.iconst (-1), 1) := by decide +kernel
theorem dX5_forget_22 : decode cX5_forget 22 = .ok (.invokevirtual 77, 3) := by decide +kernel
theorem dX5_forget_25 : decode cX5_forget 25 = .ok (.pop, 1) := by decide +kernel
theorem dX5_forget_26 : decode cX5_forget 26 = .ok (.aload_n 0, 1) := by decide +kernel
theorem dX5_forget_27 : decode cX5_forget 27 = .ok (.getfield 33, 3) := by decide +kernel
theorem dX5_forget_30 : decode cX5_forget 30 = .ok (.astore_n 2, 1) := by decide +kernel
theorem dX5_forget_31 : decode cX5_forget 31 = .ok (.aload_n 2, 1) := by decide +kernel
theorem dX5_forget_32 : decode cX5_forget 32 = .ok (.arraylength, 1) := by decide +kernel
theorem dX5_forget_33 : decode cX5_forget 33 = .ok (.istore_n 3, 1) := by decide +kernel
theorem dX5_forget_34 : decode cX5_forget 34 = .ok (.iconst 0, 1) := by decide +kernel
theorem dX5_forget_35 : decode cX5_forget 35 = .ok (.istore 4, 2) := by decide +kernel
theorem dX5_forget_37 : decode cX5_forget 37 = .ok (.iload 4, 2) := by decide +kernel
theorem dX5_forget_39 : decode cX5_forget 39 = .ok (.iload_n 3, 1) := by decide +kernel
theorem dX5_forget_40 : decode cX5_forget 40 = .ok (.if_icmp .ge 20, 3) := by decide +kernel
theorem dX5_forget_43 : decode cX5_forget 43 = .ok (.aload_n 2, 1) := by decide +kernel
theorem dX5_forget_44 : decode cX5_forget 44 = .ok (.iload 4, 2) := by decide +kernel
theorem dX5_forget_46 : decode cX5_forget 46 = .ok (.aaload, 1) := by decide +kernel
theorem dX5_forget_47 : decode cX5_forget 47 = .ok (.astore 5, 2) := by decide +kernel
theorem dX5_forget_49 : decode cX5_forget 49 = .ok (.aload 5, 2) := by decide +kernel
theorem dX5_forget_51 : decode cX5_forget 51 = .ok (.invokevirtual 193, 3) := by decide +kernel
theorem dX5_forget_54 : decode cX5_forget 54 = .ok (.iinc 4 1, 3) := by decide +kernel
theorem dX5_forget_57 : decode cX5_forget 57 = .ok (.goto (-20), 3) := by decide +kernel
theorem dX5_forget_60 : decode cX5_forget 60 = .ok (.iload_n 1, 1) := by decide +kernel
theorem dX5_forget_61 : decode cX5_forget 61 = .ok (.ireturn, 1) := by decide +kernel
theorem dX5_asked_0 : decode cX5_asked 0 = .ok (.aload_n 0, 1) := by decide +kernel
theorem dX5_asked_1 : decode cX5_asked 1 = .ok (.getfield 18, 3) := by decide +kernel
theorem dX5_asked_4 : decode cX5_asked 4 = .ok (.getfield 192, 3) := by decide +kernel
theorem dX5_asked_7 : decode cX5_asked 7 = .ok (.ireturn, 1) := by decide +kernel
theorem dX5_askedAt_0 : decode cX5_askedAt 0 = .ok (.aload_n 0, 1) := by decide +kernel
theorem dX5_askedAt_1 : decode cX5_askedAt 1 = .ok (.getfield 18, 3) := by decide +kernel
theorem dX5_askedAt_4 : decode cX5_askedAt 4 = .ok (.iload_n 1, 1) := by decide +kernel
theorem dX5_askedAt_5 : decode cX5_askedAt 5 = .ok (.invokevirtual 196, 3) := by decide +kernel
theorem dX5_askedAt_8 : decode cX5_askedAt 8 = .ok (.ifCond .eq 15, 3) := by decide +kernel
theorem dX5_askedAt_11 : decode cX5_askedAt 11 = .ok (.aload_n 0, 1) := by decide +kernel
theorem dX5_askedAt_12 : decode cX5_askedAt 12 = .ok (.getfield 18, 3) := by decide +kernel
theorem dX5_askedAt_15 : decode cX5_askedAt 15 = .ok (.getfield 199, 3) := by decide +kernel
theorem dX5_askedAt_18 : decode cX5_askedAt 18 = .ok (.iload_n 1, 1) := by decide +kernel
theorem dX5_askedAt_19 : decode cX5_askedAt 19 = .ok (.iaload, 1) := by decide +kernel
theorem dX5_askedAt_20 : decode cX5_askedAt 20 = .ok (.goto 4, 3) := by decide +kernel
theorem dX5_askedAt_23 : decode cX5_askedAt 23 = .ok (.iconst (-1), 1) := by decide +kernel
theorem dX5_askedAt_24 : decode cX5_askedAt 24 = .ok (.ireturn, 1) := by decide +kernel
theorem dX5_depthAt_0 : decode cX5_depthAt 0 = .ok (.aload_n 0, 1) := by decide +kernel
theorem dX5_depthAt_1 : decode cX5_depthAt 1 = .ok (.getfield 18, 3) := by decide +kernel
theorem dX5_depthAt_4 : decode cX5_depthAt 4 = .ok (.iload_n 1, 1) := by decide +kernel
theorem dX5_depthAt_5 : decode cX5_depthAt 5 = .ok (.invokevirtual 196, 3) := by decide +kernel
theorem dX5_depthAt_8 : decode cX5_depthAt 8 = .ok (.ifCond .eq 15, 3) := by decide +kernel
theorem dX5_depthAt_11 : decode cX5_depthAt 11 = .ok (.aload_n 0, 1) := by decide +kernel
theorem dX5_depthAt_12 : decode cX5_depthAt 12 = .ok (.getfield 18, 3) := by decide +kernel
theorem dX5_depthAt_15 : decode cX5_depthAt 15 = .ok (.getfield 202, 3) := by decide +kernel
theorem dX5_depthAt_18 : decode cX5_depthAt 18 = .ok (.iload_n 1, 1) := by decide +kernel
theorem dX5_depthAt_19 : decode cX5_depthAt 19 = .ok (.iaload, 1) := by decide +kernel
theorem dX5_depthAt_20 : decode cX5_depthAt 20 = .ok (.goto 4, 3) := by decide +kernel
theorem dX5_depthAt_23 : decode cX5_depthAt 23 = .ok (.iconst (-1), 1) := by decide +kernel
theorem dX5_depthAt_24 : decode cX5_depthAt 24 = .ok (.ireturn, 1) := by decide +kernel
theorem dX5_depth_0 : decode cX5_depth 0 = .ok (.iload_n 1, 1) := by decide +kernel
theorem dX5_depth_1 : decode cX5_depth 1 = .ok (.invokestatic 81, 3) := by decide +kernel
theorem dX5_depth_4 : decode cX5_depth 4 = .ok (.aload_n 0, 1) := by decide +kernel
theorem dX5_depth_5 : decode cX5_depth 5 = .ok (.iload_n 1, 1) := by decide +kernel
theorem dX5_depth_6 : decode cX5_depth 6 = .ok (.invokevirtual 205, 3) := by decide +kernel
theorem dX5_depth_9 : decode cX5_depth 9 = .ok (.ireturn, 1) := by decide +kernel
theorem dX5_stack_0 : decode cX5_stack 0 = .ok (.aload_n 0, 1) := by decide +kernel
theorem dX5_stack_1 : decode cX5_stack 1 = .ok (.getfield 27, 3) := by decide +kernel
theorem dX5_stack_4 : decode cX5_stack 4 = .ok (.iconst 0, 1) := by decide +kernel
theorem dX5_stack_5 : decode cX5_stack 5 = .ok (.invokevirtual 138, 3) := by decide +kernel
theorem dX5_stack_8 : decode cX5_stack 8 = .ok (.areturn, 1) := by decide +kernel
theorem dX5_kept_0 : decode cX5_kept 0 = .ok (.aload_n 0, 1) := by decide +kernel
theorem dX5_kept_1 : decode cX5_kept 1 = .ok (.iload_n 1, 1) := by decide +kernel
theorem dX5_kept_2 : decode cX5_kept 2 = .ok (.invokevirtual 208, 3) := by decide +kernel
theorem dX5_kept_5 : decode cX5_kept 5 = .ok (.getfield 212, 3) := by decide +kernel
theorem dX5_kept_8 : decode cX5_kept 8 = .ok (.iconst 0, 1) := by decide +kernel
theorem dX5_kept_9 : decode cX5_kept 9 = .ok (.invokevirtual 138, 3) := by decide +kernel
theorem dX5_kept_12 : decode cX5_kept 12 = .ok (.areturn, 1) := by decide +kernel
theorem dX5_keeps_0 : decode cX5_keeps 0 = .ok (.aload_n 0, 1) := by decide +kernel
theorem dX5_keeps_1 : decode cX5_keeps 1 = .ok (.iload_n 1, 1) := by decide +kernel
theorem dX5_keeps_2 : decode cX5_keeps 2 = .ok (.invokevirtual 208, 3) := by decide +kernel
theorem dX5_keeps_5 : decode cX5_keeps 5 = .ok (.astore_n 3, 1) := by decide +kernel
theorem dX5_keeps_6 : decode cX5_keeps 6 = .ok (.iload_n 2, 1) := by decide +kernel
theorem dX5_keeps_7 : decode cX5_keeps 7 = .ok (.invokestatic 81, 3) := by decide +kernel
theorem dX5_keeps_10 : decode cX5_keeps 10 = .ok (.aload_n 3, 1) := by decide +kernel
theorem dX5_keeps_11 : decode cX5_keeps 11 = .ok (.getfield 212, 3) := by decide +kernel
theorem dX5_keeps_14 : decode cX5_keeps 14 = .ok (.iload_n 2, 1) := by decide +kernel
theorem dX5_keeps_15 : decode cX5_keeps 15 = .ok (.invokevirtual 129, 3) := by decide +kernel
theorem dX5_keeps_18 : decode cX5_keeps 18 = .ok (.iconst (-1), 1) := by decide +kernel
theorem dX5_keeps_19 : decode cX5_keeps 19 = .ok (.if_icmp .eq 7, 3) := by decide +kernel
theorem dX5_keeps_22 : decode cX5_keeps 22 = .ok (.iconst 1, 1) := by decide +kernel
theorem dX5_keeps_23 : decode cX5_keeps 23 = .ok (.goto 4, 3) := by decide +kernel
theorem dX5_keeps_26 : decode cX5_keeps 26 = .ok (.iconst 0, 1) := by decide +kernel
theorem dX5_keeps_27 : decode cX5_keeps 27 = .ok (.ireturn, 1) := by decide +kernel
theorem dX5_takenAt_0 : decode cX5_takenAt 0 = .ok (.aload_n 0, 1) := by decide +kernel
theorem dX5_takenAt_1 : decode cX5_takenAt 1 = .ok (.iload_n 1, 1) := by decide +kernel
theorem dX5_takenAt_2 : decode cX5_takenAt 2 = .ok (.invokevirtual 208, 3) := by decide +kernel
theorem dX5_takenAt_5 : decode cX5_takenAt 5 = .ok (.astore_n 3, 1) := by decide +kernel
theorem dX5_takenAt_6 : decode cX5_takenAt 6 = .ok (.iload_n 2, 1) := by decide +kernel
theorem dX5_takenAt_7 : decode cX5_takenAt 7 = .ok (.invokestatic 81, 3) := by decide +kernel
theorem dX5_takenAt_10 : decode cX5_takenAt 10 = .ok (.aload_n 3, 1) := by decide +kernel
theorem dX5_takenAt_11 : decode cX5_takenAt 11 = .ok (.getfield 212, 3) := by decide +kernel
theorem dX5_takenAt_14 : decode cX5_takenAt 14 = .ok (.aload_n 3, 1) := by decide +kernel
theorem dX5_takenAt_15 : decode cX5_takenAt 15 = .ok (.getfield 212, 3) := by decide +kernel
theorem dX5_takenAt_18 : decode cX5_takenAt 18 = .ok (.iload_n 2, 1) := by decide +kernel
theorem dX5_takenAt_19 : decode cX5_takenAt 19 = .ok (.invokevirtual 129, 3) := by decide +kernel
theorem dX5_takenAt_22 : decode cX5_takenAt 22 = .ok (.iconst 1, 1) := by decide +kernel
theorem dX5_takenAt_23 : decode cX5_takenAt 23 = .ok (.invokevirtual 132, 3) := by decide +kernel
theorem dX5_takenAt_26 : decode cX5_takenAt 26 = .ok (.ireturn, 1) := by decide +kernel
theorem dX5_misses_0 : decode cX5_misses 0 = .ok (.aload_n 0, 1) := by decide +kernel
theorem dX5_misses_1 : decode cX5_misses 1 = .ok (.iload_n 1, 1) := by decide +kernel
theorem dX5_misses_2 : decode cX5_misses 2 = .ok (.invokevirtual 208, 3) := by decide +kernel
theorem dX5_misses_5 : decode cX5_misses 5 = .ok (.getfield 213, 3) := by decide +kernel
theorem dX5_misses_8 : decode cX5_misses 8 = .ok (.ireturn, 1) := by decide +kernel
theorem dX5_hits_0 : decode cX5_hits 0 = .ok (.aload_n 0, 1) := by decide +kernel
theorem dX5_hits_1 : decode cX5_hits 1 = .ok (.iload_n 1, 1) := by decide +kernel
theorem dX5_hits_2 : decode cX5_hits 2 = .ok (.invokevirtual 208, 3) := by decide +kernel
theorem dX5_hits_5 : decode cX5_hits 5 = .ok (.getfield 216, 3) := by decide +kernel
theorem dX5_hits_8 : decode cX5_hits 8 = .ok (.ireturn, 1) := by decide +kernel
theorem dX5_lost_0 : decode cX5_lost 0 = .ok (.aload_n 0, 1) := by decide +kernel
theorem dX5_lost_1 : decode cX5_lost 1 = .ok (.iload_n 1, 1) := by decide +kernel
theorem dX5_lost_2 : decode cX5_lost 2 = .ok (.invokevirtual 208, 3) := by decide +kernel
theorem dX5_lost_5 : decode cX5_lost 5 = .ok (.getfield 212, 3) := by decide +kernel
theorem dX5_lost_8 : decode cX5_lost 8 = .ok (.getfield 149, 3) := by decide +kernel
theorem dX5_lost_11 : decode cX5_lost 11 = .ok (.ireturn, 1) := by decide +kernel
theorem dX5_withDepth_0 : decode cX5_withDepth 0 = .ok (.aload_n 0, 1) := by decide +kernel
theorem dX5_withDepth_1 : decode cX5_withDepth 1 = .ok (.getfield 18, 3) := by decide +kernel
theorem dX5_withDepth_4 : decode cX5_withDepth 4 = .ok (.iload_n 1, 1) := by decide +kernel
theorem dX5_withDepth_5 : decode cX5_withDepth 5 = .ok (.invokevirtual 219, 3) := by decide +kernel
theorem dX5_withDepth_8 : decode cX5_withDepth 8 = .ok (.ireturn, 1) := by decide +kernel
theorem dX5_best_0 : decode cX5_best 0 = .ok (.iload_n 1, 1) := by decide +kernel
theorem dX5_best_1 : decode cX5_best 1 = .ok (.invokestatic 222, 3) := by decide +kernel
theorem dX5_best_4 : decode cX5_best 4 = .ok (.aload_n 0, 1) := by decide +kernel
theorem dX5_best_5 : decode cX5_best 5 = .ok (.getfield 18, 3) := by decide +kernel
theorem dX5_best_8 : decode cX5_best 8 = .ok (.iload_n 1, 1) := by decide +kernel
theorem dX5_best_9 : decode cX5_best 9 = .ok (.invokevirtual 225, 3) := by decide +kernel
theorem dX5_best_12 : decode cX5_best 12 = .ok (.ireturn, 1) := by decide +kernel
theorem dX5_house_0 : decode cX5_house 0 = .ok (.iload_n 1, 1) := by decide +kernel
theorem dX5_house_1 : decode cX5_house 1 = .ok (.tableswitch 66 0 4 #[35, 40, 48, 56, 61], 35) := by decide +kernel
theorem dX5_house_36 : decode cX5_house 36 = .ok (.aload_n 0, 1) := by decide +kernel
theorem dX5_house_37 : decode cX5_house 37 = .ok (.invokevirtual 228, 3) := by decide +kernel
theorem dX5_house_40 : decode cX5_house 40 = .ok (.ireturn, 1) := by decide +kernel
theorem dX5_house_41 : decode cX5_house 41 = .ok (.aload_n 0, 1) := by decide +kernel
theorem dX5_house_42 : decode cX5_house 42 = .ok (.getfield 18, 3) := by decide +kernel
theorem dX5_house_45 : decode cX5_house 45 = .ok (.getfield 192, 3) := by decide +kernel
theorem dX5_house_48 : decode cX5_house 48 = .ok (.ireturn, 1) := by decide +kernel
theorem dX5_house_49 : decode cX5_house 49 = .ok (.aload_n 0, 1) := by decide +kernel
theorem dX5_house_50 : decode cX5_house 50 = .ok (.getfield 27, 3) := by decide +kernel
theorem dX5_house_53 : decode cX5_house 53 = .ok (.getfield 126, 3) := by decide +kernel
theorem dX5_house_56 : decode cX5_house 56 = .ok (.ireturn, 1) := by decide +kernel
theorem dX5_house_57 : decode cX5_house 57 = .ok (.aload_n 0, 1) := by decide +kernel
theorem dX5_house_58 : decode cX5_house 58 = .ok (.getfield 41, 3) := by decide +kernel
theorem dX5_house_61 : decode cX5_house 61 = .ok (.ireturn, 1) := by decide +kernel
theorem dX5_house_62 : decode cX5_house 62 = .ok (.aload_n 0, 1) := by decide +kernel
theorem dX5_house_63 : decode cX5_house 63 = .ok (.getfield 45, 3) := by decide +kernel
theorem dX5_house_66 : decode cX5_house 66 = .ok (.ireturn, 1) := by decide +kernel
theorem dX5_house_67 : decode cX5_house 67 = .ok (.new 58, 3) := by decide +kernel
theorem dX5_house_70 : decode cX5_house 70 = .ok (.dup, 1) := by decide +kernel
theorem dX5_house_71 : decode cX5_house 71 = .ok (.ldc 155, 2) := by decide +kernel
theorem dX5_house_73 : decode cX5_house 73 = .ok (.invokespecial 62, 3) := by decide +kernel
theorem dX5_house_76 : decode cX5_house 76 = .ok (.athrow, 1) := by decide +kernel
theorem dX5_knock_0 : decode cX5_knock 0 = .ok (.aload_n 0, 1) := by decide +kernel
theorem dX5_knock_1 : decode cX5_knock 1 = .ok (.dup, 1) := by decide +kernel
theorem dX5_knock_2 : decode cX5_knock 2 = .ok (.getfield 45, 3) := by decide +kernel
theorem dX5_knock_5 : decode cX5_knock 5 = .ok (.iconst 1, 1) := by decide +kernel
theorem dX5_knock_6 : decode cX5_knock 6 = .ok (.iadd, 1) := by decide +kernel
theorem dX5_knock_7 : decode cX5_knock 7 = .ok (.putfield 45, 3) := by decide +kernel
theorem dX5_knock_10 : decode cX5_knock 10 = .ok (.aload_n 0, 1) := by decide +kernel
theorem dX5_knock_11 : decode cX5_knock 11 = .ok (.getfield 45, 3) := by decide +kernel
theorem dX5_knock_14 : decode cX5_knock 14 = .ok (.ireturn, 1) := by decide +kernel
theorem dX5_isSound_0 : decode cX5_isSound 0 = .ok (.iconst 0, 1) := by decide +kernel
theorem dX5_isSound_1 : decode cX5_isSound 1 = .ok (.istore_n 1, 1) := by decide +kernel
theorem dX5_isSound_2 : decode cX5_isSound 2 = .ok (.iload_n 1, 1) := by decide +kernel
theorem dX5_isSound_3 : decode cX5_isSound 3 = .ok (.bipush 6, 2) := by decide +kernel
theorem dX5_isSound_5 : decode cX5_isSound 5 = .ok (.if_icmp .ge 25, 3) := by decide +kernel
theorem dX5_isSound_8 : decode cX5_isSound 8 = .ok (.aload_n 0, 1) := by decide +kernel
theorem dX5_isSound_9 : decode cX5_isSound 9 = .ok (.getfield 37, 3) := by decide +kernel
theorem dX5_isSound_12 : decode cX5_isSound 12 = .ok (.iload_n 1, 1) := by decide +kernel
theorem dX5_isSound_13 : decode cX5_isSound 13 = .ok (.aload_n 0, 1) := by decide +kernel
theorem dX5_isSound_14 : decode cX5_isSound 14 = .ok (.getfield 18, 3) := by decide +kernel
theorem dX5_isSound_17 : decode cX5_isSound 17 = .ok (.iload_n 1, 1) := by decide +kernel
theorem dX5_isSound_18 : decode cX5_isSound 18 = .ok (.iconst 1, 1) := by decide +kernel
theorem dX5_isSound_19 : decode cX5_isSound 19 = .ok (.iadd, 1) := by decide +kernel
theorem dX5_isSound_20 : decode cX5_isSound 20 = .ok (.invokevirtual 225, 3) := by decide +kernel
theorem dX5_isSound_23 : decode cX5_isSound 23 = .ok (.iastore, 1) := by decide +kernel
theorem dX5_isSound_24 : decode cX5_isSound 24 = .ok (.iinc 1 1, 3) := by decide +kernel
theorem dX5_isSound_27 : decode cX5_isSound 27 = .ok (.goto (-25), 3) := by decide +kernel
theorem dX5_isSound_30 : decode cX5_isSound 30 = .ok (.aload_n 0, 1) := by decide +kernel
theorem dX5_isSound_31 : decode cX5_isSound 31 = .ok (.invokevirtual 231, 3) := by decide +kernel
theorem dX5_isSound_34 : decode cX5_isSound 34 = .ok (.ifCond .eq 42, 3) := by decide +kernel
theorem dX5_isSound_37 : decode cX5_isSound 37 = .ok (.aload_n 0, 1) := by decide +kernel
theorem dX5_isSound_38 : decode cX5_isSound 38 = .ok (.invokevirtual 234, 3) := by decide +kernel
theorem dX5_isSound_41 : decode cX5_isSound 41 = .ok (.ifCond .eq 35, 3) := by decide +kernel
theorem dX5_isSound_44 : decode cX5_isSound 44 = .ok (.aload_n 0, 1) := by decide +kernel
theorem dX5_isSound_45 : decode cX5_isSound 45 = .ok (.invokevirtual 237, 3) := by decide +kernel
theorem dX5_isSound_48 : decode cX5_isSound 48 = .ok (.ifCond .eq 28, 3) := by decide +kernel
theorem dX5_isSound_51 : decode cX5_isSound 51 = .ok (.aload_n 0, 1) := by decide +kernel
theorem dX5_isSound_52 : decode cX5_isSound 52 = .ok (.invokevirtual 240, 3) := by decide +kernel
theorem dX5_isSound_55 : decode cX5_isSound 55 = .ok (.ifCond .eq 21, 3) := by decide +kernel
theorem dX5_isSound_58 : decode cX5_isSound 58 = .ok (.aload_n 0, 1) := by decide +kernel
theorem dX5_isSound_59 : decode cX5_isSound 59 = .ok (.invokevirtual 243, 3) := by decide +kernel
theorem dX5_isSound_62 : decode cX5_isSound 62 = .ok (.ifCond .eq 14, 3) := by decide +kernel
theorem dX5_isSound_65 : decode cX5_isSound 65 = .ok (.aload_n 0, 1) := by decide +kernel
theorem dX5_isSound_66 : decode cX5_isSound 66 = .ok (.invokevirtual 246, 3) := by decide +kernel
theorem dX5_isSound_69 : decode cX5_isSound 69 = .ok (.ifCond .eq 7, 3) := by decide +kernel
theorem dX5_isSound_72 : decode cX5_isSound 72 = .ok (.iconst 1, 1) := by decide +kernel
theorem dX5_isSound_73 : decode cX5_isSound 73 = .ok (.goto 4, 3) := by decide +kernel
theorem dX5_isSound_76 : decode cX5_isSound 76 = .ok (.iconst 0, 1) := by decide +kernel
theorem dX5_isSound_77 : decode cX5_isSound 77 = .ok (.ireturn, 1) := by decide +kernel
theorem dX5_digest_0 : decode cX5_digest 0 = .ok (.ldc2_w 249, 3) := by decide +kernel
theorem dX5_digest_3 : decode cX5_digest 3 = .ok (.lstore_n 1, 1) := by decide +kernel
theorem dX5_digest_4 : decode cX5_digest 4 = .ok (.iconst 0, 1) := by decide +kernel
theorem dX5_digest_5 : decode cX5_digest 5 = .ok (.istore_n 3, 1) := by decide +kernel
theorem dX5_digest_6 : decode cX5_digest 6 = .ok (.iload_n 3, 1) := by decide +kernel
theorem dX5_digest_7 : decode cX5_digest 7 = .ok (.iconst 4, 1) := by decide +kernel
theorem dX5_digest_8 : decode cX5_digest 8 = .ok (.if_icmp .gt 19, 3) := by decide +kernel
theorem dX5_digest_11 : decode cX5_digest 11 = .ok (.lload_n 1, 1) := by decide +kernel
theorem dX5_digest_12 : decode cX5_digest 12 = .ok (.aload_n 0, 1) := by decide +kernel
theorem dX5_digest_13 : decode cX5_digest 13 = .ok (.iload_n 3, 1) := by decide +kernel
theorem dX5_digest_14 : decode cX5_digest 14 = .ok (.invokevirtual 251, 3) := by decide +kernel
theorem dX5_digest_17 : decode cX5_digest 17 = .ok (.invokestatic 254, 3) := by decide +kernel
theorem dX5_digest_20 : decode cX5_digest 20 = .ok (.lstore_n 1, 1) := by decide +kernel
theorem dX5_digest_21 : decode cX5_digest 21 = .ok (.iinc 3 1, 3) := by decide +kernel
theorem dX5_digest_24 : decode cX5_digest 24 = .ok (.goto (-18), 3) := by decide +kernel
theorem dX5_digest_27 : decode cX5_digest 27 = .ok (.iconst 0, 1) := by decide +kernel
theorem dX5_digest_28 : decode cX5_digest 28 = .ok (.istore_n 3, 1) := by decide +kernel
theorem dX5_digest_29 : decode cX5_digest 29 = .ok (.iload_n 3, 1) := by decide +kernel
theorem dX5_digest_30 : decode cX5_digest 30 = .ok (.iconst 4, 1) := by decide +kernel
theorem dX5_digest_31 : decode cX5_digest 31 = .ok (.if_icmp .ge 16, 3) := by decide +kernel
theorem dX5_digest_34 : decode cX5_digest 34 = .ok (.aload_n 0, 1) := by decide +kernel
theorem dX5_digest_35 : decode cX5_digest 35 = .ok (.lload_n 1, 1) := by decide +kernel
theorem dX5_digest_36 : decode cX5_digest 36 = .ok (.iload_n 3, 1) := by decide +kernel
theorem dX5_digest_37 : decode cX5_digest 37 = .ok (.invokevirtual 258, 3) := by decide +kernel
theorem dX5_digest_40 : decode cX5_digest 40 = .ok (.lstore_n 1, 1) := by decide +kernel
theorem dX5_digest_41 : decode cX5_digest 41 = .ok (.iinc 3 1, 3) := by decide +kernel
theorem dX5_digest_44 : decode cX5_digest 44 = .ok (.goto (-15), 3) := by decide +kernel
theorem dX5_digest_47 : decode cX5_digest 47 = .ok (.iconst 0, 1) := by decide +kernel
theorem dX5_digest_48 : decode cX5_digest 48 = .ok (.istore_n 3, 1) := by decide +kernel
theorem dX5_digest_49 : decode cX5_digest 49 = .ok (.iload_n 3, 1) := by decide +kernel
theorem dX5_digest_50 : decode cX5_digest 50 = .ok (.aload_n 0, 1) := by decide +kernel
theorem dX5_digest_51 : decode cX5_digest 51 = .ok (.getfield 18, 3) := by decide +kernel
theorem dX5_digest_54 : decode cX5_digest 54 = .ok (.getfield 192, 3) := by decide +kernel
theorem dX5_digest_57 : decode cX5_digest 57 = .ok (.if_icmp .ge 29, 3) := by decide +kernel
theorem dX5_digest_60 : decode cX5_digest 60 = .ok (.lload_n 1, 1) := by decide +kernel
theorem dX5_digest_61 : decode cX5_digest 61 = .ok (.aload_n 0, 1) := by decide +kernel
theorem dX5_digest_62 : decode cX5_digest 62 = .ok (.iload_n 3, 1) := by decide +kernel
theorem dX5_digest_63 : decode cX5_digest 63 = .ok (.invokevirtual 261, 3) := by decide +kernel
theorem dX5_digest_66 : decode cX5_digest 66 = .ok (.invokestatic 254, 3) := by decide +kernel
theorem dX5_digest_69 : decode cX5_digest 69 = .ok (.lstore_n 1, 1) := by decide +kernel
theorem dX5_digest_70 : decode cX5_digest 70 = .ok (.lload_n 1, 1) := by decide +kernel
theorem dX5_digest_71 : decode cX5_digest 71 = .ok (.aload_n 0, 1) := by decide +kernel
theorem dX5_digest_72 : decode cX5_digest 72 = .ok (.iload_n 3, 1) := by decide +kernel
theorem dX5_digest_73 : decode cX5_digest 73 = .ok (.invokevirtual 264, 3) := by decide +kernel
theorem dX5_digest_76 : decode cX5_digest 76 = .ok (.invokestatic 254, 3) := by decide +kernel
theorem dX5_digest_79 : decode cX5_digest 79 = .ok (.lstore_n 1, 1) := by decide +kernel
theorem dX5_digest_80 : decode cX5_digest 80 = .ok (.iinc 3 1, 3) := by decide +kernel
theorem dX5_digest_83 : decode cX5_digest 83 = .ok (.goto (-34), 3) := by decide +kernel
theorem dX5_digest_86 : decode cX5_digest 86 = .ok (.iconst 0, 1) := by decide +kernel
theorem dX5_digest_87 : decode cX5_digest 87 = .ok (.istore_n 3, 1) := by decide +kernel
theorem dX5_digest_88 : decode cX5_digest 88 = .ok (.iload_n 3, 1) := by decide +kernel
theorem dX5_digest_89 : decode cX5_digest 89 = .ok (.aload_n 0, 1) := by decide +kernel
theorem dX5_digest_90 : decode cX5_digest 90 = .ok (.getfield 27, 3) := by decide +kernel
theorem dX5_digest_93 : decode cX5_digest 93 = .ok (.getfield 126, 3) := by decide +kernel
theorem dX5_digest_96 : decode cX5_digest 96 = .ok (.if_icmp .ge 23, 3) := by decide +kernel
theorem dX5_digest_99 : decode cX5_digest 99 = .ok (.lload_n 1, 1) := by decide +kernel
theorem dX5_digest_100 : decode cX5_digest 100 = .ok (.aload_n 0, 1) := by decide +kernel
theorem dX5_digest_101 : decode cX5_digest 101 = .ok (.getfield 27, 3) := by decide +kernel
theorem dX5_digest_104 : decode cX5_digest 104 = .ok (.iload_n 3, 1) := by decide +kernel
theorem dX5_digest_105 : decode cX5_digest 105 = .ok (.iconst 0, 1) := by decide +kernel
theorem dX5_digest_106 : decode cX5_digest 106 = .ok (.invokevirtual 132, 3) := by decide +kernel
theorem dX5_digest_109 : decode cX5_digest 109 = .ok (.invokestatic 254, 3) := by decide +kernel
theorem dX5_digest_112 : decode cX5_digest 112 = .ok (.lstore_n 1, 1) := by decide +kernel
theorem dX5_digest_113 : decode cX5_digest 113 = .ok (.iinc 3 1, 3) := by decide +kernel
theorem dX5_digest_116 : decode cX5_digest 116 = .ok (.goto (-28), 3) := by decide +kernel
theorem dX5_digest_119 : decode cX5_digest 119 = .ok (.iconst 1, 1) := by decide +kernel
theorem dX5_digest_120 : decode cX5_digest 120 = .ok (.istore_n 3, 1) := by decide +kernel
theorem dX5_digest_121 : decode cX5_digest 121 = .ok (.iload_n 3, 1) := by decide +kernel
theorem dX5_digest_122 : decode cX5_digest 122 = .ok (.bipush 6, 2) := by decide +kernel
theorem dX5_digest_124 : decode cX5_digest 124 = .ok (.if_icmp .gt 16, 3) := by decide +kernel
theorem dX5_digest_127 : decode cX5_digest 127 = .ok (.aload_n 0, 1) := by decide +kernel
theorem dX5_digest_128 : decode cX5_digest 128 = .ok (.lload_n 1, 1) := by decide +kernel
theorem dX5_digest_129 : decode cX5_digest 129 = .ok (.iload_n 3, 1) := by decide +kernel
theorem dX5_digest_130 : decode cX5_digest 130 = .ok (.invokevirtual 267, 3) := by decide +kernel
theorem dX5_digest_133 : decode cX5_digest 133 = .ok (.lstore_n 1, 1) := by decide +kernel
theorem dX5_digest_134 : decode cX5_digest 134 = .ok (.iinc 3 1, 3) := by decide +kernel
theorem dX5_digest_137 : decode cX5_digest 137 = .ok (.goto (-16), 3) := by decide +kernel
theorem dX5_digest_140 : decode cX5_digest 140 = .ok (.lload_n 1, 1) := by decide +kernel
theorem dX5_digest_141 : decode cX5_digest 141 = .ok (.aload_n 0, 1) := by decide +kernel
theorem dX5_digest_142 : decode cX5_digest 142 = .ok (.invokevirtual 270, 3) := by decide +kernel
theorem dX5_digest_145 : decode cX5_digest 145 = .ok (.ifCond .eq 7, 3) := by decide +kernel
theorem dX5_digest_148 : decode cX5_digest 148 = .ok (.iconst 1, 1) := by decide +kernel
theorem dX5_digest_149 : decode cX5_digest 149 = .ok (.goto 4, 3) := by decide +kernel
theorem dX5_digest_152 : decode cX5_digest 152 = .ok (.iconst 0, 1) := by decide +kernel
theorem dX5_digest_153 : decode cX5_digest 153 = .ok (.invokestatic 254, 3) := by decide +kernel
theorem dX5_digest_156 : decode cX5_digest 156 = .ok (.lreturn, 1) := by decide +kernel
theorem dX5_mixed_0 : decode cX5_mixed 0 = .ok (.lload_n 0, 1) := by decide +kernel
theorem dX5_mixed_1 : decode cX5_mixed 1 = .ok (.ldc2_w 273, 3) := by decide +kernel
theorem dX5_mixed_4 : decode cX5_mixed 4 = .ok (.lmul, 1) := by decide +kernel
theorem dX5_mixed_5 : decode cX5_mixed 5 = .ok (.iload_n 2, 1) := by decide +kernel
theorem dX5_mixed_6 : decode cX5_mixed 6 = .ok (.i2l, 1) := by decide +kernel
theorem dX5_mixed_7 : decode cX5_mixed 7 = .ok (.ladd, 1) := by decide +kernel
theorem dX5_mixed_8 : decode cX5_mixed 8 = .ok (.lreturn, 1) := by decide +kernel
theorem dX5_mixedWithTable_0 : decode cX5_mixedWithTable 0 = .ok (.lload_n 1, 1) := by decide +kernel
theorem dX5_mixedWithTable_1 : decode cX5_mixedWithTable 1 = .ok (.lstore 4, 2) := by decide +kernel
theorem dX5_mixedWithTable_3 : decode cX5_mixedWithTable 3 = .ok (.iconst 0, 1) := by decide +kernel
theorem dX5_mixedWithTable_4 : decode cX5_mixedWithTable 4 = .ok (.istore 6, 2) := by decide +kernel
theorem dX5_mixedWithTable_6 : decode cX5_mixedWithTable 6 = .ok (.iload 6, 2) := by decide +kernel
theorem dX5_mixedWithTable_8 : decode cX5_mixedWithTable 8 = .ok (.iconst 4, 1) := by decide +kernel
theorem dX5_mixedWithTable_9 : decode cX5_mixedWithTable 9 = .ok (.if_icmp .gt 23, 3) := by decide +kernel
theorem dX5_mixedWithTable_12 : decode cX5_mixedWithTable 12 = .ok (.lload 4, 2) := by decide +kernel
theorem dX5_mixedWithTable_14 : decode cX5_mixedWithTable 14 = .ok (.aload_n 0, 1) := by decide +kernel
theorem dX5_mixedWithTable_15 : decode cX5_mixedWithTable 15 = .ok (.iload_n 3, 1) := by decide +kernel
theorem dX5_mixedWithTable_16 : decode cX5_mixedWithTable 16 = .ok (.iload 6, 2) := by decide +kernel
theorem dX5_mixedWithTable_18 : decode cX5_mixedWithTable 18 = .ok (.invokevirtual 275, 3) := by decide +kernel
theorem dX5_mixedWithTable_21 : decode cX5_mixedWithTable 21 = .ok (.invokestatic 254, 3) := by decide +kernel
theorem dX5_mixedWithTable_24 : decode cX5_mixedWithTable 24 = .ok (.lstore 4, 2) := by decide +kernel
theorem dX5_mixedWithTable_26 : decode cX5_mixedWithTable 26 = .ok (.iinc 6 1, 3) := by decide +kernel
theorem dX5_mixedWithTable_29 : decode cX5_mixedWithTable 29 = .ok (.goto (-23), 3) := by decide +kernel
theorem dX5_mixedWithTable_32 : decode cX5_mixedWithTable 32 = .ok (.iconst 0, 1) := by decide +kernel
theorem dX5_mixedWithTable_33 : decode cX5_mixedWithTable 33 = .ok (.istore 6, 2) := by decide +kernel
theorem dX5_mixedWithTable_35 : decode cX5_mixedWithTable 35 = .ok (.iload 6, 2) := by decide +kernel
theorem dX5_mixedWithTable_37 : decode cX5_mixedWithTable 37 = .ok (.aload_n 0, 1) := by decide +kernel
theorem dX5_mixedWithTable_38 : decode cX5_mixedWithTable 38 = .ok (.iload_n 3, 1) := by decide +kernel
theorem dX5_mixedWithTable_39 : decode cX5_mixedWithTable 39 = .ok (.invokevirtual 278, 3) := by decide +kernel
theorem dX5_mixedWithTable_42 : decode cX5_mixedWithTable 42 = .ok (.if_icmp .ge 23, 3) := by decide +kernel
theorem dX5_mixedWithTable_45 : decode cX5_mixedWithTable 45 = .ok (.lload 4, 2) := by decide +kernel
theorem dX5_mixedWithTable_47 : decode cX5_mixedWithTable 47 = .ok (.aload_n 0, 1) := by decide +kernel
theorem dX5_mixedWithTable_48 : decode cX5_mixedWithTable 48 = .ok (.iload_n 3, 1) := by decide +kernel
theorem dX5_mixedWithTable_49 : decode cX5_mixedWithTable 49 = .ok (.iload 6, 2) := by decide +kernel
theorem dX5_mixedWithTable_51 : decode cX5_mixedWithTable 51 = .ok (.invokevirtual 281, 3) := by decide +kernel
theorem dX5_mixedWithTable_54 : decode cX5_mixedWithTable 54 = .ok (.invokestatic 254, 3) := by decide +kernel
theorem dX5_mixedWithTable_57 : decode cX5_mixedWithTable 57 = .ok (.lstore 4, 2) := by decide +kernel
theorem dX5_mixedWithTable_59 : decode cX5_mixedWithTable 59 = .ok (.iinc 6 1, 3) := by decide +kernel
theorem dX5_mixedWithTable_62 : decode cX5_mixedWithTable 62 = .ok (.goto (-27), 3) := by decide +kernel
theorem dX5_mixedWithTable_65 : decode cX5_mixedWithTable 65 = .ok (.lload 4, 2) := by decide +kernel
theorem dX5_mixedWithTable_67 : decode cX5_mixedWithTable 67 = .ok (.aload_n 0, 1) := by decide +kernel
theorem dX5_mixedWithTable_68 : decode cX5_mixedWithTable 68 = .ok (.iload_n 3, 1) := by decide +kernel
theorem dX5_mixedWithTable_69 : decode cX5_mixedWithTable 69 = .ok (.invokevirtual 284, 3) := by decide +kernel
theorem dX5_mixedWithTable_72 : decode cX5_mixedWithTable 72 = .ok (.ifCond .eq 7, 3) := by decide +kernel
theorem dX5_mixedWithTable_75 : decode cX5_mixedWithTable 75 = .ok (.iconst 1, 1) := by decide +kernel
theorem dX5_mixedWithTable_76 : decode cX5_mixedWithTable 76 = .ok (.goto 4, 3) := by decide +kernel
theorem dX5_mixedWithTable_79 : decode cX5_mixedWithTable 79 = .ok (.iconst 0, 1) := by decide +kernel
theorem dX5_mixedWithTable_80 : decode cX5_mixedWithTable 80 = .ok (.invokestatic 254, 3) := by decide +kernel
theorem dX5_mixedWithTable_83 : decode cX5_mixedWithTable 83 = .ok (.lstore 4, 2) := by decide +kernel
theorem dX5_mixedWithTable_85 : decode cX5_mixedWithTable 85 = .ok (.lload 4, 2) := by decide +kernel
theorem dX5_mixedWithTable_87 : decode cX5_mixedWithTable 87 = .ok (.aload_n 0, 1) := by decide +kernel
theorem dX5_mixedWithTable_88 : decode cX5_mixedWithTable 88 = .ok (.iload_n 3, 1) := by decide +kernel
theorem dX5_mixedWithTable_89 : decode cX5_mixedWithTable 89 = .ok (.invokevirtual 287, 3) := by decide +kernel
theorem dX5_mixedWithTable_92 : decode cX5_mixedWithTable 92 = .ok (.ifCond .eq 7, 3) := by decide +kernel
theorem dX5_mixedWithTable_95 : decode cX5_mixedWithTable 95 = .ok (.iconst 1, 1) := by decide +kernel
theorem dX5_mixedWithTable_96 : decode cX5_mixedWithTable 96 = .ok (.goto 4, 3) := by decide +kernel
theorem dX5_mixedWithTable_99 : decode cX5_mixedWithTable 99 = .ok (.iconst 0, 1) := by decide +kernel
theorem dX5_mixedWithTable_100 : decode cX5_mixedWithTable 100 = .ok (.invokestatic 254, 3) := by decide +kernel
theorem dX5_mixedWithTable_103 : decode cX5_mixedWithTable 103 = .ok (.lreturn, 1) := by decide +kernel
theorem dX5_mixedWithKeeper_0 : decode cX5_mixedWithKeeper 0 = .ok (.lload_n 1, 1) := by decide +kernel
theorem dX5_mixedWithKeeper_1 : decode cX5_mixedWithKeeper 1 = .ok (.lstore 4, 2) := by decide +kernel
theorem dX5_mixedWithKeeper_3 : decode cX5_mixedWithKeeper 3 = .ok (.lload 4, 2) := by decide +kernel
theorem dX5_mixedWithKeeper_5 : decode cX5_mixedWithKeeper 5 = .ok (.aload_n 0, 1) := by decide +kernel
theorem dX5_mixedWithKeeper_6 : decode cX5_mixedWithKeeper 6 = .ok (.iload_n 3, 1) := by decide +kernel
theorem dX5_mixedWithKeeper_7 : decode cX5_mixedWithKeeper 7 = .ok (.invokevirtual 290, 3) := by decide +kernel
theorem dX5_mixedWithKeeper_10 : decode cX5_mixedWithKeeper 10 = .ok (.invokestatic 254, 3) := by decide +kernel
theorem dX5_mixedWithKeeper_13 : decode cX5_mixedWithKeeper 13 = .ok (.lstore 4, 2) := by decide +kernel
theorem dX5_mixedWithKeeper_15 : decode cX5_mixedWithKeeper 15 = .ok (.lload 4, 2) := by decide +kernel
theorem dX5_mixedWithKeeper_17 : decode cX5_mixedWithKeeper 17 = .ok (.aload_n 0, 1) := by decide +kernel
theorem dX5_mixedWithKeeper_18 : decode cX5_mixedWithKeeper 18 = .ok (.iload_n 3, 1) := by decide +kernel
theorem dX5_mixedWithKeeper_19 : decode cX5_mixedWithKeeper 19 = .ok (.invokevirtual 293, 3) := by decide +kernel
theorem dX5_mixedWithKeeper_22 : decode cX5_mixedWithKeeper 22 = .ok (.invokestatic 254, 3) := by decide +kernel
theorem dX5_mixedWithKeeper_25 : decode cX5_mixedWithKeeper 25 = .ok (.lstore 4, 2) := by decide +kernel
theorem dX5_mixedWithKeeper_27 : decode cX5_mixedWithKeeper 27 = .ok (.lload 4, 2) := by decide +kernel
theorem dX5_mixedWithKeeper_29 : decode cX5_mixedWithKeeper 29 = .ok (.aload_n 0, 1) := by decide +kernel
theorem dX5_mixedWithKeeper_30 : decode cX5_mixedWithKeeper 30 = .ok (.iload_n 3, 1) := by decide +kernel
theorem dX5_mixedWithKeeper_31 : decode cX5_mixedWithKeeper 31 = .ok (.invokevirtual 296, 3) := by decide +kernel
theorem dX5_mixedWithKeeper_34 : decode cX5_mixedWithKeeper 34 = .ok (.invokestatic 254, 3) := by decide +kernel
theorem dX5_mixedWithKeeper_37 : decode cX5_mixedWithKeeper 37 = .ok (.lstore 4, 2) := by decide +kernel
theorem dX5_mixedWithKeeper_39 : decode cX5_mixedWithKeeper 39 = .ok (.iconst 0, 1) := by decide +kernel
theorem dX5_mixedWithKeeper_40 : decode cX5_mixedWithKeeper 40 = .ok (.istore 6, 2) := by decide +kernel
theorem dX5_mixedWithKeeper_42 : decode cX5_mixedWithKeeper 42 = .ok (.iload 6, 2) := by decide +kernel
theorem dX5_mixedWithKeeper_44 : decode cX5_mixedWithKeeper 44 = .ok (.bipush 20, 2) := by decide +kernel
theorem dX5_mixedWithKeeper_46 : decode cX5_mixedWithKeeper 46 = .ok (.if_icmp .ge 23, 3) := by decide +kernel
theorem dX5_mixedWithKeeper_49 : decode cX5_mixedWithKeeper 49 = .ok (.lload 4, 2) := by decide +kernel
theorem dX5_mixedWithKeeper_51 : decode cX5_mixedWithKeeper 51 = .ok (.aload_n 0, 1) := by decide +kernel
theorem dX5_mixedWithKeeper_52 : decode cX5_mixedWithKeeper 52 = .ok (.iload_n 3, 1) := by decide +kernel
theorem dX5_mixedWithKeeper_53 : decode cX5_mixedWithKeeper 53 = .ok (.iload 6, 2) := by decide +kernel
theorem dX5_mixedWithKeeper_55 : decode cX5_mixedWithKeeper 55 = .ok (.invokevirtual 299, 3) := by decide +kernel
theorem dX5_mixedWithKeeper_58 : decode cX5_mixedWithKeeper 58 = .ok (.invokestatic 254, 3) := by decide +kernel
theorem dX5_mixedWithKeeper_61 : decode cX5_mixedWithKeeper 61 = .ok (.lstore 4, 2) := by decide +kernel
theorem dX5_mixedWithKeeper_63 : decode cX5_mixedWithKeeper 63 = .ok (.iinc 6 1, 3) := by decide +kernel
theorem dX5_mixedWithKeeper_66 : decode cX5_mixedWithKeeper 66 = .ok (.goto (-24), 3) := by decide +kernel
theorem dX5_mixedWithKeeper_69 : decode cX5_mixedWithKeeper 69 = .ok (.lload 4, 2) := by decide +kernel
theorem dX5_mixedWithKeeper_71 : decode cX5_mixedWithKeeper 71 = .ok (.lreturn, 1) := by decide +kernel
theorem dX5_tableOf_0 : decode cX5_tableOf 0 = .ok (.iload_n 1, 1) := by decide +kernel
theorem dX5_tableOf_1 : decode cX5_tableOf 1 = .ok (.ifCond .lt 8, 3) := by decide +kernel
theorem dX5_tableOf_4 : decode cX5_tableOf 4 = .ok (.iload_n 1, 1) := by decide +kernel
theorem dX5_tableOf_5 : decode cX5_tableOf 5 = .ok (.iconst 4, 1) := by decide +kernel
theorem dX5_tableOf_6 : decode cX5_tableOf 6 = .ok (.if_icmp .lt 14, 3) := by decide +kernel
theorem dX5_tableOf_9 : decode cX5_tableOf 9 = .ok (.new 302, 3) := by decide +kernel
theorem dX5_tableOf_12 : decode cX5_tableOf 12 = .ok (.dup, 1) := by decide +kernel
theorem dX5_tableOf_13 : decode cX5_tableOf 13 = .ok (.ldc_w 304, 3) := by decide +kernel
theorem dX5_tableOf_16 : decode cX5_tableOf 16 = .ok (.invokespecial 306, 3) := by decide +kernel
theorem dX5_tableOf_19 : decode cX5_tableOf 19 = .ok (.athrow, 1) := by decide +kernel
end
section
theorem dX5_tableOf_20 : decode cX5_tableOf 20 = .ok (.aload_n 0, 1) := by decide +kernel
theorem dX5_tableOf_21 : decode cX5_tableOf 21 = .ok (.getfield 11, 3) := by decide +kernel
theorem dX5_tableOf_24 : decode cX5_tableOf 24 = .ok (.iload_n 1, 1) := by decide +kernel
theorem dX5_tableOf_25 : decode cX5_tableOf 25 = .ok (.aaload, 1) := by decide +kernel
theorem dX5_tableOf_26 : decode cX5_tableOf 26 = .ok (.areturn, 1) := by decide +kernel
theorem dX5_keeperOf_0 : decode cX5_keeperOf 0 = .ok (.iload_n 1, 1) := by decide +kernel
theorem dX5_keeperOf_1 : decode cX5_keeperOf 1 = .ok (.invokestatic 222, 3) := by decide +kernel
theorem dX5_keeperOf_4 : decode cX5_keeperOf 4 = .ok (.aload_n 0, 1) := by decide +kernel
theorem dX5_keeperOf_5 : decode cX5_keeperOf 5 = .ok (.getfield 33, 3) := by decide +kernel
theorem dX5_keeperOf_8 : decode cX5_keeperOf 8 = .ok (.iload_n 1, 1) := by decide +kernel
theorem dX5_keeperOf_9 : decode cX5_keeperOf 9 = .ok (.iconst 1, 1) := by decide +kernel
theorem dX5_keeperOf_10 : decode cX5_keeperOf 10 = .ok (.isub, 1) := by decide +kernel
theorem dX5_keeperOf_11 : decode cX5_keeperOf 11 = .ok (.aaload, 1) := by decide +kernel
theorem dX5_keeperOf_12 : decode cX5_keeperOf 12 = .ok (.areturn, 1) := by decide +kernel
theorem dX5_demandSize_0 : decode cX5_demandSize 0 = .ok (.iload_n 0, 1) := by decide +kernel
theorem dX5_demandSize_1 : decode cX5_demandSize 1 = .ok (.iconst 1, 1) := by decide +kernel
theorem dX5_demandSize_2 : decode cX5_demandSize 2 = .ok (.if_icmp .lt 9, 3) := by decide +kernel
theorem dX5_demandSize_5 : decode cX5_demandSize 5 = .ok (.iload_n 0, 1) := by decide +kernel
theorem dX5_demandSize_6 : decode cX5_demandSize 6 = .ok (.bipush 6, 2) := by decide +kernel
theorem dX5_demandSize_8 : decode cX5_demandSize 8 = .ok (.if_icmp .le 14, 3) := by decide +kernel
theorem dX5_demandSize_11 : decode cX5_demandSize 11 = .ok (.new 58, 3) := by decide +kernel
theorem dX5_demandSize_14 : decode cX5_demandSize 14 = .ok (.dup, 1) := by decide +kernel
theorem dX5_demandSize_15 : decode cX5_demandSize 15 = .ok (.ldc_w 307, 3) := by decide +kernel
theorem dX5_demandSize_18 : decode cX5_demandSize 18 = .ok (.invokespecial 62, 3) := by decide +kernel
theorem dX5_demandSize_21 : decode cX5_demandSize 21 = .ok (.athrow, 1) := by decide +kernel
theorem dX5_demandSize_22 : decode cX5_demandSize 22 = .ok (.return_, 1) := by decide +kernel
theorem dX5_demandKey_0 : decode cX5_demandKey 0 = .ok (.iload_n 0, 1) := by decide +kernel
theorem dX5_demandKey_1 : decode cX5_demandKey 1 = .ok (.ifCond .lt 9, 3) := by decide +kernel
theorem dX5_demandKey_4 : decode cX5_demandKey 4 = .ok (.iload_n 0, 1) := by decide +kernel
theorem dX5_demandKey_5 : decode cX5_demandKey 5 = .ok (.bipush 20, 2) := by decide +kernel
theorem dX5_demandKey_7 : decode cX5_demandKey 7 = .ok (.if_icmp .lt 14, 3) := by decide +kernel
theorem dX5_demandKey_10 : decode cX5_demandKey 10 = .ok (.new 58, 3) := by decide +kernel
theorem dX5_demandKey_13 : decode cX5_demandKey 13 = .ok (.dup, 1) := by decide +kernel
theorem dX5_demandKey_14 : decode cX5_demandKey 14 = .ok (.ldc_w 309, 3) := by decide +kernel
theorem dX5_demandKey_17 : decode cX5_demandKey 17 = .ok (.invokespecial 62, 3) := by decide +kernel
theorem dX5_demandKey_20 : decode cX5_demandKey 20 = .ok (.athrow, 1) := by decide +kernel
theorem dX5_demandKey_21 : decode cX5_demandKey 21 = .ok (.return_, 1) := by decide +kernel
theorem dX5_demandValue_0 : decode cX5_demandValue 0 = .ok (.iload_n 0, 1) := by decide +kernel
theorem dX5_demandValue_1 : decode cX5_demandValue 1 = .ok (.ifCond .lt 9, 3) := by decide +kernel
theorem dX5_demandValue_4 : decode cX5_demandValue 4 = .ok (.iload_n 0, 1) := by decide +kernel
theorem dX5_demandValue_5 : decode cX5_demandValue 5 = .ok (.bipush 100, 2) := by decide +kernel
theorem dX5_demandValue_7 : decode cX5_demandValue 7 = .ok (.if_icmp .lt 14, 3) := by decide +kernel
theorem dX5_demandValue_10 : decode cX5_demandValue 10 = .ok (.new 58, 3) := by decide +kernel
theorem dX5_demandValue_13 : decode cX5_demandValue 13 = .ok (.dup, 1) := by decide +kernel
theorem dX5_demandValue_14 : decode cX5_demandValue 14 = .ok (.ldc_w 311, 3) := by decide +kernel
theorem dX5_demandValue_17 : decode cX5_demandValue 17 = .ok (.invokespecial 62, 3) := by decide +kernel
theorem dX5_demandValue_20 : decode cX5_demandValue 20 = .ok (.athrow, 1) := by decide +kernel
theorem dX5_demandValue_21 : decode cX5_demandValue 21 = .ok (.return_, 1) := by decide +kernel
theorem dX5_demandKindOfWalk_0 : decode cX5_demandKindOfWalk 0 = .ok (.iload_n 0, 1) := by decide +kernel
theorem dX5_demandKindOfWalk_1 : decode cX5_demandKindOfWalk 1 = .ok (.ifCond .lt 8, 3) := by decide +kernel
theorem dX5_demandKindOfWalk_4 : decode cX5_demandKindOfWalk 4 = .ok (.iload_n 0, 1) := by decide +kernel
theorem dX5_demandKindOfWalk_5 : decode cX5_demandKindOfWalk 5 = .ok (.iconst 2, 1) := by decide +kernel
theorem dX5_demandKindOfWalk_6 : decode cX5_demandKindOfWalk 6 = .ok (.if_icmp .le 14, 3) := by decide +kernel
theorem dX5_demandKindOfWalk_9 : decode cX5_demandKindOfWalk 9 = .ok (.new 58, 3) := by decide +kernel
theorem dX5_demandKindOfWalk_12 : decode cX5_demandKindOfWalk 12 = .ok (.dup, 1) := by decide +kernel
theorem dX5_demandKindOfWalk_13 : decode cX5_demandKindOfWalk 13 = .ok (.ldc_w 313, 3) := by decide +kernel
theorem dX5_demandKindOfWalk_16 : decode cX5_demandKindOfWalk 16 = .ok (.invokespecial 62, 3) := by decide +kernel
theorem dX5_demandKindOfWalk_19 : decode cX5_demandKindOfWalk 19 = .ok (.athrow, 1) := by decide +kernel
theorem dX5_demandKindOfWalk_20 : decode cX5_demandKindOfWalk 20 = .ok (.return_, 1) := by decide +kernel
theorem dX5_demandRoomFor_0 : decode cX5_demandRoomFor 0 = .ok (.aload_n 0, 1) := by decide +kernel
theorem dX5_demandRoomFor_1 : decode cX5_demandRoomFor 1 = .ok (.getfield 18, 3) := by decide +kernel
theorem dX5_demandRoomFor_4 : decode cX5_demandRoomFor 4 = .ok (.getfield 192, 3) := by decide +kernel
theorem dX5_demandRoomFor_7 : decode cX5_demandRoomFor 7 = .ok (.iload_n 1, 1) := by decide +kernel
theorem dX5_demandRoomFor_8 : decode cX5_demandRoomFor 8 = .ok (.iadd, 1) := by decide +kernel
theorem dX5_demandRoomFor_9 : decode cX5_demandRoomFor 9 = .ok (.bipush 60, 2) := by decide +kernel
theorem dX5_demandRoomFor_11 : decode cX5_demandRoomFor 11 = .ok (.if_icmp .le 14, 3) := by decide +kernel
theorem dX5_demandRoomFor_14 : decode cX5_demandRoomFor 14 = .ok (.new 94, 3) := by decide +kernel
theorem dX5_demandRoomFor_17 : decode cX5_demandRoomFor 17 = .ok (.dup, 1) := by decide +kernel
theorem dX5_demandRoomFor_18 : decode cX5_demandRoomFor 18 = .ok (.ldc_w 315, 3) := by decide +kernel
theorem dX5_demandRoomFor_21 : decode cX5_demandRoomFor 21 = .ok (.invokespecial 98, 3) := by decide +kernel
theorem dX5_demandRoomFor_24 : decode cX5_demandRoomFor 24 = .ok (.athrow, 1) := by decide +kernel
theorem dX5_demandRoomFor_25 : decode cX5_demandRoomFor 25 = .ok (.return_, 1) := by decide +kernel
theorem dX5_refuse_0 : decode cX5_refuse 0 = .ok (.aload_n 0, 1) := by decide +kernel
theorem dX5_refuse_1 : decode cX5_refuse 1 = .ok (.dup, 1) := by decide +kernel
theorem dX5_refuse_2 : decode cX5_refuse 2 = .ok (.getfield 41, 3) := by decide +kernel
theorem dX5_refuse_5 : decode cX5_refuse 5 = .ok (.iconst 1, 1) := by decide +kernel
theorem dX5_refuse_6 : decode cX5_refuse 6 = .ok (.iadd, 1) := by decide +kernel
theorem dX5_refuse_7 : decode cX5_refuse 7 = .ok (.putfield 41, 3) := by decide +kernel
theorem dX5_refuse_10 : decode cX5_refuse 10 = .ok (.bipush (-9), 2) := by decide +kernel
theorem dX5_refuse_12 : decode cX5_refuse 12 = .ok (.ireturn, 1) := by decide +kernel
theorem dX5_askOne_0 : decode cX5_askOne 0 = .ok (.aload_n 0, 1) := by decide +kernel
theorem dX5_askOne_1 : decode cX5_askOne 1 = .ok (.getfield 18, 3) := by decide +kernel
theorem dX5_askOne_4 : decode cX5_askOne 4 = .ok (.getfield 192, 3) := by decide +kernel
theorem dX5_askOne_7 : decode cX5_askOne 7 = .ok (.istore_n 2, 1) := by decide +kernel
theorem dX5_askOne_8 : decode cX5_askOne 8 = .ok (.aload_n 0, 1) := by decide +kernel
theorem dX5_askOne_9 : decode cX5_askOne 9 = .ok (.getfield 18, 3) := by decide +kernel
theorem dX5_askOne_12 : decode cX5_askOne 12 = .ok (.iload_n 1, 1) := by decide +kernel
theorem dX5_askOne_13 : decode cX5_askOne 13 = .ok (.aload_n 0, 1) := by decide +kernel
theorem dX5_askOne_14 : decode cX5_askOne 14 = .ok (.iload_n 1, 1) := by decide +kernel
theorem dX5_askOne_15 : decode cX5_askOne 15 = .ok (.invokevirtual 205, 3) := by decide +kernel
theorem dX5_askOne_18 : decode cX5_askOne 18 = .ok (.invokevirtual 317, 3) := by decide +kernel
theorem dX5_askOne_21 : decode cX5_askOne 21 = .ok (.iconst 0, 1) := by decide +kernel
theorem dX5_askOne_22 : decode cX5_askOne 22 = .ok (.istore_n 3, 1) := by decide +kernel
theorem dX5_askOne_23 : decode cX5_askOne 23 = .ok (.aload_n 0, 1) := by decide +kernel
theorem dX5_askOne_24 : decode cX5_askOne 24 = .ok (.getfield 33, 3) := by decide +kernel
theorem dX5_askOne_27 : decode cX5_askOne 27 = .ok (.astore 4, 2) := by decide +kernel
theorem dX5_askOne_29 : decode cX5_askOne 29 = .ok (.aload 4, 2) := by decide +kernel
theorem dX5_askOne_31 : decode cX5_askOne 31 = .ok (.arraylength, 1) := by decide +kernel
theorem dX5_askOne_32 : decode cX5_askOne 32 = .ok (.istore 5, 2) := by decide +kernel
theorem dX5_askOne_34 : decode cX5_askOne 34 = .ok (.iconst 0, 1) := by decide +kernel
theorem dX5_askOne_35 : decode cX5_askOne 35 = .ok (.istore 6, 2) := by decide +kernel
theorem dX5_askOne_37 : decode cX5_askOne 37 = .ok (.iload 6, 2) := by decide +kernel
theorem dX5_askOne_39 : decode cX5_askOne 39 = .ok (.iload 5, 2) := by decide +kernel
theorem dX5_askOne_41 : decode cX5_askOne 41 = .ok (.if_icmp .ge 29, 3) := by decide +kernel
theorem dX5_askOne_44 : decode cX5_askOne 44 = .ok (.aload 4, 2) := by decide +kernel
theorem dX5_askOne_46 : decode cX5_askOne 46 = .ok (.iload 6, 2) := by decide +kernel
theorem dX5_askOne_48 : decode cX5_askOne 48 = .ok (.aaload, 1) := by decide +kernel
theorem dX5_askOne_49 : decode cX5_askOne 49 = .ok (.astore 7, 2) := by decide +kernel
theorem dX5_askOne_51 : decode cX5_askOne 51 = .ok (.aload 7, 2) := by decide +kernel
theorem dX5_askOne_53 : decode cX5_askOne 53 = .ok (.iload_n 1, 1) := by decide +kernel
theorem dX5_askOne_54 : decode cX5_askOne 54 = .ok (.iload_n 2, 1) := by decide +kernel
theorem dX5_askOne_55 : decode cX5_askOne 55 = .ok (.invokevirtual 321, 3) := by decide +kernel
theorem dX5_askOne_58 : decode cX5_askOne 58 = .ok (.ifCond .eq 6, 3) := by decide +kernel
theorem dX5_askOne_61 : decode cX5_askOne 61 = .ok (.iinc 3 1, 3) := by decide +kernel
theorem dX5_askOne_64 : decode cX5_askOne 64 = .ok (.iinc 6 1, 3) := by decide +kernel
theorem dX5_askOne_67 : decode cX5_askOne 67 = .ok (.goto (-30), 3) := by decide +kernel
theorem dX5_askOne_70 : decode cX5_askOne 70 = .ok (.aload_n 0, 1) := by decide +kernel
theorem dX5_askOne_71 : decode cX5_askOne 71 = .ok (.getfield 27, 3) := by decide +kernel
theorem dX5_askOne_74 : decode cX5_askOne 74 = .ok (.iload_n 1, 1) := by decide +kernel
theorem dX5_askOne_75 : decode cX5_askOne 75 = .ok (.iload_n 2, 1) := by decide +kernel
theorem dX5_askOne_76 : decode cX5_askOne 76 = .ok (.invokevirtual 325, 3) := by decide +kernel
theorem dX5_askOne_79 : decode cX5_askOne 79 = .ok (.pop, 1) := by decide +kernel
theorem dX5_askOne_80 : decode cX5_askOne 80 = .ok (.iload_n 3, 1) := by decide +kernel
theorem dX5_askOne_81 : decode cX5_askOne 81 = .ok (.ireturn, 1) := by decide +kernel
theorem dX5_depthNow_0 : decode cX5_depthNow 0 = .ok (.aload_n 0, 1) := by decide +kernel
theorem dX5_depthNow_1 : decode cX5_depthNow 1 = .ok (.getfield 27, 3) := by decide +kernel
theorem dX5_depthNow_4 : decode cX5_depthNow 4 = .ok (.iload_n 1, 1) := by decide +kernel
theorem dX5_depthNow_5 : decode cX5_depthNow 5 = .ok (.invokevirtual 129, 3) := by decide +kernel
theorem dX5_depthNow_8 : decode cX5_depthNow 8 = .ok (.istore_n 2, 1) := by decide +kernel
theorem dX5_depthNow_9 : decode cX5_depthNow 9 = .ok (.iload_n 2, 1) := by decide +kernel
theorem dX5_depthNow_10 : decode cX5_depthNow 10 = .ok (.iconst (-1), 1) := by decide +kernel
theorem dX5_depthNow_11 : decode cX5_depthNow 11 = .ok (.if_icmp .ne 7, 3) := by decide +kernel
theorem dX5_depthNow_14 : decode cX5_depthNow 14 = .ok (.iconst 0, 1) := by decide +kernel
theorem dX5_depthNow_15 : decode cX5_depthNow 15 = .ok (.goto 12, 3) := by decide +kernel
theorem dX5_depthNow_18 : decode cX5_depthNow 18 = .ok (.aload_n 0, 1) := by decide +kernel
theorem dX5_depthNow_19 : decode cX5_depthNow 19 = .ok (.getfield 27, 3) := by decide +kernel
theorem dX5_depthNow_22 : decode cX5_depthNow 22 = .ok (.getfield 126, 3) := by decide +kernel
theorem dX5_depthNow_25 : decode cX5_depthNow 25 = .ok (.iload_n 2, 1) := by decide +kernel
theorem dX5_depthNow_26 : decode cX5_depthNow 26 = .ok (.isub, 1) := by decide +kernel
theorem dX5_depthNow_27 : decode cX5_depthNow 27 = .ok (.ireturn, 1) := by decide +kernel
theorem dX5_pairsOfTables_0 : decode cX5_pairsOfTables 0 = .ok (.iconst 0, 1) := by decide +kernel
theorem dX5_pairsOfTables_1 : decode cX5_pairsOfTables 1 = .ok (.istore_n 1, 1) := by decide +kernel
theorem dX5_pairsOfTables_2 : decode cX5_pairsOfTables 2 = .ok (.aload_n 0, 1) := by decide +kernel
theorem dX5_pairsOfTables_3 : decode cX5_pairsOfTables 3 = .ok (.getfield 11, 3) := by decide +kernel
theorem dX5_pairsOfTables_6 : decode cX5_pairsOfTables 6 = .ok (.astore_n 2, 1) := by decide +kernel
theorem dX5_pairsOfTables_7 : decode cX5_pairsOfTables 7 = .ok (.aload_n 2, 1) := by decide +kernel
theorem dX5_pairsOfTables_8 : decode cX5_pairsOfTables 8 = .ok (.arraylength, 1) := by decide +kernel
theorem dX5_pairsOfTables_9 : decode cX5_pairsOfTables 9 = .ok (.istore_n 3, 1) := by decide +kernel
theorem dX5_pairsOfTables_10 : decode cX5_pairsOfTables 10 = .ok (.iconst 0, 1) := by decide +kernel
theorem dX5_pairsOfTables_11 : decode cX5_pairsOfTables 11 = .ok (.istore 4, 2) := by decide +kernel
theorem dX5_pairsOfTables_13 : decode cX5_pairsOfTables 13 = .ok (.iload 4, 2) := by decide +kernel
theorem dX5_pairsOfTables_15 : decode cX5_pairsOfTables 15 = .ok (.iload_n 3, 1) := by decide +kernel
theorem dX5_pairsOfTables_16 : decode cX5_pairsOfTables 16 = .ok (.if_icmp .ge 26, 3) := by decide +kernel
theorem dX5_pairsOfTables_19 : decode cX5_pairsOfTables 19 = .ok (.aload_n 2, 1) := by decide +kernel
theorem dX5_pairsOfTables_20 : decode cX5_pairsOfTables 20 = .ok (.iload 4, 2) := by decide +kernel
theorem dX5_pairsOfTables_22 : decode cX5_pairsOfTables 22 = .ok (.aaload, 1) := by decide +kernel
theorem dX5_pairsOfTables_23 : decode cX5_pairsOfTables 23 = .ok (.astore 5, 2) := by decide +kernel
theorem dX5_pairsOfTables_25 : decode cX5_pairsOfTables 25 = .ok (.iload_n 1, 1) := by decide +kernel
theorem dX5_pairsOfTables_26 : decode cX5_pairsOfTables 26 = .ok (.aload 5, 2) := by decide +kernel
theorem dX5_pairsOfTables_28 : decode cX5_pairsOfTables 28 = .ok (.getfield 74, 3) := by decide +kernel
theorem dX5_pairsOfTables_31 : decode cX5_pairsOfTables 31 = .ok (.getfield 126, 3) := by decide +kernel
theorem dX5_pairsOfTables_34 : decode cX5_pairsOfTables 34 = .ok (.iadd, 1) := by decide +kernel
theorem dX5_pairsOfTables_35 : decode cX5_pairsOfTables 35 = .ok (.istore_n 1, 1) := by decide +kernel
theorem dX5_pairsOfTables_36 : decode cX5_pairsOfTables 36 = .ok (.iinc 4 1, 3) := by decide +kernel
theorem dX5_pairsOfTables_39 : decode cX5_pairsOfTables 39 = .ok (.goto (-26), 3) := by decide +kernel
theorem dX5_pairsOfTables_42 : decode cX5_pairsOfTables 42 = .ok (.iload_n 1, 1) := by decide +kernel
theorem dX5_pairsOfTables_43 : decode cX5_pairsOfTables 43 = .ok (.ireturn, 1) := by decide +kernel
theorem dX5_isNoTableAboveMost_0 : decode cX5_isNoTableAboveMost 0 = .ok (.aload_n 0, 1) := by decide +kernel
theorem dX5_isNoTableAboveMost_1 : decode cX5_isNoTableAboveMost 1 = .ok (.getfield 11, 3) := by decide +kernel
theorem dX5_isNoTableAboveMost_4 : decode cX5_isNoTableAboveMost 4 = .ok (.astore_n 1, 1) := by decide +kernel
theorem dX5_isNoTableAboveMost_5 : decode cX5_isNoTableAboveMost 5 = .ok (.aload_n 1, 1) := by decide +kernel
theorem dX5_isNoTableAboveMost_6 : decode cX5_isNoTableAboveMost 6 = .ok (.arraylength, 1) := by decide +kernel
theorem dX5_isNoTableAboveMost_7 : decode cX5_isNoTableAboveMost 7 = .ok (.istore_n 2, 1) := by decide +kernel
theorem dX5_isNoTableAboveMost_8 : decode cX5_isNoTableAboveMost 8 = .ok (.iconst 0, 1) := by decide +kernel
theorem dX5_isNoTableAboveMost_9 : decode cX5_isNoTableAboveMost 9 = .ok (.istore_n 3, 1) := by decide +kernel
theorem dX5_isNoTableAboveMost_10 : decode cX5_isNoTableAboveMost 10 = .ok (.iload_n 3, 1) := by decide +kernel
theorem dX5_isNoTableAboveMost_11 : decode cX5_isNoTableAboveMost 11 = .ok (.iload_n 2, 1) := by decide +kernel
theorem dX5_isNoTableAboveMost_12 : decode cX5_isNoTableAboveMost 12 = .ok (.if_icmp .ge 27, 3) := by decide +kernel
theorem dX5_isNoTableAboveMost_15 : decode cX5_isNoTableAboveMost 15 = .ok (.aload_n 1, 1) := by decide +kernel
theorem dX5_isNoTableAboveMost_16 : decode cX5_isNoTableAboveMost 16 = .ok (.iload_n 3, 1) := by decide +kernel
theorem dX5_isNoTableAboveMost_17 : decode cX5_isNoTableAboveMost 17 = .ok (.aaload, 1) := by decide +kernel
theorem dX5_isNoTableAboveMost_18 : decode cX5_isNoTableAboveMost 18 = .ok (.astore 4, 2) := by decide +kernel
theorem dX5_isNoTableAboveMost_20 : decode cX5_isNoTableAboveMost 20 = .ok (.aload 4, 2) := by decide +kernel
theorem dX5_isNoTableAboveMost_22 : decode cX5_isNoTableAboveMost 22 = .ok (.getfield 74, 3) := by decide +kernel
theorem dX5_isNoTableAboveMost_25 : decode cX5_isNoTableAboveMost 25 = .ok (.invokevirtual 328, 3) := by decide +kernel
theorem dX5_isNoTableAboveMost_28 : decode cX5_isNoTableAboveMost 28 = .ok (.ifCond .eq 5, 3) := by decide +kernel
theorem dX5_isNoTableAboveMost_31 : decode cX5_isNoTableAboveMost 31 = .ok (.iconst 0, 1) := by decide +kernel
theorem dX5_isNoTableAboveMost_32 : decode cX5_isNoTableAboveMost 32 = .ok (.ireturn, 1) := by decide +kernel
theorem dX5_isNoTableAboveMost_33 : decode cX5_isNoTableAboveMost 33 = .ok (.iinc 3 1, 3) := by decide +kernel
theorem dX5_isNoTableAboveMost_36 : decode cX5_isNoTableAboveMost 36 = .ok (.goto (-26), 3) := by decide +kernel
theorem dX5_isNoTableAboveMost_39 : decode cX5_isNoTableAboveMost 39 = .ok (.aload_n 0, 1) := by decide +kernel
theorem dX5_isNoTableAboveMost_40 : decode cX5_isNoTableAboveMost 40 = .ok (.getfield 33, 3) := by decide +kernel
theorem dX5_isNoTableAboveMost_43 : decode cX5_isNoTableAboveMost 43 = .ok (.astore_n 1, 1) := by decide +kernel
theorem dX5_isNoTableAboveMost_44 : decode cX5_isNoTableAboveMost 44 = .ok (.aload_n 1, 1) := by decide +kernel
theorem dX5_isNoTableAboveMost_45 : decode cX5_isNoTableAboveMost 45 = .ok (.arraylength, 1) := by decide +kernel
theorem dX5_isNoTableAboveMost_46 : decode cX5_isNoTableAboveMost 46 = .ok (.istore_n 2, 1) := by decide +kernel
theorem dX5_isNoTableAboveMost_47 : decode cX5_isNoTableAboveMost 47 = .ok (.iconst 0, 1) := by decide +kernel
theorem dX5_isNoTableAboveMost_48 : decode cX5_isNoTableAboveMost 48 = .ok (.istore_n 3, 1) := by decide +kernel
theorem dX5_isNoTableAboveMost_49 : decode cX5_isNoTableAboveMost 49 = .ok (.iload_n 3, 1) := by decide +kernel
theorem dX5_isNoTableAboveMost_50 : decode cX5_isNoTableAboveMost 50 = .ok (.iload_n 2, 1) := by decide +kernel
theorem dX5_isNoTableAboveMost_51 : decode cX5_isNoTableAboveMost 51 = .ok (.if_icmp .ge 27, 3) := by decide +kernel
theorem dX5_isNoTableAboveMost_54 : decode cX5_isNoTableAboveMost 54 = .ok (.aload_n 1, 1) := by decide +kernel
theorem dX5_isNoTableAboveMost_55 : decode cX5_isNoTableAboveMost 55 = .ok (.iload_n 3, 1) := by decide +kernel
theorem dX5_isNoTableAboveMost_56 : decode cX5_isNoTableAboveMost 56 = .ok (.aaload, 1) := by decide +kernel
theorem dX5_isNoTableAboveMost_57 : decode cX5_isNoTableAboveMost 57 = .ok (.astore 4, 2) := by decide +kernel
theorem dX5_isNoTableAboveMost_59 : decode cX5_isNoTableAboveMost 59 = .ok (.aload 4, 2) := by decide +kernel
theorem dX5_isNoTableAboveMost_61 : decode cX5_isNoTableAboveMost 61 = .ok (.getfield 212, 3) := by decide +kernel
theorem dX5_isNoTableAboveMost_64 : decode cX5_isNoTableAboveMost 64 = .ok (.invokevirtual 328, 3) := by decide +kernel
theorem dX5_isNoTableAboveMost_67 : decode cX5_isNoTableAboveMost 67 = .ok (.ifCond .eq 5, 3) := by decide +kernel
theorem dX5_isNoTableAboveMost_70 : decode cX5_isNoTableAboveMost 70 = .ok (.iconst 0, 1) := by decide +kernel
theorem dX5_isNoTableAboveMost_71 : decode cX5_isNoTableAboveMost 71 = .ok (.ireturn, 1) := by decide +kernel
theorem dX5_isNoTableAboveMost_72 : decode cX5_isNoTableAboveMost 72 = .ok (.iinc 3 1, 3) := by decide +kernel
theorem dX5_isNoTableAboveMost_75 : decode cX5_isNoTableAboveMost 75 = .ok (.goto (-26), 3) := by decide +kernel
theorem dX5_isNoTableAboveMost_78 : decode cX5_isNoTableAboveMost 78 = .ok (.iconst 1, 1) := by decide +kernel
theorem dX5_isNoTableAboveMost_79 : decode cX5_isNoTableAboveMost 79 = .ok (.ireturn, 1) := by decide +kernel
theorem dX5_areKeepersLastOfStack_0 : decode cX5_areKeepersLastOfStack 0 = .ok (.aload_n 0, 1) := by decide +kernel
theorem dX5_areKeepersLastOfStack_1 : decode cX5_areKeepersLastOfStack 1 = .ok (.getfield 33, 3) := by decide +kernel
theorem dX5_areKeepersLastOfStack_4 : decode cX5_areKeepersLastOfStack 4 = .ok (.astore_n 1, 1) := by decide +kernel
theorem dX5_areKeepersLastOfStack_5 : decode cX5_areKeepersLastOfStack 5 = .ok (.aload_n 1, 1) := by decide +kernel
theorem dX5_areKeepersLastOfStack_6 : decode cX5_areKeepersLastOfStack 6 = .ok (.arraylength, 1) := by decide +kernel
theorem dX5_areKeepersLastOfStack_7 : decode cX5_areKeepersLastOfStack 7 = .ok (.istore_n 2, 1) := by decide +kernel
theorem dX5_areKeepersLastOfStack_8 : decode cX5_areKeepersLastOfStack 8 = .ok (.iconst 0, 1) := by decide +kernel
theorem dX5_areKeepersLastOfStack_9 : decode cX5_areKeepersLastOfStack 9 = .ok (.istore_n 3, 1) := by decide +kernel
theorem dX5_areKeepersLastOfStack_10 : decode cX5_areKeepersLastOfStack 10 = .ok (.iload_n 3, 1) := by decide +kernel
theorem dX5_areKeepersLastOfStack_11 : decode cX5_areKeepersLastOfStack 11 = .ok (.iload_n 2, 1) := by decide +kernel
theorem dX5_areKeepersLastOfStack_12 : decode cX5_areKeepersLastOfStack 12 = .ok (.if_icmp .ge 31, 3) := by decide +kernel
theorem dX5_areKeepersLastOfStack_15 : decode cX5_areKeepersLastOfStack 15 = .ok (.aload_n 1, 1) := by decide +kernel
theorem dX5_areKeepersLastOfStack_16 : decode cX5_areKeepersLastOfStack 16 = .ok (.iload_n 3, 1) := by decide +kernel
theorem dX5_areKeepersLastOfStack_17 : decode cX5_areKeepersLastOfStack 17 = .ok (.aaload, 1) := by decide +kernel
theorem dX5_areKeepersLastOfStack_18 : decode cX5_areKeepersLastOfStack 18 = .ok (.astore 4, 2) := by decide +kernel
theorem dX5_areKeepersLastOfStack_20 : decode cX5_areKeepersLastOfStack 20 = .ok (.aload 4, 2) := by decide +kernel
theorem dX5_areKeepersLastOfStack_22 : decode cX5_areKeepersLastOfStack 22 = .ok (.getfield 212, 3) := by decide +kernel
theorem dX5_areKeepersLastOfStack_25 : decode cX5_areKeepersLastOfStack 25 = .ok (.aload_n 0, 1) := by decide +kernel
theorem dX5_areKeepersLastOfStack_26 : decode cX5_areKeepersLastOfStack 26 = .ok (.getfield 27, 3) := by decide +kernel
theorem dX5_areKeepersLastOfStack_29 : decode cX5_areKeepersLastOfStack 29 = .ok (.invokevirtual 331, 3) := by decide +kernel
theorem dX5_areKeepersLastOfStack_32 : decode cX5_areKeepersLastOfStack 32 = .ok (.ifCond .ne 5, 3) := by decide +kernel
theorem dX5_areKeepersLastOfStack_35 : decode cX5_areKeepersLastOfStack 35 = .ok (.iconst 0, 1) := by decide +kernel
theorem dX5_areKeepersLastOfStack_36 : decode cX5_areKeepersLastOfStack 36 = .ok (.ireturn, 1) := by decide +kernel
theorem dX5_areKeepersLastOfStack_37 : decode cX5_areKeepersLastOfStack 37 = .ok (.iinc 3 1, 3) := by decide +kernel
theorem dX5_areKeepersLastOfStack_40 : decode cX5_areKeepersLastOfStack 40 = .ok (.goto (-30), 3) := by decide +kernel
theorem dX5_areKeepersLastOfStack_43 : decode cX5_areKeepersLastOfStack 43 = .ok (.iconst 1, 1) := by decide +kernel
theorem dX5_areKeepersLastOfStack_44 : decode cX5_areKeepersLastOfStack 44 = .ok (.ireturn, 1) := by decide +kernel
theorem dX5_areMissesByDepth_0 : decode cX5_areMissesByDepth 0 = .ok (.aload_n 0, 1) := by decide +kernel
theorem dX5_areMissesByDepth_1 : decode cX5_areMissesByDepth 1 = .ok (.getfield 33, 3) := by decide +kernel
theorem dX5_areMissesByDepth_4 : decode cX5_areMissesByDepth 4 = .ok (.astore_n 1, 1) := by decide +kernel
theorem dX5_areMissesByDepth_5 : decode cX5_areMissesByDepth 5 = .ok (.aload_n 1, 1) := by decide +kernel
theorem dX5_areMissesByDepth_6 : decode cX5_areMissesByDepth 6 = .ok (.arraylength, 1) := by decide +kernel
theorem dX5_areMissesByDepth_7 : decode cX5_areMissesByDepth 7 = .ok (.istore_n 2, 1) := by decide +kernel
theorem dX5_areMissesByDepth_8 : decode cX5_areMissesByDepth 8 = .ok (.iconst 0, 1) := by decide +kernel
theorem dX5_areMissesByDepth_9 : decode cX5_areMissesByDepth 9 = .ok (.istore_n 3, 1) := by decide +kernel
theorem dX5_areMissesByDepth_10 : decode cX5_areMissesByDepth 10 = .ok (.iload_n 3, 1) := by decide +kernel
theorem dX5_areMissesByDepth_11 : decode cX5_areMissesByDepth 11 = .ok (.iload_n 2, 1) := by decide +kernel
theorem dX5_areMissesByDepth_12 : decode cX5_areMissesByDepth 12 = .ok (.if_icmp .ge 39, 3) := by decide +kernel
theorem dX5_areMissesByDepth_15 : decode cX5_areMissesByDepth 15 = .ok (.aload_n 1, 1) := by decide +kernel
theorem dX5_areMissesByDepth_16 : decode cX5_areMissesByDepth 16 = .ok (.iload_n 3, 1) := by decide +kernel
theorem dX5_areMissesByDepth_17 : decode cX5_areMissesByDepth 17 = .ok (.aaload, 1) := by decide +kernel
theorem dX5_areMissesByDepth_18 : decode cX5_areMissesByDepth 18 = .ok (.astore 4, 2) := by decide +kernel
theorem dX5_areMissesByDepth_20 : decode cX5_areMissesByDepth 20 = .ok (.aload 4, 2) := by decide +kernel
theorem dX5_areMissesByDepth_22 : decode cX5_areMissesByDepth 22 = .ok (.getfield 213, 3) := by decide +kernel
theorem dX5_areMissesByDepth_25 : decode cX5_areMissesByDepth 25 = .ok (.aload_n 0, 1) := by decide +kernel
theorem dX5_areMissesByDepth_26 : decode cX5_areMissesByDepth 26 = .ok (.getfield 18, 3) := by decide +kernel
theorem dX5_areMissesByDepth_29 : decode cX5_areMissesByDepth 29 = .ok (.aload 4, 2) := by decide +kernel
theorem dX5_areMissesByDepth_31 : decode cX5_areMissesByDepth 31 = .ok (.getfield 212, 3) := by decide +kernel
theorem dX5_areMissesByDepth_34 : decode cX5_areMissesByDepth 34 = .ok (.getfield 91, 3) := by decide +kernel
theorem dX5_areMissesByDepth_37 : decode cX5_areMissesByDepth 37 = .ok (.invokevirtual 335, 3) := by decide +kernel
theorem dX5_areMissesByDepth_40 : decode cX5_areMissesByDepth 40 = .ok (.if_icmp .eq 5, 3) := by decide +kernel
theorem dX5_areMissesByDepth_43 : decode cX5_areMissesByDepth 43 = .ok (.iconst 0, 1) := by decide +kernel
theorem dX5_areMissesByDepth_44 : decode cX5_areMissesByDepth 44 = .ok (.ireturn, 1) := by decide +kernel
theorem dX5_areMissesByDepth_45 : decode cX5_areMissesByDepth 45 = .ok (.iinc 3 1, 3) := by decide +kernel
theorem dX5_areMissesByDepth_48 : decode cX5_areMissesByDepth 48 = .ok (.goto (-38), 3) := by decide +kernel
theorem dX5_areMissesByDepth_51 : decode cX5_areMissesByDepth 51 = .ok (.iconst 1, 1) := by decide +kernel
theorem dX5_areMissesByDepth_52 : decode cX5_areMissesByDepth 52 = .ok (.ireturn, 1) := by decide +kernel
theorem dX5_areBestsWithinMisses_0 : decode cX5_areBestsWithinMisses 0 = .ok (.iconst 0, 1) := by decide +kernel
theorem dX5_areBestsWithinMisses_1 : decode cX5_areBestsWithinMisses 1 = .ok (.istore_n 1, 1) := by decide +kernel
theorem dX5_areBestsWithinMisses_2 : decode cX5_areBestsWithinMisses 2 = .ok (.iload_n 1, 1) := by decide +kernel
theorem dX5_areBestsWithinMisses_3 : decode cX5_areBestsWithinMisses 3 = .ok (.bipush 6, 2) := by decide +kernel
theorem dX5_areBestsWithinMisses_5 : decode cX5_areBestsWithinMisses 5 = .ok (.if_icmp .ge 29, 3) := by decide +kernel
theorem dX5_areBestsWithinMisses_8 : decode cX5_areBestsWithinMisses 8 = .ok (.aload_n 0, 1) := by decide +kernel
theorem dX5_areBestsWithinMisses_9 : decode cX5_areBestsWithinMisses 9 = .ok (.getfield 37, 3) := by decide +kernel
theorem dX5_areBestsWithinMisses_12 : decode cX5_areBestsWithinMisses 12 = .ok (.iload_n 1, 1) := by decide +kernel
theorem dX5_areBestsWithinMisses_13 : decode cX5_areBestsWithinMisses 13 = .ok (.iaload, 1) := by decide +kernel
theorem dX5_areBestsWithinMisses_14 : decode cX5_areBestsWithinMisses 14 = .ok (.aload_n 0, 1) := by decide +kernel
theorem dX5_areBestsWithinMisses_15 : decode cX5_areBestsWithinMisses 15 = .ok (.getfield 33, 3) := by decide +kernel
theorem dX5_areBestsWithinMisses_18 : decode cX5_areBestsWithinMisses 18 = .ok (.iload_n 1, 1) := by decide +kernel
theorem dX5_areBestsWithinMisses_19 : decode cX5_areBestsWithinMisses 19 = .ok (.aaload, 1) := by decide +kernel
theorem dX5_areBestsWithinMisses_20 : decode cX5_areBestsWithinMisses 20 = .ok (.getfield 213, 3) := by decide +kernel
theorem dX5_areBestsWithinMisses_23 : decode cX5_areBestsWithinMisses 23 = .ok (.if_icmp .le 5, 3) := by decide +kernel
theorem dX5_areBestsWithinMisses_26 : decode cX5_areBestsWithinMisses 26 = .ok (.iconst 0, 1) := by decide +kernel
theorem dX5_areBestsWithinMisses_27 : decode cX5_areBestsWithinMisses 27 = .ok (.ireturn, 1) := by decide +kernel
theorem dX5_areBestsWithinMisses_28 : decode cX5_areBestsWithinMisses 28 = .ok (.iinc 1 1, 3) := by decide +kernel
theorem dX5_areBestsWithinMisses_31 : decode cX5_areBestsWithinMisses 31 = .ok (.goto (-29), 3) := by decide +kernel
theorem dX5_areBestsWithinMisses_34 : decode cX5_areBestsWithinMisses 34 = .ok (.iconst 1, 1) := by decide +kernel
theorem dX5_areBestsWithinMisses_35 : decode cX5_areBestsWithinMisses 35 = .ok (.ireturn, 1) := by decide +kernel
theorem dX5_isNoneGrowingWithSize_0 : decode cX5_isNoneGrowingWithSize 0 = .ok (.iconst 1, 1) := by decide +kernel
theorem dX5_isNoneGrowingWithSize_1 : decode cX5_isNoneGrowingWithSize 1 = .ok (.istore_n 1, 1) := by decide +kernel
theorem dX5_isNoneGrowingWithSize_2 : decode cX5_isNoneGrowingWithSize 2 = .ok (.iload_n 1, 1) := by decide +kernel
theorem dX5_isNoneGrowingWithSize_3 : decode cX5_isNoneGrowingWithSize 3 = .ok (.bipush 6, 2) := by decide +kernel
theorem dX5_isNoneGrowingWithSize_5 : decode cX5_isNoneGrowingWithSize 5 = .ok (.if_icmp .ge 51, 3) := by decide +kernel
theorem dX5_isNoneGrowingWithSize_8 : decode cX5_isNoneGrowingWithSize 8 = .ok (.aload_n 0, 1) := by decide +kernel
theorem dX5_isNoneGrowingWithSize_9 : decode cX5_isNoneGrowingWithSize 9 = .ok (.getfield 33, 3) := by decide +kernel
theorem dX5_isNoneGrowingWithSize_12 : decode cX5_isNoneGrowingWithSize 12 = .ok (.iload_n 1, 1) := by decide +kernel
theorem dX5_isNoneGrowingWithSize_13 : decode cX5_isNoneGrowingWithSize 13 = .ok (.aaload, 1) := by decide +kernel
theorem dX5_isNoneGrowingWithSize_14 : decode cX5_isNoneGrowingWithSize 14 = .ok (.getfield 213, 3) := by decide +kernel
theorem dX5_isNoneGrowingWithSize_17 : decode cX5_isNoneGrowingWithSize 17 = .ok (.aload_n 0, 1) := by decide +kernel
theorem dX5_isNoneGrowingWithSize_18 : decode cX5_isNoneGrowingWithSize 18 = .ok (.getfield 33, 3) := by decide +kernel
theorem dX5_isNoneGrowingWithSize_21 : decode cX5_isNoneGrowingWithSize 21 = .ok (.iload_n 1, 1) := by decide +kernel
theorem dX5_isNoneGrowingWithSize_22 : decode cX5_isNoneGrowingWithSize 22 = .ok (.iconst 1, 1) := by decide +kernel
theorem dX5_isNoneGrowingWithSize_23 : decode cX5_isNoneGrowingWithSize 23 = .ok (.isub, 1) := by decide +kernel
theorem dX5_isNoneGrowingWithSize_24 : decode cX5_isNoneGrowingWithSize 24 = .ok (.aaload, 1) := by decide +kernel
theorem dX5_isNoneGrowingWithSize_25 : decode cX5_isNoneGrowingWithSize 25 = .ok (.getfield 213, 3) := by decide +kernel
theorem dX5_isNoneGrowingWithSize_28 : decode cX5_isNoneGrowingWithSize 28 = .ok (.if_icmp .gt 20, 3) := by decide +kernel
theorem dX5_isNoneGrowingWithSize_31 : decode cX5_isNoneGrowingWithSize 31 = .ok (.aload_n 0, 1) := by decide +kernel
theorem dX5_isNoneGrowingWithSize_32 : decode cX5_isNoneGrowingWithSize 32 = .ok (.getfield 37, 3) := by decide +kernel
theorem dX5_isNoneGrowingWithSize_35 : decode cX5_isNoneGrowingWithSize 35 = .ok (.iload_n 1, 1) := by decide +kernel
theorem dX5_isNoneGrowingWithSize_36 : decode cX5_isNoneGrowingWithSize 36 = .ok (.iaload, 1) := by decide +kernel
theorem dX5_isNoneGrowingWithSize_37 : decode cX5_isNoneGrowingWithSize 37 = .ok (.aload_n 0, 1) := by decide +kernel
theorem dX5_isNoneGrowingWithSize_38 : decode cX5_isNoneGrowingWithSize 38 = .ok (.getfield 37, 3) := by decide +kernel
theorem dX5_isNoneGrowingWithSize_41 : decode cX5_isNoneGrowingWithSize 41 = .ok (.iload_n 1, 1) := by decide +kernel
theorem dX5_isNoneGrowingWithSize_42 : decode cX5_isNoneGrowingWithSize 42 = .ok (.iconst 1, 1) := by decide +kernel
theorem dX5_isNoneGrowingWithSize_43 : decode cX5_isNoneGrowingWithSize 43 = .ok (.isub, 1) := by decide +kernel
theorem dX5_isNoneGrowingWithSize_44 : decode cX5_isNoneGrowingWithSize 44 = .ok (.iaload, 1) := by decide +kernel
theorem dX5_isNoneGrowingWithSize_45 : decode cX5_isNoneGrowingWithSize 45 = .ok (.if_icmp .le 5, 3) := by decide +kernel
theorem dX5_isNoneGrowingWithSize_48 : decode cX5_isNoneGrowingWithSize 48 = .ok (.iconst 0, 1) := by decide +kernel
theorem dX5_isNoneGrowingWithSize_49 : decode cX5_isNoneGrowingWithSize 49 = .ok (.ireturn, 1) := by decide +kernel
theorem dX5_isNoneGrowingWithSize_50 : decode cX5_isNoneGrowingWithSize 50 = .ok (.iinc 1 1, 3) := by decide +kernel
theorem dX5_isNoneGrowingWithSize_53 : decode cX5_isNoneGrowingWithSize 53 = .ok (.goto (-51), 3) := by decide +kernel
theorem dX5_isNoneGrowingWithSize_56 : decode cX5_isNoneGrowingWithSize 56 = .ok (.iconst 1, 1) := by decide +kernel
theorem dX5_isNoneGrowingWithSize_57 : decode cX5_isNoneGrowingWithSize 57 = .ok (.ireturn, 1) := by decide +kernel
theorem dX5_isTheoremKept_0 : decode cX5_isTheoremKept 0 = .ok (.iconst 1, 1) := by decide +kernel
theorem dX5_isTheoremKept_1 : decode cX5_isTheoremKept 1 = .ok (.istore_n 1, 1) := by decide +kernel
theorem dX5_isTheoremKept_2 : decode cX5_isTheoremKept 2 = .ok (.iload_n 1, 1) := by decide +kernel
theorem dX5_isTheoremKept_3 : decode cX5_isTheoremKept 3 = .ok (.bipush 6, 2) := by decide +kernel
theorem dX5_isTheoremKept_5 : decode cX5_isTheoremKept 5 = .ok (.if_icmp .gt 54, 3) := by decide +kernel
theorem dX5_isTheoremKept_8 : decode cX5_isTheoremKept 8 = .ok (.iconst 1, 1) := by decide +kernel
theorem dX5_isTheoremKept_9 : decode cX5_isTheoremKept 9 = .ok (.istore_n 2, 1) := by decide +kernel
theorem dX5_isTheoremKept_10 : decode cX5_isTheoremKept 10 = .ok (.iload_n 2, 1) := by decide +kernel
theorem dX5_isTheoremKept_11 : decode cX5_isTheoremKept 11 = .ok (.iload_n 1, 1) := by decide +kernel
theorem dX5_isTheoremKept_12 : decode cX5_isTheoremKept 12 = .ok (.if_icmp .gt 41, 3) := by decide +kernel
theorem dX5_isTheoremKept_15 : decode cX5_isTheoremKept 15 = .ok (.aload_n 0, 1) := by decide +kernel
theorem dX5_isTheoremKept_16 : decode cX5_isTheoremKept 16 = .ok (.getfield 33, 3) := by decide +kernel
theorem dX5_isTheoremKept_19 : decode cX5_isTheoremKept 19 = .ok (.iload_n 1, 1) := by decide +kernel
theorem dX5_isTheoremKept_20 : decode cX5_isTheoremKept 20 = .ok (.iconst 1, 1) := by decide +kernel
theorem dX5_isTheoremKept_21 : decode cX5_isTheoremKept 21 = .ok (.isub, 1) := by decide +kernel
theorem dX5_isTheoremKept_22 : decode cX5_isTheoremKept 22 = .ok (.aaload, 1) := by decide +kernel
theorem dX5_isTheoremKept_23 : decode cX5_isTheoremKept 23 = .ok (.getfield 213, 3) := by decide +kernel
theorem dX5_isTheoremKept_26 : decode cX5_isTheoremKept 26 = .ok (.iload_n 1, 1) := by decide +kernel
theorem dX5_isTheoremKept_27 : decode cX5_isTheoremKept 27 = .ok (.iload_n 2, 1) := by decide +kernel
theorem dX5_isTheoremKept_28 : decode cX5_isTheoremKept 28 = .ok (.isub, 1) := by decide +kernel
theorem dX5_isTheoremKept_29 : decode cX5_isTheoremKept 29 = .ok (.iconst 1, 1) := by decide +kernel
theorem dX5_isTheoremKept_30 : decode cX5_isTheoremKept 30 = .ok (.iadd, 1) := by decide +kernel
theorem dX5_isTheoremKept_31 : decode cX5_isTheoremKept 31 = .ok (.imul, 1) := by decide +kernel
theorem dX5_isTheoremKept_32 : decode cX5_isTheoremKept 32 = .ok (.aload_n 0, 1) := by decide +kernel
theorem dX5_isTheoremKept_33 : decode cX5_isTheoremKept 33 = .ok (.getfield 37, 3) := by decide +kernel
theorem dX5_isTheoremKept_36 : decode cX5_isTheoremKept 36 = .ok (.iload_n 2, 1) := by decide +kernel
theorem dX5_isTheoremKept_37 : decode cX5_isTheoremKept 37 = .ok (.iconst 1, 1) := by decide +kernel
theorem dX5_isTheoremKept_38 : decode cX5_isTheoremKept 38 = .ok (.isub, 1) := by decide +kernel
theorem dX5_isTheoremKept_39 : decode cX5_isTheoremKept 39 = .ok (.iaload, 1) := by decide +kernel
theorem dX5_isTheoremKept_40 : decode cX5_isTheoremKept 40 = .ok (.iload_n 1, 1) := by decide +kernel
theorem dX5_isTheoremKept_41 : decode cX5_isTheoremKept 41 = .ok (.imul, 1) := by decide +kernel
theorem dX5_isTheoremKept_42 : decode cX5_isTheoremKept 42 = .ok (.if_icmp .le 5, 3) := by decide +kernel
theorem dX5_isTheoremKept_45 : decode cX5_isTheoremKept 45 = .ok (.iconst 0, 1) := by decide +kernel
theorem dX5_isTheoremKept_46 : decode cX5_isTheoremKept 46 = .ok (.ireturn, 1) := by decide +kernel
theorem dX5_isTheoremKept_47 : decode cX5_isTheoremKept 47 = .ok (.iinc 2 1, 3) := by decide +kernel
theorem dX5_isTheoremKept_50 : decode cX5_isTheoremKept 50 = .ok (.goto (-40), 3) := by decide +kernel
theorem dX5_isTheoremKept_53 : decode cX5_isTheoremKept 53 = .ok (.iinc 1 1, 3) := by decide +kernel
theorem dX5_isTheoremKept_56 : decode cX5_isTheoremKept 56 = .ok (.goto (-54), 3) := by decide +kernel
theorem dX5_isTheoremKept_59 : decode cX5_isTheoremKept 59 = .ok (.iconst 1, 1) := by decide +kernel
theorem dX5_isTheoremKept_60 : decode cX5_isTheoremKept 60 = .ok (.ireturn, 1) := by decide +kernel
theorem dX6_init_0 : decode cX6_init 0 = .ok (.aload_n 0, 1) := by decide +kernel
theorem dX6_init_1 : decode cX6_init 1 = .ok (.invokespecial 1, 3) := by decide +kernel
theorem dX6_init_4 : decode cX6_init 4 = .ok (.return_, 1) := by decide +kernel
theorem dX7_init_0 : decode cX7_init 0 = .ok (.aload_n 0, 1) := by decide +kernel
theorem dX7_init_1 : decode cX7_init 1 = .ok (.invokespecial 3, 3) := by decide +kernel
theorem dX7_init_4 : decode cX7_init 4 = .ok (.aload_n 0, 1) := by decide +kernel
theorem dX7_init_5 : decode cX7_init 5 = .ok (.new 9, 3) := by decide +kernel
theorem dX7_init_8 : decode cX7_init 8 = .ok (.dup, 1) := by decide +kernel
theorem dX7_init_9 : decode cX7_init 9 = .ok (.invokespecial 11, 3) := by decide +kernel
theorem dX7_init_12 : decode cX7_init 12 = .ok (.putfield 12, 3) := by decide +kernel
theorem dX7_init_15 : decode cX7_init 15 = .ok (.aload_n 0, 1) := by decide +kernel
theorem dX7_init_16 : decode cX7_init 16 = .ok (.iconst (-1), 1) := by decide +kernel
theorem dX7_init_17 : decode cX7_init 17 = .ok (.putfield 18, 3) := by decide +kernel
theorem dX7_init_20 : decode cX7_init 20 = .ok (.aload_n 0, 1) := by decide +kernel
theorem dX7_init_21 : decode cX7_init 21 = .ok (.iconst (-1), 1) := by decide +kernel
theorem dX7_init_22 : decode cX7_init 22 = .ok (.putfield 22, 3) := by decide +kernel
theorem dX7_init_25 : decode cX7_init 25 = .ok (.aload_n 0, 1) := by decide +kernel
theorem dX7_init_26 : decode cX7_init 26 = .ok (.iconst (-1), 1) := by decide +kernel
theorem dX7_init_27 : decode cX7_init 27 = .ok (.putfield 25, 3) := by decide +kernel
theorem dX7_init_30 : decode cX7_init 30 = .ok (.return_, 1) := by decide +kernel
theorem dX7_place_0 : decode cX7_place 0 = .ok (.iconst 0, 1) := by decide +kernel
theorem dX7_place_1 : decode cX7_place 1 = .ok (.istore_n 2, 1) := by decide +kernel
theorem dX7_place_2 : decode cX7_place 2 = .ok (.iload_n 2, 1) := by decide +kernel
theorem dX7_place_3 : decode cX7_place 3 = .ok (.aload_n 0, 1) := by decide +kernel
theorem dX7_place_4 : decode cX7_place 4 = .ok (.getfield 12, 3) := by decide +kernel
theorem dX7_place_7 : decode cX7_place 7 = .ok (.invokevirtual 28, 3) := by decide +kernel
theorem dX7_place_10 : decode cX7_place 10 = .ok (.if_icmp .ge 28, 3) := by decide +kernel
theorem dX7_place_13 : decode cX7_place 13 = .ok (.aload_n 0, 1) := by decide +kernel
theorem dX7_place_14 : decode cX7_place 14 = .ok (.getfield 12, 3) := by decide +kernel
theorem dX7_place_17 : decode cX7_place 17 = .ok (.iload_n 2, 1) := by decide +kernel
theorem dX7_place_18 : decode cX7_place 18 = .ok (.invokevirtual 32, 3) := by decide +kernel
theorem dX7_place_21 : decode cX7_place 21 = .ok (.checkcast 36, 3) := by decide +kernel
theorem dX7_place_24 : decode cX7_place 24 = .ok (.iconst 0, 1) := by decide +kernel
theorem dX7_place_25 : decode cX7_place 25 = .ok (.iaload, 1) := by decide +kernel
theorem dX7_place_26 : decode cX7_place 26 = .ok (.iload_n 1, 1) := by decide +kernel
theorem dX7_place_27 : decode cX7_place 27 = .ok (.if_icmp .ne 5, 3) := by decide +kernel
theorem dX7_place_30 : decode cX7_place 30 = .ok (.iload_n 2, 1) := by decide +kernel
theorem dX7_place_31 : decode cX7_place 31 = .ok (.ireturn, 1) := by decide +kernel
theorem dX7_place_32 : decode cX7_place 32 = .ok (.iinc 2 1, 3) := by decide +kernel
theorem dX7_place_35 : decode cX7_place 35 = .ok (.goto (-33), 3) := by decide +kernel
theorem dX7_place_38 : decode cX7_place 38 = .ok (.iconst (-1), 1) := by decide +kernel
theorem dX7_place_39 : decode cX7_place 39 = .ok (.ireturn, 1) := by decide +kernel
theorem dX7_asked_0 : decode cX7_asked 0 = .ok (.aload_n 0, 1) := by decide +kernel
theorem dX7_asked_1 : decode cX7_asked 1 = .ok (.getfield 38, 3) := by decide +kernel
theorem dX7_asked_4 : decode cX7_asked 4 = .ok (.ifCond .eq 22, 3) := by decide +kernel
theorem dX7_asked_7 : decode cX7_asked 7 = .ok (.aload_n 0, 1) := by decide +kernel
theorem dX7_asked_8 : decode cX7_asked 8 = .ok (.getfield 12, 3) := by decide +kernel
theorem dX7_asked_11 : decode cX7_asked 11 = .ok (.aload_n 0, 1) := by decide +kernel
theorem dX7_asked_12 : decode cX7_asked 12 = .ok (.getfield 12, 3) := by decide +kernel
theorem dX7_asked_15 : decode cX7_asked 15 = .ok (.iload_n 1, 1) := by decide +kernel
theorem dX7_asked_16 : decode cX7_asked 16 = .ok (.invokevirtual 42, 3) := by decide +kernel
theorem dX7_asked_19 : decode cX7_asked 19 = .ok (.checkcast 36, 3) := by decide +kernel
theorem dX7_asked_22 : decode cX7_asked 22 = .ok (.invokevirtual 45, 3) := by decide +kernel
theorem dX7_asked_25 : decode cX7_asked 25 = .ok (.pop, 1) := by decide +kernel
theorem dX7_asked_26 : decode cX7_asked 26 = .ok (.return_, 1) := by decide +kernel
theorem dX7_anew_0 : decode cX7_anew 0 = .ok (.aload_n 0, 1) := by decide +kernel
theorem dX7_anew_1 : decode cX7_anew 1 = .ok (.iload_n 1, 1) := by decide +kernel
theorem dX7_anew_2 : decode cX7_anew 2 = .ok (.putfield 38, 3) := by decide +kernel
theorem dX7_anew_5 : decode cX7_anew 5 = .ok (.aload_n 0, 1) := by decide +kernel
theorem dX7_anew_6 : decode cX7_anew 6 = .ok (.iload_n 2, 1) := by decide +kernel
theorem dX7_anew_7 : decode cX7_anew 7 = .ok (.putfield 18, 3) := by decide +kernel
theorem dX7_anew_10 : decode cX7_anew 10 = .ok (.aload_n 0, 1) := by decide +kernel
theorem dX7_anew_11 : decode cX7_anew 11 = .ok (.iconst 0, 1) := by decide +kernel
theorem dX7_anew_12 : decode cX7_anew 12 = .ok (.putfield 49, 3) := by decide +kernel
theorem dX7_anew_15 : decode cX7_anew 15 = .ok (.aload_n 0, 1) := by decide +kernel
theorem dX7_anew_16 : decode cX7_anew 16 = .ok (.iconst (-1), 1) := by decide +kernel
theorem dX7_anew_17 : decode cX7_anew 17 = .ok (.putfield 22, 3) := by decide +kernel
theorem dX7_anew_20 : decode cX7_anew 20 = .ok (.return_, 1) := by decide +kernel
theorem dX7_isOn_0 : decode cX7_isOn 0 = .ok (.aload_n 0, 1) := by decide +kernel
theorem dX7_isOn_1 : decode cX7_isOn 1 = .ok (.getfield 25, 3) := by decide +kernel
theorem dX7_isOn_4 : decode cX7_isOn 4 = .ok (.iconst (-1), 1) := by decide +kernel
theorem dX7_isOn_5 : decode cX7_isOn 5 = .ok (.if_icmp .eq 14, 3) := by decide +kernel
theorem dX7_isOn_8 : decode cX7_isOn 8 = .ok (.aload_n 0, 1) := by decide +kernel
theorem dX7_isOn_9 : decode cX7_isOn 9 = .ok (.getfield 52, 3) := by decide +kernel
theorem dX7_isOn_12 : decode cX7_isOn 12 = .ok (.ifCond .ne 7, 3) := by decide +kernel
theorem dX7_isOn_15 : decode cX7_isOn 15 = .ok (.iconst 1, 1) := by decide +kernel
theorem dX7_isOn_16 : decode cX7_isOn 16 = .ok (.goto 4, 3) := by decide +kernel
theorem dX7_isOn_19 : decode cX7_isOn 19 = .ok (.iconst 0, 1) := by decide +kernel
theorem dX7_isOn_20 : decode cX7_isOn 20 = .ok (.ireturn, 1) := by decide +kernel
theorem dX7_hasMore_0 : decode cX7_hasMore 0 = .ok (.aload_n 0, 1) := by decide +kernel
theorem dX7_hasMore_1 : decode cX7_hasMore 1 = .ok (.invokevirtual 55, 3) := by decide +kernel
theorem dX7_hasMore_4 : decode cX7_hasMore 4 = .ok (.ifCond .eq 21, 3) := by decide +kernel
theorem dX7_hasMore_7 : decode cX7_hasMore 7 = .ok (.aload_n 0, 1) := by decide +kernel
theorem dX7_hasMore_8 : decode cX7_hasMore 8 = .ok (.getfield 59, 3) := by decide +kernel
theorem dX7_hasMore_11 : decode cX7_hasMore 11 = .ok (.aload_n 0, 1) := by decide +kernel
theorem dX7_hasMore_12 : decode cX7_hasMore 12 = .ok (.getfield 12, 3) := by decide +kernel
theorem dX7_hasMore_15 : decode cX7_hasMore 15 = .ok (.invokevirtual 28, 3) := by decide +kernel
theorem dX7_hasMore_18 : decode cX7_hasMore 18 = .ok (.if_icmp .ge 7, 3) := by decide +kernel
theorem dX7_hasMore_21 : decode cX7_hasMore 21 = .ok (.iconst 1, 1) := by decide +kernel
theorem dX7_hasMore_22 : decode cX7_hasMore 22 = .ok (.goto 4, 3) := by decide +kernel
theorem dX7_hasMore_25 : decode cX7_hasMore 25 = .ok (.iconst 0, 1) := by decide +kernel
theorem dX7_hasMore_26 : decode cX7_hasMore 26 = .ok (.ireturn, 1) := by decide +kernel
theorem dX7_step_0 : decode cX7_step 0 = .ok (.aload_n 0, 1) := by decide +kernel
theorem dX7_step_1 : decode cX7_step 1 = .ok (.getfield 12, 3) := by decide +kernel
theorem dX7_step_4 : decode cX7_step 4 = .ok (.aload_n 0, 1) := by decide +kernel
theorem dX7_step_5 : decode cX7_step 5 = .ok (.getfield 59, 3) := by decide +kernel
theorem dX7_step_8 : decode cX7_step 8 = .ok (.invokevirtual 32, 3) := by decide +kernel
theorem dX7_step_11 : decode cX7_step 11 = .ok (.checkcast 36, 3) := by decide +kernel
theorem dX7_step_14 : decode cX7_step 14 = .ok (.astore_n 1, 1) := by decide +kernel
theorem dX7_step_15 : decode cX7_step 15 = .ok (.aload_n 0, 1) := by decide +kernel
theorem dX7_step_16 : decode cX7_step 16 = .ok (.dup, 1) := by decide +kernel
theorem dX7_step_17 : decode cX7_step 17 = .ok (.getfield 59, 3) := by decide +kernel
theorem dX7_step_20 : decode cX7_step 20 = .ok (.iconst 1, 1) := by decide +kernel
theorem dX7_step_21 : decode cX7_step 21 = .ok (.iadd, 1) := by decide +kernel
theorem dX7_step_22 : decode cX7_step 22 = .ok (.putfield 59, 3) := by decide +kernel
theorem dX7_step_25 : decode cX7_step 25 = .ok (.aload_n 0, 1) := by decide +kernel
theorem dX7_step_26 : decode cX7_step 26 = .ok (.iconst 1, 1) := by decide +kernel
theorem dX7_step_27 : decode cX7_step 27 = .ok (.putfield 62, 3) := by decide +kernel
theorem dX7_step_30 : decode cX7_step 30 = .ok (.aload_n 0, 1) := by decide +kernel
theorem dX7_step_31 : decode cX7_step 31 = .ok (.getfield 25, 3) := by decide +kernel
theorem dX7_step_34 : decode cX7_step 34 = .ok (.ifCond .ne 9, 3) := by decide +kernel
theorem dX7_step_37 : decode cX7_step 37 = .ok (.aload_n 1, 1) := by decide +kernel
theorem dX7_step_38 : decode cX7_step 38 = .ok (.iconst 0, 1) := by decide +kernel
theorem dX7_step_39 : decode cX7_step 39 = .ok (.iaload, 1) := by decide +kernel
theorem dX7_step_40 : decode cX7_step 40 = .ok (.goto 27, 3) := by decide +kernel
theorem dX7_step_43 : decode cX7_step 43 = .ok (.aload_n 0, 1) := by decide +kernel
theorem dX7_step_44 : decode cX7_step 44 = .ok (.getfield 25, 3) := by decide +kernel
theorem dX7_step_47 : decode cX7_step 47 = .ok (.iconst 1, 1) := by decide +kernel
theorem dX7_step_48 : decode cX7_step 48 = .ok (.if_icmp .ne 9, 3) := by decide +kernel
theorem dX7_step_51 : decode cX7_step 51 = .ok (.aload_n 1, 1) := by decide +kernel
theorem dX7_step_52 : decode cX7_step 52 = .ok (.iconst 1, 1) := by decide +kernel
theorem dX7_step_53 : decode cX7_step 53 = .ok (.iaload, 1) := by decide +kernel
theorem dX7_step_54 : decode cX7_step 54 = .ok (.goto 13, 3) := by decide +kernel
theorem dX7_step_57 : decode cX7_step 57 = .ok (.aload_n 1, 1) := by decide +kernel
theorem dX7_step_58 : decode cX7_step 58 = .ok (.iconst 0, 1) := by decide +kernel
theorem dX7_step_59 : decode cX7_step 59 = .ok (.iaload, 1) := by decide +kernel
theorem dX7_step_60 : decode cX7_step 60 = .ok (.bipush 100, 2) := by decide +kernel
theorem dX7_step_62 : decode cX7_step 62 = .ok (.imul, 1) := by decide +kernel
theorem dX7_step_63 : decode cX7_step 63 = .ok (.aload_n 1, 1) := by decide +kernel
theorem dX7_step_64 : decode cX7_step 64 = .ok (.iconst 1, 1) := by decide +kernel
theorem dX7_step_65 : decode cX7_step 65 = .ok (.iaload, 1) := by decide +kernel
theorem dX7_step_66 : decode cX7_step 66 = .ok (.iadd, 1) := by decide +kernel
theorem dX7_step_67 : decode cX7_step 67 = .ok (.ireturn, 1) := by decide +kernel
theorem dX8_init_0 : decode cX8_init 0 = .ok (.aload_n 0, 1) := by decide +kernel
theorem dX8_init_1 : decode cX8_init 1 = .ok (.invokespecial 1, 3) := by decide +kernel
theorem dX8_init_4 : decode cX8_init 4 = .ok (.aload_n 0, 1) := by decide +kernel
theorem dX8_init_5 : decode cX8_init 5 = .ok (.iconst 4, 1) := by decide +kernel
theorem dX8_init_6 : decode cX8_init 6 = .ok (.anewarray 7, 3) := by decide +kernel
theorem dX8_init_9 : decode cX8_init 9 = .ok (.dup, 1) := by decide +kernel
theorem dX8_init_10 : decode cX8_init 10 = .ok (.iconst 0, 1) := by decide +kernel
theorem dX8_init_11 : decode cX8_init 11 = .ok (.new 7, 3) := by decide +kernel
theorem dX8_init_14 : decode cX8_init 14 = .ok (.dup, 1) := by decide +kernel
theorem dX8_init_15 : decode cX8_init 15 = .ok (.invokespecial 9, 3) := by decide +kernel
theorem dX8_init_18 : decode cX8_init 18 = .ok (.aastore, 1) := by decide +kernel
theorem dX8_init_19 : decode cX8_init 19 = .ok (.dup, 1) := by decide +kernel
theorem dX8_init_20 : decode cX8_init 20 = .ok (.iconst 1, 1) := by decide +kernel
theorem dX8_init_21 : decode cX8_init 21 = .ok (.new 7, 3) := by decide +kernel
theorem dX8_init_24 : decode cX8_init 24 = .ok (.dup, 1) := by decide +kernel
theorem dX8_init_25 : decode cX8_init 25 = .ok (.invokespecial 9, 3) := by decide +kernel
theorem dX8_init_28 : decode cX8_init 28 = .ok (.aastore, 1) := by decide +kernel
theorem dX8_init_29 : decode cX8_init 29 = .ok (.dup, 1) := by decide +kernel
theorem dX8_init_30 : decode cX8_init 30 = .ok (.iconst 2, 1) := by decide +kernel
theorem dX8_init_31 : decode cX8_init 31 = .ok (.new 7, 3) := by decide +kernel
theorem dX8_init_34 : decode cX8_init 34 = .ok (.dup, 1) := by decide +kernel
theorem dX8_init_35 : decode cX8_init 35 = .ok (.invokespecial 9, 3) := by decide +kernel
theorem dX8_init_38 : decode cX8_init 38 = .ok (.aastore, 1) := by decide +kernel
theorem dX8_init_39 : decode cX8_init 39 = .ok (.dup, 1) := by decide +kernel
theorem dX8_init_40 : decode cX8_init 40 = .ok (.iconst 3, 1) := by decide +kernel
theorem dX8_init_41 : decode cX8_init 41 = .ok (.new 7, 3) := by decide +kernel
theorem dX8_init_44 : decode cX8_init 44 = .ok (.dup, 1) := by decide +kernel
theorem dX8_init_45 : decode cX8_init 45 = .ok (.invokespecial 9, 3) := by decide +kernel
theorem dX8_init_48 : decode cX8_init 48 = .ok (.aastore, 1) := by decide +kernel
theorem dX8_init_49 : decode cX8_init 49 = .ok (.putfield 10, 3) := by decide +kernel
theorem dX8_init_52 : decode cX8_init 52 = .ok (.aload_n 0, 1) := by decide +kernel
theorem dX8_init_53 : decode cX8_init 53 = .ok (.new 16, 3) := by decide +kernel
theorem dX8_init_56 : decode cX8_init 56 = .ok (.dup, 1) := by decide +kernel
theorem dX8_init_57 : decode cX8_init 57 = .ok (.invokespecial 18, 3) := by decide +kernel
theorem dX8_init_60 : decode cX8_init 60 = .ok (.putfield 19, 3) := by decide +kernel
theorem dX8_init_63 : decode cX8_init 63 = .ok (.return_, 1) := by decide +kernel
theorem dX8_thrown_0 : decode cX8_thrown 0 = .ok (.aload_n 0, 1) := by decide +kernel
theorem dX8_thrown_1 : decode cX8_thrown 1 = .ok (.getfield 23, 3) := by decide +kernel
theorem dX8_thrown_4 : decode cX8_thrown 4 = .ok (.ireturn, 1) := by decide +kernel
theorem dX8_fails_0 : decode cX8_fails 0 = .ok (.aload_n 0, 1) := by decide +kernel
theorem dX8_fails_1 : decode cX8_fails 1 = .ok (.iload_n 1, 1) := by decide +kernel
theorem dX8_fails_2 : decode cX8_fails 2 = .ok (.ifCond .eq 7, 3) := by decide +kernel
theorem dX8_fails_5 : decode cX8_fails 5 = .ok (.iconst 1, 1) := by decide +kernel
theorem dX8_fails_6 : decode cX8_fails 6 = .ok (.goto 20, 3) := by decide +kernel
theorem dX8_fails_9 : decode cX8_fails 9 = .ok (.iload_n 2, 1) := by decide +kernel
theorem dX8_fails_10 : decode cX8_fails 10 = .ok (.ifCond .eq 7, 3) := by decide +kernel
theorem dX8_fails_13 : decode cX8_fails 13 = .ok (.iconst 2, 1) := by decide +kernel
theorem dX8_fails_14 : decode cX8_fails 14 = .ok (.goto 12, 3) := by decide +kernel
theorem dX8_fails_17 : decode cX8_fails 17 = .ok (.iload_n 3, 1) := by decide +kernel
theorem dX8_fails_18 : decode cX8_fails 18 = .ok (.ifCond .eq 7, 3) := by decide +kernel
theorem dX8_fails_21 : decode cX8_fails 21 = .ok (.iconst 3, 1) := by decide +kernel
theorem dX8_fails_22 : decode cX8_fails 22 = .ok (.goto 4, 3) := by decide +kernel
theorem dX8_fails_25 : decode cX8_fails 25 = .ok (.iconst 0, 1) := by decide +kernel
theorem dX8_fails_26 : decode cX8_fails 26 = .ok (.putfield 23, 3) := by decide +kernel
theorem dX8_fails_29 : decode cX8_fails 29 = .ok (.aload_n 0, 1) := by decide +kernel
theorem dX8_fails_30 : decode cX8_fails 30 = .ok (.getfield 23, 3) := by decide +kernel
theorem dX8_fails_33 : decode cX8_fails 33 = .ok (.ifCond .le 7, 3) := by decide +kernel
theorem dX8_fails_36 : decode cX8_fails 36 = .ok (.iconst 1, 1) := by decide +kernel
theorem dX8_fails_37 : decode cX8_fails 37 = .ok (.goto 4, 3) := by decide +kernel
theorem dX8_fails_40 : decode cX8_fails 40 = .ok (.iconst 0, 1) := by decide +kernel
theorem dX8_fails_41 : decode cX8_fails 41 = .ok (.ireturn, 1) := by decide +kernel
theorem dX8_isOut_0 : decode cX8_isOut 0 = .ok (.iload_n 0, 1) := by decide +kernel
theorem dX8_isOut_1 : decode cX8_isOut 1 = .ok (.ifCond .lt 8, 3) := by decide +kernel
theorem dX8_isOut_4 : decode cX8_isOut 4 = .ok (.iload_n 0, 1) := by decide +kernel
theorem dX8_isOut_5 : decode cX8_isOut 5 = .ok (.iload_n 1, 1) := by decide +kernel
theorem dX8_isOut_6 : decode cX8_isOut 6 = .ok (.if_icmp .lt 7, 3) := by decide +kernel
theorem dX8_isOut_9 : decode cX8_isOut 9 = .ok (.iconst 1, 1) := by decide +kernel
theorem dX8_isOut_10 : decode cX8_isOut 10 = .ok (.goto 4, 3) := by decide +kernel
theorem dX8_isOut_13 : decode cX8_isOut 13 = .ok (.iconst 0, 1) := by decide +kernel
theorem dX8_isOut_14 : decode cX8_isOut 14 = .ok (.ireturn, 1) := by decide +kernel
theorem dX8_isNo_0 : decode cX8_isNo 0 = .ok (.iload_n 0, 1) := by decide +kernel
theorem dX8_isNo_1 : decode cX8_isNo 1 = .ok (.iconst 4, 1) := by decide +kernel
theorem dX8_isNo_2 : decode cX8_isNo 2 = .ok (.invokestatic 27, 3) := by decide +kernel
theorem dX8_isNo_5 : decode cX8_isNo 5 = .ok (.ireturn, 1) := by decide +kernel
theorem dX8_no_0 : decode cX8_no 0 = .ok (.aload_n 0, 1) := by decide +kernel
theorem dX8_no_1 : decode cX8_no 1 = .ok (.dup, 1) := by decide +kernel
theorem dX8_no_2 : decode cX8_no 2 = .ok (.getfield 31, 3) := by decide +kernel
theorem dX8_no_5 : decode cX8_no 5 = .ok (.iconst 1, 1) := by decide +kernel
theorem dX8_no_6 : decode cX8_no 6 = .ok (.iadd, 1) := by decide +kernel
theorem dX8_no_7 : decode cX8_no 7 = .ok (.putfield 31, 3) := by decide +kernel
theorem dX8_no_10 : decode cX8_no 10 = .ok (.bipush (-9), 2) := by decide +kernel
theorem dX8_no_12 : decode cX8_no 12 = .ok (.ireturn, 1) := by decide +kernel
theorem dX8_one_0 : decode cX8_one 0 = .ok (.iload_n 0, 1) := by decide +kernel
theorem dX8_one_1 : decode cX8_one 1 = .ok (.ifCond .eq 7, 3) := by decide +kernel
theorem dX8_one_4 : decode cX8_one 4 = .ok (.iconst 1, 1) := by decide +kernel
theorem dX8_one_5 : decode cX8_one 5 = .ok (.goto 4, 3) := by decide +kernel
theorem dX8_one_8 : decode cX8_one 8 = .ok (.iconst 0, 1) := by decide +kernel
theorem dX8_one_9 : decode cX8_one 9 = .ok (.ireturn, 1) := by decide +kernel
theorem dX8_make_0 : decode cX8_make 0 = .ok (.aload_n 0, 1) := by decide +kernel
theorem dX8_make_1 : decode cX8_make 1 = .ok (.iload_n 1, 1) := by decide +kernel
theorem dX8_make_2 : decode cX8_make 2 = .ok (.invokestatic 34, 3) := by decide +kernel
theorem dX8_make_5 : decode cX8_make 5 = .ok (.iload_n 3, 1) := by decide +kernel
theorem dX8_make_6 : decode cX8_make 6 = .ok (.iconst (-1), 1) := by decide +kernel
theorem dX8_make_7 : decode cX8_make 7 = .ok (.if_icmp .eq 18, 3) := by decide +kernel
theorem dX8_make_10 : decode cX8_make 10 = .ok (.iload_n 3, 1) := by decide +kernel
theorem dX8_make_11 : decode cX8_make 11 = .ok (.iconst 1, 1) := by decide +kernel
theorem dX8_make_12 : decode cX8_make 12 = .ok (.isub, 1) := by decide +kernel
theorem dX8_make_13 : decode cX8_make 13 = .ok (.bipush 12, 2) := by decide +kernel
theorem dX8_make_15 : decode cX8_make 15 = .ok (.invokestatic 27, 3) := by decide +kernel
theorem dX8_make_18 : decode cX8_make 18 = .ok (.ifCond .eq 7, 3) := by decide +kernel
theorem dX8_make_21 : decode cX8_make 21 = .ok (.iconst 1, 1) := by decide +kernel
theorem dX8_make_22 : decode cX8_make 22 = .ok (.goto 4, 3) := by decide +kernel
theorem dX8_make_25 : decode cX8_make 25 = .ok (.iconst 0, 1) := by decide +kernel
theorem dX8_make_26 : decode cX8_make 26 = .ok (.iconst 0, 1) := by decide +kernel
theorem dX8_make_27 : decode cX8_make 27 = .ok (.invokevirtual 38, 3) := by decide +kernel
theorem dX8_make_30 : decode cX8_make 30 = .ok (.ifCond .eq 5, 3) := by decide +kernel
theorem dX8_make_33 : decode cX8_make 33 = .ok (.iconst 0, 1) := by decide +kernel
theorem dX8_make_34 : decode cX8_make 34 = .ok (.ireturn, 1) := by decide +kernel
theorem dX8_make_35 : decode cX8_make 35 = .ok (.aload_n 0, 1) := by decide +kernel
theorem dX8_make_36 : decode cX8_make 36 = .ok (.getfield 10, 3) := by decide +kernel
theorem dX8_make_39 : decode cX8_make 39 = .ok (.iload_n 1, 1) := by decide +kernel
theorem dX8_make_40 : decode cX8_make 40 = .ok (.aaload, 1) := by decide +kernel
theorem dX8_make_41 : decode cX8_make 41 = .ok (.astore 4, 2) := by decide +kernel
theorem dX8_make_43 : decode cX8_make 43 = .ok (.aload 4, 2) := by decide +kernel
theorem dX8_make_45 : decode cX8_make 45 = .ok (.getfield 42, 3) := by decide +kernel
theorem dX8_make_48 : decode cX8_make 48 = .ok (.invokevirtual 45, 3) := by decide +kernel
theorem dX8_make_51 : decode cX8_make 51 = .ok (.istore 5, 2) := by decide +kernel
theorem dX8_make_53 : decode cX8_make 53 = .ok (.aload 4, 2) := by decide +kernel
theorem dX8_make_55 : decode cX8_make 55 = .ok (.getfield 42, 3) := by decide +kernel
theorem dX8_make_58 : decode cX8_make 58 = .ok (.invokevirtual 49, 3) := by decide +kernel
theorem dX8_make_61 : decode cX8_make 61 = .ok (.aload 4, 2) := by decide +kernel
theorem dX8_make_63 : decode cX8_make 63 = .ok (.iload_n 2, 1) := by decide +kernel
theorem dX8_make_64 : decode cX8_make 64 = .ok (.iload_n 3, 1) := by decide +kernel
theorem dX8_make_65 : decode cX8_make 65 = .ok (.invokevirtual 52, 3) := by decide +kernel
theorem dX8_make_68 : decode cX8_make 68 = .ok (.aload 4, 2) := by decide +kernel
theorem dX8_make_70 : decode cX8_make 70 = .ok (.iconst 1, 1) := by decide +kernel
theorem dX8_make_71 : decode cX8_make 71 = .ok (.putfield 56, 3) := by decide +kernel
theorem dX8_make_74 : decode cX8_make 74 = .ok (.iload 5, 2) := by decide +kernel
theorem dX8_make_76 : decode cX8_make 76 = .ok (.ireturn, 1) := by decide +kernel
theorem dX8_put_0 : decode cX8_put 0 = .ok (.aload_n 0, 1) := by decide +kernel
theorem dX8_put_1 : decode cX8_put 1 = .ok (.iload_n 1, 1) := by decide +kernel
theorem dX8_put_2 : decode cX8_put 2 = .ok (.invokestatic 34, 3) := by decide +kernel
theorem dX8_put_5 : decode cX8_put 5 = .ok (.iload_n 2, 1) := by decide +kernel
theorem dX8_put_6 : decode cX8_put 6 = .ok (.bipush 20, 2) := by decide +kernel
theorem dX8_put_8 : decode cX8_put 8 = .ok (.invokestatic 27, 3) := by decide +kernel
theorem dX8_put_11 : decode cX8_put 11 = .ok (.ifCond .ne 12, 3) := by decide +kernel
theorem dX8_put_14 : decode cX8_put 14 = .ok (.iload_n 3, 1) := by decide +kernel
theorem dX8_put_15 : decode cX8_put 15 = .ok (.bipush 100, 2) := by decide +kernel
theorem dX8_put_17 : decode cX8_put 17 = .ok (.invokestatic 27, 3) := by decide +kernel
theorem dX8_put_20 : decode cX8_put 20 = .ok (.ifCond .eq 7, 3) := by decide +kernel
theorem dX8_put_23 : decode cX8_put 23 = .ok (.iconst 1, 1) := by decide +kernel
theorem dX8_put_24 : decode cX8_put 24 = .ok (.goto 4, 3) := by decide +kernel
theorem dX8_put_27 : decode cX8_put 27 = .ok (.iconst 0, 1) := by decide +kernel
theorem dX8_put_28 : decode cX8_put 28 = .ok (.iconst 0, 1) := by decide +kernel
theorem dX8_put_29 : decode cX8_put 29 = .ok (.invokevirtual 38, 3) := by decide +kernel
theorem dX8_put_32 : decode cX8_put 32 = .ok (.ifCond .eq 5, 3) := by decide +kernel
theorem dX8_put_35 : decode cX8_put 35 = .ok (.iconst 0, 1) := by decide +kernel
theorem dX8_put_36 : decode cX8_put 36 = .ok (.ireturn, 1) := by decide +kernel
theorem dX8_put_37 : decode cX8_put 37 = .ok (.aload_n 0, 1) := by decide +kernel
theorem dX8_put_38 : decode cX8_put 38 = .ok (.getfield 10, 3) := by decide +kernel
theorem dX8_put_41 : decode cX8_put 41 = .ok (.iload_n 1, 1) := by decide +kernel
theorem dX8_put_42 : decode cX8_put 42 = .ok (.aaload, 1) := by decide +kernel
theorem dX8_put_43 : decode cX8_put 43 = .ok (.astore 4, 2) := by decide +kernel
theorem dX8_put_45 : decode cX8_put 45 = .ok (.aload 4, 2) := by decide +kernel
theorem dX8_put_47 : decode cX8_put 47 = .ok (.iconst 1, 1) := by decide +kernel
theorem dX8_put_48 : decode cX8_put 48 = .ok (.putfield 56, 3) := by decide +kernel
theorem dX8_put_51 : decode cX8_put 51 = .ok (.aload 4, 2) := by decide +kernel
theorem dX8_put_53 : decode cX8_put 53 = .ok (.iload_n 2, 1) := by decide +kernel
theorem dX8_put_54 : decode cX8_put 54 = .ok (.invokevirtual 60, 3) := by decide +kernel
theorem dX8_put_57 : decode cX8_put 57 = .ok (.istore 5, 2) := by decide +kernel
theorem dX8_put_59 : decode cX8_put 59 = .ok (.iload 5, 2) := by decide +kernel
theorem dX8_put_61 : decode cX8_put 61 = .ok (.iconst (-1), 1) := by decide +kernel
theorem dX8_put_62 : decode cX8_put 62 = .ok (.if_icmp .eq 46, 3) := by decide +kernel
theorem dX8_put_65 : decode cX8_put 65 = .ok (.aload 4, 2) := by decide +kernel
theorem dX8_put_67 : decode cX8_put 67 = .ok (.getfield 42, 3) := by decide +kernel
theorem dX8_put_70 : decode cX8_put 70 = .ok (.iload 5, 2) := by decide +kernel
theorem dX8_put_72 : decode cX8_put 72 = .ok (.invokevirtual 64, 3) := by decide +kernel
theorem dX8_put_75 : decode cX8_put 75 = .ok (.checkcast 68, 3) := by decide +kernel
theorem dX8_put_78 : decode cX8_put 78 = .ok (.iconst 1, 1) := by decide +kernel
theorem dX8_put_79 : decode cX8_put 79 = .ok (.iaload, 1) := by decide +kernel
theorem dX8_put_80 : decode cX8_put 80 = .ok (.istore 6, 2) := by decide +kernel
theorem dX8_put_82 : decode cX8_put 82 = .ok (.aload 4, 2) := by decide +kernel
theorem dX8_put_84 : decode cX8_put 84 = .ok (.getfield 42, 3) := by decide +kernel
theorem dX8_put_87 : decode cX8_put 87 = .ok (.iload 5, 2) := by decide +kernel
theorem dX8_put_89 : decode cX8_put 89 = .ok (.invokevirtual 64, 3) := by decide +kernel
theorem dX8_put_92 : decode cX8_put 92 = .ok (.checkcast 68, 3) := by decide +kernel
theorem dX8_put_95 : decode cX8_put 95 = .ok (.iconst 1, 1) := by decide +kernel
theorem dX8_put_96 : decode cX8_put 96 = .ok (.iload_n 3, 1) := by decide +kernel
theorem dX8_put_97 : decode cX8_put 97 = .ok (.iastore, 1) := by decide +kernel
theorem dX8_put_98 : decode cX8_put 98 = .ok (.aload 4, 2) := by decide +kernel
theorem dX8_put_100 : decode cX8_put 100 = .ok (.iload 5, 2) := by decide +kernel
theorem dX8_put_102 : decode cX8_put 102 = .ok (.invokevirtual 70, 3) := by decide +kernel
theorem dX8_put_105 : decode cX8_put 105 = .ok (.iload 6, 2) := by decide +kernel
theorem dX8_put_107 : decode cX8_put 107 = .ok (.ireturn, 1) := by decide +kernel
theorem dX8_put_108 : decode cX8_put 108 = .ok (.aload 4, 2) := by decide +kernel
theorem dX8_put_110 : decode cX8_put 110 = .ok (.getfield 42, 3) := by decide +kernel
theorem dX8_put_113 : decode cX8_put 113 = .ok (.iconst 2, 1) := by decide +kernel
theorem dX8_put_114 : decode cX8_put 114 = .ok (.newarray .int, 2) := by decide +kernel
theorem dX8_put_116 : decode cX8_put 116 = .ok (.dup, 1) := by decide +kernel
theorem dX8_put_117 : decode cX8_put 117 = .ok (.iconst 0, 1) := by decide +kernel
theorem dX8_put_118 : decode cX8_put 118 = .ok (.iload_n 2, 1) := by decide +kernel
theorem dX8_put_119 : decode cX8_put 119 = .ok (.iastore, 1) := by decide +kernel
theorem dX8_put_120 : decode cX8_put 120 = .ok (.dup, 1) := by decide +kernel
theorem dX8_put_121 : decode cX8_put 121 = .ok (.iconst 1, 1) := by decide +kernel
theorem dX8_put_122 : decode cX8_put 122 = .ok (.iload_n 3, 1) := by decide +kernel
theorem dX8_put_123 : decode cX8_put 123 = .ok (.iastore, 1) := by decide +kernel
theorem dX8_put_124 : decode cX8_put 124 = .ok (.invokevirtual 74, 3) := by decide +kernel
theorem dX8_put_127 : decode cX8_put 127 = .ok (.pop, 1) := by decide +kernel
theorem dX8_put_128 : decode cX8_put 128 = .ok (.aload 4, 2) := by decide +kernel
theorem dX8_put_130 : decode cX8_put 130 = .ok (.getfield 78, 3) := by decide +kernel
theorem dX8_put_133 : decode cX8_put 133 = .ok (.iconst (-1), 1) := by decide +kernel
theorem dX8_put_134 : decode cX8_put 134 = .ok (.if_icmp .eq 49, 3) := by decide +kernel
theorem dX8_put_137 : decode cX8_put 137 = .ok (.aload 4, 2) := by decide +kernel
theorem dX8_put_139 : decode cX8_put 139 = .ok (.getfield 42, 3) := by decide +kernel
theorem dX8_put_142 : decode cX8_put 142 = .ok (.invokevirtual 45, 3) := by decide +kernel
theorem dX8_put_145 : decode cX8_put 145 = .ok (.aload 4, 2) := by decide +kernel
theorem dX8_put_147 : decode cX8_put 147 = .ok (.getfield 78, 3) := by decide +kernel
theorem dX8_put_150 : decode cX8_put 150 = .ok (.if_icmp .le 33, 3) := by decide +kernel
theorem dX8_put_153 : decode cX8_put 153 = .ok (.aload 4, 2) := by decide +kernel
theorem dX8_put_155 : decode cX8_put 155 = .ok (.dup, 1) := by decide +kernel
theorem dX8_put_156 : decode cX8_put 156 = .ok (.getfield 81, 3) := by decide +kernel
theorem dX8_put_159 : decode cX8_put 159 = .ok (.iconst 1, 1) := by decide +kernel
theorem dX8_put_160 : decode cX8_put 160 = .ok (.iadd, 1) := by decide +kernel
theorem dX8_put_161 : decode cX8_put 161 = .ok (.putfield 81, 3) := by decide +kernel
theorem dX8_put_164 : decode cX8_put 164 = .ok (.aload 4, 2) := by decide +kernel
theorem dX8_put_166 : decode cX8_put 166 = .ok (.aload 4, 2) := by decide +kernel
theorem dX8_put_168 : decode cX8_put 168 = .ok (.getfield 42, 3) := by decide +kernel
theorem dX8_put_171 : decode cX8_put 171 = .ok (.iconst 0, 1) := by decide +kernel
theorem dX8_put_172 : decode cX8_put 172 = .ok (.invokevirtual 84, 3) := by decide +kernel
theorem dX8_put_175 : decode cX8_put 175 = .ok (.checkcast 68, 3) := by decide +kernel
theorem dX8_put_178 : decode cX8_put 178 = .ok (.iconst 0, 1) := by decide +kernel
theorem dX8_put_179 : decode cX8_put 179 = .ok (.iaload, 1) := by decide +kernel
theorem dX8_put_180 : decode cX8_put 180 = .ok (.putfield 87, 3) := by decide +kernel
theorem dX8_put_183 : decode cX8_put 183 = .ok (.iconst (-1), 1) := by decide +kernel
theorem dX8_put_184 : decode cX8_put 184 = .ok (.ireturn, 1) := by decide +kernel
theorem dX8_putIfAbsent_0 : decode cX8_putIfAbsent 0 = .ok (.aload_n 0, 1) := by decide +kernel
theorem dX8_putIfAbsent_1 : decode cX8_putIfAbsent 1 = .ok (.iload_n 1, 1) := by decide +kernel
theorem dX8_putIfAbsent_2 : decode cX8_putIfAbsent 2 = .ok (.invokestatic 34, 3) := by decide +kernel
theorem dX8_putIfAbsent_5 : decode cX8_putIfAbsent 5 = .ok (.iload_n 2, 1) := by decide +kernel
theorem dX8_putIfAbsent_6 : decode cX8_putIfAbsent 6 = .ok (.bipush 20, 2) := by decide +kernel
theorem dX8_putIfAbsent_8 : decode cX8_putIfAbsent 8 = .ok (.invokestatic 27, 3) := by decide +kernel
theorem dX8_putIfAbsent_11 : decode cX8_putIfAbsent 11 = .ok (.ifCond .ne 12, 3) := by decide +kernel
theorem dX8_putIfAbsent_14 : decode cX8_putIfAbsent 14 = .ok (.iload_n 3, 1) := by decide +kernel
theorem dX8_putIfAbsent_15 : decode cX8_putIfAbsent 15 = .ok (.bipush 100, 2) := by decide +kernel
theorem dX8_putIfAbsent_17 : decode cX8_putIfAbsent 17 = .ok (.invokestatic 27, 3) := by decide +kernel
theorem dX8_putIfAbsent_20 : decode cX8_putIfAbsent 20 = .ok (.ifCond .eq 7, 3) := by decide +kernel
theorem dX8_putIfAbsent_23 : decode cX8_putIfAbsent 23 = .ok (.iconst 1, 1) := by decide +kernel
theorem dX8_putIfAbsent_24 : decode cX8_putIfAbsent 24 = .ok (.goto 4, 3) := by decide +kernel
theorem dX8_putIfAbsent_27 : decode cX8_putIfAbsent 27 = .ok (.iconst 0, 1) := by decide +kernel
theorem dX8_putIfAbsent_28 : decode cX8_putIfAbsent 28 = .ok (.iload_n 1, 1) := by decide +kernel
theorem dX8_putIfAbsent_29 : decode cX8_putIfAbsent 29 = .ok (.invokestatic 34, 3) := by decide +kernel
theorem dX8_putIfAbsent_32 : decode cX8_putIfAbsent 32 = .ok (.ifCond .ne 20, 3) := by decide +kernel
theorem dX8_putIfAbsent_35 : decode cX8_putIfAbsent 35 = .ok (.aload_n 0, 1) := by decide +kernel
theorem dX8_putIfAbsent_36 : decode cX8_putIfAbsent 36 = .ok (.getfield 10, 3) := by decide +kernel
theorem dX8_putIfAbsent_39 : decode cX8_putIfAbsent 39 = .ok (.iload_n 1, 1) := by decide +kernel
theorem dX8_putIfAbsent_40 : decode cX8_putIfAbsent 40 = .ok (.aaload, 1) := by decide +kernel
theorem dX8_putIfAbsent_41 : decode cX8_putIfAbsent 41 = .ok (.getfield 78, 3) := by decide +kernel
theorem dX8_putIfAbsent_44 : decode cX8_putIfAbsent 44 = .ok (.iconst (-1), 1) := by decide +kernel
theorem dX8_putIfAbsent_45 : decode cX8_putIfAbsent 45 = .ok (.if_icmp .eq 7, 3) := by decide +kernel
theorem dX8_putIfAbsent_48 : decode cX8_putIfAbsent 48 = .ok (.iconst 1, 1) := by decide +kernel
theorem dX8_putIfAbsent_49 : decode cX8_putIfAbsent 49 = .ok (.goto 4, 3) := by decide +kernel
theorem dX8_putIfAbsent_52 : decode cX8_putIfAbsent 52 = .ok (.iconst 0, 1) := by decide +kernel
theorem dX8_putIfAbsent_53 : decode cX8_putIfAbsent 53 = .ok (.invokevirtual 38, 3) := by decide +kernel
theorem dX8_putIfAbsent_56 : decode cX8_putIfAbsent 56 = .ok (.ifCond .eq 5, 3) := by decide +kernel
theorem dX8_putIfAbsent_59 : decode cX8_putIfAbsent 59 = .ok (.iconst 0, 1) := by decide +kernel
theorem dX8_putIfAbsent_60 : decode cX8_putIfAbsent 60 = .ok (.ireturn, 1) := by decide +kernel
theorem dX8_putIfAbsent_61 : decode cX8_putIfAbsent 61 = .ok (.aload_n 0, 1) := by decide +kernel
theorem dX8_putIfAbsent_62 : decode cX8_putIfAbsent 62 = .ok (.getfield 10, 3) := by decide +kernel
theorem dX8_putIfAbsent_65 : decode cX8_putIfAbsent 65 = .ok (.iload_n 1, 1) := by decide +kernel
theorem dX8_putIfAbsent_66 : decode cX8_putIfAbsent 66 = .ok (.aaload, 1) := by decide +kernel
theorem dX8_putIfAbsent_67 : decode cX8_putIfAbsent 67 = .ok (.astore 4, 2) := by decide +kernel
theorem dX8_putIfAbsent_69 : decode cX8_putIfAbsent 69 = .ok (.aload 4, 2) := by decide +kernel
theorem dX8_putIfAbsent_71 : decode cX8_putIfAbsent 71 = .ok (.iconst 1, 1) := by decide +kernel
theorem dX8_putIfAbsent_72 : decode cX8_putIfAbsent 72 = .ok (.putfield 56, 3) := by decide +kernel
theorem dX8_putIfAbsent_75 : decode cX8_putIfAbsent 75 = .ok (.aload 4, 2) := by decide +kernel
theorem dX8_putIfAbsent_77 : decode cX8_putIfAbsent 77 = .ok (.iload_n 2, 1) := by decide +kernel
theorem dX8_putIfAbsent_78 : decode cX8_putIfAbsent 78 = .ok (.invokevirtual 60, 3) := by decide +kernel
theorem dX8_putIfAbsent_81 : decode cX8_putIfAbsent 81 = .ok (.istore 5, 2) := by decide +kernel
theorem dX8_putIfAbsent_83 : decode cX8_putIfAbsent 83 = .ok (.iload 5, 2) := by decide +kernel
theorem dX8_putIfAbsent_85 : decode cX8_putIfAbsent 85 = .ok (.iconst (-1), 1) := by decide +kernel
theorem dX8_putIfAbsent_86 : decode cX8_putIfAbsent 86 = .ok (.if_icmp .ne 25, 3) := by decide +kernel
theorem dX8_putIfAbsent_89 : decode cX8_putIfAbsent 89 = .ok (.aload 4, 2) := by decide +kernel
theorem dX8_putIfAbsent_91 : decode cX8_putIfAbsent 91 = .ok (.getfield 42, 3) := by decide +kernel
theorem dX8_putIfAbsent_94 : decode cX8_putIfAbsent 94 = .ok (.iconst 2, 1) := by decide +kernel
theorem dX8_putIfAbsent_95 : decode cX8_putIfAbsent 95 = .ok (.newarray .int, 2) := by decide +kernel
theorem dX8_putIfAbsent_97 : decode cX8_putIfAbsent 97 = .ok (.dup, 1) := by decide +kernel
theorem dX8_putIfAbsent_98 : decode cX8_putIfAbsent 98 = .ok (.iconst 0, 1) := by decide +kernel
theorem dX8_putIfAbsent_99 : decode cX8_putIfAbsent 99 = .ok (.iload_n 2, 1) := by decide +kernel
theorem dX8_putIfAbsent_100 : decode cX8_putIfAbsent 100 = .ok (.iastore, 1) := by decide +kernel
theorem dX8_putIfAbsent_101 : decode cX8_putIfAbsent 101 = .ok (.dup, 1) := by decide +kernel
theorem dX8_putIfAbsent_102 : decode cX8_putIfAbsent 102 = .ok (.iconst 1, 1) := by decide +kernel
theorem dX8_putIfAbsent_103 : decode cX8_putIfAbsent 103 = .ok (.iload_n 3, 1) := by decide +kernel
theorem dX8_putIfAbsent_104 : decode cX8_putIfAbsent 104 = .ok (.iastore, 1) := by decide +kernel
theorem dX8_putIfAbsent_105 : decode cX8_putIfAbsent 105 = .ok (.invokevirtual 74, 3) := by decide +kernel
theorem dX8_putIfAbsent_108 : decode cX8_putIfAbsent 108 = .ok (.pop, 1) := by decide +kernel
theorem dX8_putIfAbsent_109 : decode cX8_putIfAbsent 109 = .ok (.iconst (-1), 1) := by decide +kernel
theorem dX8_putIfAbsent_110 : decode cX8_putIfAbsent 110 = .ok (.ireturn, 1) := by decide +kernel
theorem dX8_putIfAbsent_111 : decode cX8_putIfAbsent 111 = .ok (.aload 4, 2) := by decide +kernel
theorem dX8_putIfAbsent_113 : decode cX8_putIfAbsent 113 = .ok (.getfield 42, 3) := by decide +kernel
theorem dX8_putIfAbsent_116 : decode cX8_putIfAbsent 116 = .ok (.iload 5, 2) := by decide +kernel
theorem dX8_putIfAbsent_118 : decode cX8_putIfAbsent 118 = .ok (.invokevirtual 64, 3) := by decide +kernel
theorem dX8_putIfAbsent_121 : decode cX8_putIfAbsent 121 = .ok (.checkcast 68, 3) := by decide +kernel
theorem dX8_putIfAbsent_124 : decode cX8_putIfAbsent 124 = .ok (.iconst 1, 1) := by decide +kernel
theorem dX8_putIfAbsent_125 : decode cX8_putIfAbsent 125 = .ok (.iaload, 1) := by decide +kernel
theorem dX8_putIfAbsent_126 : decode cX8_putIfAbsent 126 = .ok (.istore 6, 2) := by decide +kernel
theorem dX8_putIfAbsent_128 : decode cX8_putIfAbsent 128 = .ok (.aload 4, 2) := by decide +kernel
theorem dX8_putIfAbsent_130 : decode cX8_putIfAbsent 130 = .ok (.iload 5, 2) := by decide +kernel
theorem dX8_putIfAbsent_132 : decode cX8_putIfAbsent 132 = .ok (.invokevirtual 70, 3) := by decide +kernel
theorem dX8_putIfAbsent_135 : decode cX8_putIfAbsent 135 = .ok (.iload 6, 2) := by decide +kernel
theorem dX8_putIfAbsent_137 : decode cX8_putIfAbsent 137 = .ok (.ireturn, 1) := by decide +kernel
theorem dX8_got_0 : decode cX8_got 0 = .ok (.aload_n 0, 1) := by decide +kernel
theorem dX8_got_1 : decode cX8_got 1 = .ok (.getfield 10, 3) := by decide +kernel
theorem dX8_got_4 : decode cX8_got 4 = .ok (.iload_n 1, 1) := by decide +kernel
theorem dX8_got_5 : decode cX8_got 5 = .ok (.aaload, 1) := by decide +kernel
theorem dX8_got_6 : decode cX8_got 6 = .ok (.astore 4, 2) := by decide +kernel
theorem dX8_got_8 : decode cX8_got 8 = .ok (.aload 4, 2) := by decide +kernel
theorem dX8_got_10 : decode cX8_got 10 = .ok (.iconst 1, 1) := by decide +kernel
theorem dX8_got_11 : decode cX8_got 11 = .ok (.putfield 56, 3) := by decide +kernel
theorem dX8_got_14 : decode cX8_got 14 = .ok (.aload 4, 2) := by decide +kernel
theorem dX8_got_16 : decode cX8_got 16 = .ok (.iload_n 2, 1) := by decide +kernel
theorem dX8_got_17 : decode cX8_got 17 = .ok (.invokevirtual 60, 3) := by decide +kernel
theorem dX8_got_20 : decode cX8_got 20 = .ok (.istore 5, 2) := by decide +kernel
theorem dX8_got_22 : decode cX8_got 22 = .ok (.iload 5, 2) := by decide +kernel
theorem dX8_got_24 : decode cX8_got 24 = .ok (.iconst (-1), 1) := by decide +kernel
theorem dX8_got_25 : decode cX8_got 25 = .ok (.if_icmp .ne 5, 3) := by decide +kernel
theorem dX8_got_28 : decode cX8_got 28 = .ok (.iload_n 3, 1) := by decide +kernel
theorem dX8_got_29 : decode cX8_got 29 = .ok (.ireturn, 1) := by decide +kernel
theorem dX8_got_30 : decode cX8_got 30 = .ok (.aload 4, 2) := by decide +kernel
theorem dX8_got_32 : decode cX8_got 32 = .ok (.getfield 42, 3) := by decide +kernel
theorem dX8_got_35 : decode cX8_got 35 = .ok (.iload 5, 2) := by decide +kernel
theorem dX8_got_37 : decode cX8_got 37 = .ok (.invokevirtual 64, 3) := by decide +kernel
theorem dX8_got_40 : decode cX8_got 40 = .ok (.checkcast 68, 3) := by decide +kernel
theorem dX8_got_43 : decode cX8_got 43 = .ok (.iconst 1, 1) := by decide +kernel
theorem dX8_got_44 : decode cX8_got 44 = .ok (.iaload, 1) := by decide +kernel
theorem dX8_got_45 : decode cX8_got 45 = .ok (.istore 6, 2) := by decide +kernel
theorem dX8_got_47 : decode cX8_got 47 = .ok (.aload 4, 2) := by decide +kernel
theorem dX8_got_49 : decode cX8_got 49 = .ok (.iload 5, 2) := by decide +kernel
theorem dX8_got_51 : decode cX8_got 51 = .ok (.invokevirtual 70, 3) := by decide +kernel
theorem dX8_got_54 : decode cX8_got 54 = .ok (.iload 6, 2) := by decide +kernel
theorem dX8_got_56 : decode cX8_got 56 = .ok (.ireturn, 1) := by decide +kernel
theorem dX8_isNoKey_0 : decode cX8_isNoKey 0 = .ok (.aload_n 0, 1) := by decide +kernel
theorem dX8_isNoKey_1 : decode cX8_isNoKey 1 = .ok (.iload_n 1, 1) := by decide +kernel
theorem dX8_isNoKey_2 : decode cX8_isNoKey 2 = .ok (.invokestatic 34, 3) := by decide +kernel
theorem dX8_isNoKey_5 : decode cX8_isNoKey 5 = .ok (.iload_n 2, 1) := by decide +kernel
theorem dX8_isNoKey_6 : decode cX8_isNoKey 6 = .ok (.bipush 20, 2) := by decide +kernel
theorem dX8_isNoKey_8 : decode cX8_isNoKey 8 = .ok (.invokestatic 27, 3) := by decide +kernel
theorem dX8_isNoKey_11 : decode cX8_isNoKey 11 = .ok (.iconst 0, 1) := by decide +kernel
theorem dX8_isNoKey_12 : decode cX8_isNoKey 12 = .ok (.invokevirtual 38, 3) := by decide +kernel
theorem dX8_isNoKey_15 : decode cX8_isNoKey 15 = .ok (.ireturn, 1) := by decide +kernel
theorem dX8_get_0 : decode cX8_get 0 = .ok (.aload_n 0, 1) := by decide +kernel
theorem dX8_get_1 : decode cX8_get 1 = .ok (.iload_n 1, 1) := by decide +kernel
theorem dX8_get_2 : decode cX8_get 2 = .ok (.iload_n 2, 1) := by decide +kernel
theorem dX8_get_3 : decode cX8_get 3 = .ok (.invokevirtual 90, 3) := by decide +kernel
theorem dX8_get_6 : decode cX8_get 6 = .ok (.ifCond .eq 7, 3) := by decide +kernel
theorem dX8_get_9 : decode cX8_get 9 = .ok (.iconst 0, 1) := by decide +kernel
theorem dX8_get_10 : decode cX8_get 10 = .ok (.goto 10, 3) := by decide +kernel
theorem dX8_get_13 : decode cX8_get 13 = .ok (.aload_n 0, 1) := by decide +kernel
theorem dX8_get_14 : decode cX8_get 14 = .ok (.iload_n 1, 1) := by decide +kernel
theorem dX8_get_15 : decode cX8_get 15 = .ok (.iload_n 2, 1) := by decide +kernel
theorem dX8_get_16 : decode cX8_get 16 = .ok (.iconst (-1), 1) := by decide +kernel
theorem dX8_get_17 : decode cX8_get 17 = .ok (.invokevirtual 93, 3) := by decide +kernel
theorem dX8_get_20 : decode cX8_get 20 = .ok (.ireturn, 1) := by decide +kernel
theorem dX8_getOr_0 : decode cX8_getOr 0 = .ok (.aload_n 0, 1) := by decide +kernel
theorem dX8_getOr_1 : decode cX8_getOr 1 = .ok (.iload_n 1, 1) := by decide +kernel
theorem dX8_getOr_2 : decode cX8_getOr 2 = .ok (.iload_n 2, 1) := by decide +kernel
theorem dX8_getOr_3 : decode cX8_getOr 3 = .ok (.invokevirtual 90, 3) := by decide +kernel
theorem dX8_getOr_6 : decode cX8_getOr 6 = .ok (.ifCond .eq 7, 3) := by decide +kernel
theorem dX8_getOr_9 : decode cX8_getOr 9 = .ok (.iconst 0, 1) := by decide +kernel
theorem dX8_getOr_10 : decode cX8_getOr 10 = .ok (.goto 10, 3) := by decide +kernel
theorem dX8_getOr_13 : decode cX8_getOr 13 = .ok (.aload_n 0, 1) := by decide +kernel
theorem dX8_getOr_14 : decode cX8_getOr 14 = .ok (.iload_n 1, 1) := by decide +kernel
theorem dX8_getOr_15 : decode cX8_getOr 15 = .ok (.iload_n 2, 1) := by decide +kernel
theorem dX8_getOr_16 : decode cX8_getOr 16 = .ok (.iload_n 3, 1) := by decide +kernel
theorem dX8_getOr_17 : decode cX8_getOr 17 = .ok (.invokevirtual 93, 3) := by decide +kernel
theorem dX8_getOr_20 : decode cX8_getOr 20 = .ok (.ireturn, 1) := by decide +kernel
theorem dX8_remove_0 : decode cX8_remove 0 = .ok (.aload_n 0, 1) := by decide +kernel
theorem dX8_remove_1 : decode cX8_remove 1 = .ok (.iload_n 1, 1) := by decide +kernel
theorem dX8_remove_2 : decode cX8_remove 2 = .ok (.iload_n 2, 1) := by decide +kernel
theorem dX8_remove_3 : decode cX8_remove 3 = .ok (.invokevirtual 90, 3) := by decide +kernel
theorem dX8_remove_6 : decode cX8_remove 6 = .ok (.ifCond .eq 5, 3) := by decide +kernel
theorem dX8_remove_9 : decode cX8_remove 9 = .ok (.iconst 0, 1) := by decide +kernel
theorem dX8_remove_10 : decode cX8_remove 10 = .ok (.ireturn, 1) := by decide +kernel
theorem dX8_remove_11 : decode cX8_remove 11 = .ok (.aload_n 0, 1) := by decide +kernel
theorem dX8_remove_12 : decode cX8_remove 12 = .ok (.getfield 10, 3) := by decide +kernel
theorem dX8_remove_15 : decode cX8_remove 15 = .ok (.iload_n 1, 1) := by decide +kernel
theorem dX8_remove_16 : decode cX8_remove 16 = .ok (.aaload, 1) := by decide +kernel
theorem dX8_remove_17 : decode cX8_remove 17 = .ok (.astore_n 3, 1) := by decide +kernel
theorem dX8_remove_18 : decode cX8_remove 18 = .ok (.aload_n 3, 1) := by decide +kernel
theorem dX8_remove_19 : decode cX8_remove 19 = .ok (.iconst 1, 1) := by decide +kernel
theorem dX8_remove_20 : decode cX8_remove 20 = .ok (.putfield 56, 3) := by decide +kernel
theorem dX8_remove_23 : decode cX8_remove 23 = .ok (.aload_n 3, 1) := by decide +kernel
theorem dX8_remove_24 : decode cX8_remove 24 = .ok (.iload_n 2, 1) := by decide +kernel
theorem dX8_remove_25 : decode cX8_remove 25 = .ok (.invokevirtual 60, 3) := by decide +kernel
theorem dX8_remove_28 : decode cX8_remove 28 = .ok (.istore 4, 2) := by decide +kernel
theorem dX8_remove_30 : decode cX8_remove 30 = .ok (.iload 4, 2) := by decide +kernel
theorem dX8_remove_32 : decode cX8_remove 32 = .ok (.iconst (-1), 1) := by decide +kernel
theorem dX8_remove_33 : decode cX8_remove 33 = .ok (.if_icmp .ne 7, 3) := by decide +kernel
theorem dX8_remove_36 : decode cX8_remove 36 = .ok (.iconst (-1), 1) := by decide +kernel
theorem dX8_remove_37 : decode cX8_remove 37 = .ok (.goto 17, 3) := by decide +kernel
theorem dX8_remove_40 : decode cX8_remove 40 = .ok (.aload_n 3, 1) := by decide +kernel
theorem dX8_remove_41 : decode cX8_remove 41 = .ok (.getfield 42, 3) := by decide +kernel
theorem dX8_remove_44 : decode cX8_remove 44 = .ok (.iload 4, 2) := by decide +kernel
theorem dX8_remove_46 : decode cX8_remove 46 = .ok (.invokevirtual 84, 3) := by decide +kernel
theorem dX8_remove_49 : decode cX8_remove 49 = .ok (.checkcast 68, 3) := by decide +kernel
theorem dX8_remove_52 : decode cX8_remove 52 = .ok (.iconst 1, 1) := by decide +kernel
theorem dX8_remove_53 : decode cX8_remove 53 = .ok (.iaload, 1) := by decide +kernel
theorem dX8_remove_54 : decode cX8_remove 54 = .ok (.ireturn, 1) := by decide +kernel
theorem dX8_clear_0 : decode cX8_clear 0 = .ok (.aload_n 0, 1) := by decide +kernel
theorem dX8_clear_1 : decode cX8_clear 1 = .ok (.iload_n 1, 1) := by decide +kernel
theorem dX8_clear_2 : decode cX8_clear 2 = .ok (.invokestatic 34, 3) := by decide +kernel
theorem dX8_clear_5 : decode cX8_clear 5 = .ok (.iconst 0, 1) := by decide +kernel
theorem dX8_clear_6 : decode cX8_clear 6 = .ok (.iconst 0, 1) := by decide +kernel
theorem dX8_clear_7 : decode cX8_clear 7 = .ok (.invokevirtual 38, 3) := by decide +kernel
theorem dX8_clear_10 : decode cX8_clear 10 = .ok (.ifCond .eq 5, 3) := by decide +kernel
theorem dX8_clear_13 : decode cX8_clear 13 = .ok (.iconst 0, 1) := by decide +kernel
theorem dX8_clear_14 : decode cX8_clear 14 = .ok (.ireturn, 1) := by decide +kernel
theorem dX8_clear_15 : decode cX8_clear 15 = .ok (.aload_n 0, 1) := by decide +kernel
theorem dX8_clear_16 : decode cX8_clear 16 = .ok (.getfield 10, 3) := by decide +kernel
theorem dX8_clear_19 : decode cX8_clear 19 = .ok (.iload_n 1, 1) := by decide +kernel
theorem dX8_clear_20 : decode cX8_clear 20 = .ok (.aaload, 1) := by decide +kernel
theorem dX8_clear_21 : decode cX8_clear 21 = .ok (.getfield 42, 3) := by decide +kernel
theorem dX8_clear_24 : decode cX8_clear 24 = .ok (.invokevirtual 45, 3) := by decide +kernel
theorem dX8_clear_27 : decode cX8_clear 27 = .ok (.istore_n 2, 1) := by decide +kernel
theorem dX8_clear_28 : decode cX8_clear 28 = .ok (.aload_n 0, 1) := by decide +kernel
theorem dX8_clear_29 : decode cX8_clear 29 = .ok (.getfield 10, 3) := by decide +kernel
theorem dX8_clear_32 : decode cX8_clear 32 = .ok (.iload_n 1, 1) := by decide +kernel
theorem dX8_clear_33 : decode cX8_clear 33 = .ok (.aaload, 1) := by decide +kernel
theorem dX8_clear_34 : decode cX8_clear 34 = .ok (.getfield 42, 3) := by decide +kernel
theorem dX8_clear_37 : decode cX8_clear 37 = .ok (.invokevirtual 49, 3) := by decide +kernel
theorem dX8_clear_40 : decode cX8_clear 40 = .ok (.aload_n 0, 1) := by decide +kernel
theorem dX8_clear_41 : decode cX8_clear 41 = .ok (.getfield 10, 3) := by decide +kernel
theorem dX8_clear_44 : decode cX8_clear 44 = .ok (.iload_n 1, 1) := by decide +kernel
theorem dX8_clear_45 : decode cX8_clear 45 = .ok (.aaload, 1) := by decide +kernel
theorem dX8_clear_46 : decode cX8_clear 46 = .ok (.iconst 1, 1) := by decide +kernel
theorem dX8_clear_47 : decode cX8_clear 47 = .ok (.putfield 56, 3) := by decide +kernel
theorem dX8_clear_50 : decode cX8_clear 50 = .ok (.iload_n 2, 1) := by decide +kernel
theorem dX8_clear_51 : decode cX8_clear 51 = .ok (.ireturn, 1) := by decide +kernel
theorem dX8_set_0 : decode cX8_set 0 = .ok (.aload_n 0, 1) := by decide +kernel
theorem dX8_set_1 : decode cX8_set 1 = .ok (.iload_n 1, 1) := by decide +kernel
theorem dX8_set_2 : decode cX8_set 2 = .ok (.invokestatic 34, 3) := by decide +kernel
theorem dX8_set_5 : decode cX8_set 5 = .ok (.iload_n 3, 1) := by decide +kernel
theorem dX8_set_6 : decode cX8_set 6 = .ok (.bipush 100, 2) := by decide +kernel
theorem dX8_set_8 : decode cX8_set 8 = .ok (.invokestatic 27, 3) := by decide +kernel
theorem dX8_set_11 : decode cX8_set 11 = .ok (.iconst 0, 1) := by decide +kernel
theorem dX8_set_12 : decode cX8_set 12 = .ok (.invokevirtual 38, 3) := by decide +kernel
theorem dX8_set_15 : decode cX8_set 15 = .ok (.ifCond .eq 5, 3) := by decide +kernel
theorem dX8_set_18 : decode cX8_set 18 = .ok (.iconst 0, 1) := by decide +kernel
theorem dX8_set_19 : decode cX8_set 19 = .ok (.ireturn, 1) := by decide +kernel
theorem dX8_set_20 : decode cX8_set 20 = .ok (.iload_n 2, 1) := by decide +kernel
theorem dX8_set_21 : decode cX8_set 21 = .ok (.aload_n 0, 1) := by decide +kernel
theorem dX8_set_22 : decode cX8_set 22 = .ok (.getfield 10, 3) := by decide +kernel
theorem dX8_set_25 : decode cX8_set 25 = .ok (.iload_n 1, 1) := by decide +kernel
theorem dX8_set_26 : decode cX8_set 26 = .ok (.aaload, 1) := by decide +kernel
theorem dX8_set_27 : decode cX8_set 27 = .ok (.getfield 42, 3) := by decide +kernel
theorem dX8_set_30 : decode cX8_set 30 = .ok (.invokevirtual 45, 3) := by decide +kernel
theorem dX8_set_33 : decode cX8_set 33 = .ok (.invokestatic 27, 3) := by decide +kernel
theorem dX8_set_36 : decode cX8_set 36 = .ok (.ifCond .eq 8, 3) := by decide +kernel
theorem dX8_set_39 : decode cX8_set 39 = .ok (.aload_n 0, 1) := by decide +kernel
theorem dX8_set_40 : decode cX8_set 40 = .ok (.invokevirtual 97, 3) := by decide +kernel
theorem dX8_set_43 : decode cX8_set 43 = .ok (.ireturn, 1) := by decide +kernel
theorem dX8_set_44 : decode cX8_set 44 = .ok (.aload_n 0, 1) := by decide +kernel
theorem dX8_set_45 : decode cX8_set 45 = .ok (.getfield 10, 3) := by decide +kernel
theorem dX8_set_48 : decode cX8_set 48 = .ok (.iload_n 1, 1) := by decide +kernel
theorem dX8_set_49 : decode cX8_set 49 = .ok (.aaload, 1) := by decide +kernel
theorem dX8_set_50 : decode cX8_set 50 = .ok (.getfield 42, 3) := by decide +kernel
theorem dX8_set_53 : decode cX8_set 53 = .ok (.iload_n 2, 1) := by decide +kernel
theorem dX8_set_54 : decode cX8_set 54 = .ok (.invokevirtual 64, 3) := by decide +kernel
theorem dX8_set_57 : decode cX8_set 57 = .ok (.checkcast 68, 3) := by decide +kernel
theorem dX8_set_60 : decode cX8_set 60 = .ok (.iconst 1, 1) := by decide +kernel
theorem dX8_set_61 : decode cX8_set 61 = .ok (.iaload, 1) := by decide +kernel
theorem dX8_set_62 : decode cX8_set 62 = .ok (.istore 4, 2) := by decide +kernel
theorem dX8_set_64 : decode cX8_set 64 = .ok (.aload_n 0, 1) := by decide +kernel
theorem dX8_set_65 : decode cX8_set 65 = .ok (.getfield 10, 3) := by decide +kernel
theorem dX8_set_68 : decode cX8_set 68 = .ok (.iload_n 1, 1) := by decide +kernel
theorem dX8_set_69 : decode cX8_set 69 = .ok (.aaload, 1) := by decide +kernel
theorem dX8_set_70 : decode cX8_set 70 = .ok (.getfield 42, 3) := by decide +kernel
theorem dX8_set_73 : decode cX8_set 73 = .ok (.iload_n 2, 1) := by decide +kernel
theorem dX8_set_74 : decode cX8_set 74 = .ok (.invokevirtual 64, 3) := by decide +kernel
theorem dX8_set_77 : decode cX8_set 77 = .ok (.checkcast 68, 3) := by decide +kernel
theorem dX8_set_80 : decode cX8_set 80 = .ok (.iconst 1, 1) := by decide +kernel
theorem dX8_set_81 : decode cX8_set 81 = .ok (.iload_n 3, 1) := by decide +kernel
theorem dX8_set_82 : decode cX8_set 82 = .ok (.iastore, 1) := by decide +kernel
theorem dX8_set_83 : decode cX8_set 83 = .ok (.iload 4, 2) := by decide +kernel
theorem dX8_set_85 : decode cX8_set 85 = .ok (.ireturn, 1) := by decide +kernel
theorem dX8_copy_0 : decode cX8_copy 0 = .ok (.aload_n 0, 1) := by decide +kernel
theorem dX8_copy_1 : decode cX8_copy 1 = .ok (.iload_n 1, 1) := by decide +kernel
theorem dX8_copy_2 : decode cX8_copy 2 = .ok (.invokestatic 34, 3) := by decide +kernel
theorem dX8_copy_5 : decode cX8_copy 5 = .ok (.ifCond .ne 10, 3) := by decide +kernel
theorem dX8_copy_8 : decode cX8_copy 8 = .ok (.iload_n 2, 1) := by decide +kernel
theorem dX8_copy_9 : decode cX8_copy 9 = .ok (.invokestatic 34, 3) := by decide +kernel
theorem dX8_copy_12 : decode cX8_copy 12 = .ok (.ifCond .eq 7, 3) := by decide +kernel
theorem dX8_copy_15 : decode cX8_copy 15 = .ok (.iconst 1, 1) := by decide +kernel
theorem dX8_copy_16 : decode cX8_copy 16 = .ok (.goto 4, 3) := by decide +kernel
theorem dX8_copy_19 : decode cX8_copy 19 = .ok (.iconst 0, 1) := by decide +kernel
theorem dX8_copy_20 : decode cX8_copy 20 = .ok (.iconst 0, 1) := by decide +kernel
theorem dX8_copy_21 : decode cX8_copy 21 = .ok (.iconst 0, 1) := by decide +kernel
theorem dX8_copy_22 : decode cX8_copy 22 = .ok (.invokevirtual 38, 3) := by decide +kernel
theorem dX8_copy_25 : decode cX8_copy 25 = .ok (.ifCond .eq 5, 3) := by decide +kernel
theorem dX8_copy_28 : decode cX8_copy 28 = .ok (.iconst 0, 1) := by decide +kernel
theorem dX8_copy_29 : decode cX8_copy 29 = .ok (.ireturn, 1) := by decide +kernel
theorem dX8_copy_30 : decode cX8_copy 30 = .ok (.new 16, 3) := by decide +kernel
theorem dX8_copy_33 : decode cX8_copy 33 = .ok (.dup, 1) := by decide +kernel
theorem dX8_copy_34 : decode cX8_copy 34 = .ok (.invokespecial 18, 3) := by decide +kernel
theorem dX8_copy_37 : decode cX8_copy 37 = .ok (.astore_n 3, 1) := by decide +kernel
theorem dX8_copy_38 : decode cX8_copy 38 = .ok (.aload_n 0, 1) := by decide +kernel
theorem dX8_copy_39 : decode cX8_copy 39 = .ok (.getfield 10, 3) := by decide +kernel
theorem dX8_copy_42 : decode cX8_copy 42 = .ok (.iload_n 1, 1) := by decide +kernel
theorem dX8_copy_43 : decode cX8_copy 43 = .ok (.aaload, 1) := by decide +kernel
theorem dX8_copy_44 : decode cX8_copy 44 = .ok (.getfield 42, 3) := by decide +kernel
theorem dX8_copy_47 : decode cX8_copy 47 = .ok (.invokevirtual 100, 3) := by decide +kernel
theorem dX8_copy_50 : decode cX8_copy 50 = .ok (.astore 4, 2) := by decide +kernel
theorem dX8_copy_52 : decode cX8_copy 52 = .ok (.aload 4, 2) := by decide +kernel
theorem dX8_copy_54 : decode cX8_copy 54 = .ok (.invokeinterface 104 1, 5) := by decide +kernel
theorem dX8_copy_59 : decode cX8_copy 59 = .ok (.ifCond .eq 40, 3) := by decide +kernel
theorem dX8_copy_62 : decode cX8_copy 62 = .ok (.aload 4, 2) := by decide +kernel
theorem dX8_copy_64 : decode cX8_copy 64 = .ok (.invokeinterface 110 1, 5) := by decide +kernel
theorem dX8_copy_69 : decode cX8_copy 69 = .ok (.checkcast 68, 3) := by decide +kernel
theorem dX8_copy_72 : decode cX8_copy 72 = .ok (.astore 5, 2) := by decide +kernel
theorem dX8_copy_74 : decode cX8_copy 74 = .ok (.aload_n 3, 1) := by decide +kernel
theorem dX8_copy_75 : decode cX8_copy 75 = .ok (.iconst 2, 1) := by decide +kernel
theorem dX8_copy_76 : decode cX8_copy 76 = .ok (.newarray .int, 2) := by decide +kernel
theorem dX8_copy_78 : decode cX8_copy 78 = .ok (.dup, 1) := by decide +kernel
theorem dX8_copy_79 : decode cX8_copy 79 = .ok (.iconst 0, 1) := by decide +kernel
theorem dX8_copy_80 : decode cX8_copy 80 = .ok (.aload 5, 2) := by decide +kernel
theorem dX8_copy_82 : decode cX8_copy 82 = .ok (.iconst 0, 1) := by decide +kernel
theorem dX8_copy_83 : decode cX8_copy 83 = .ok (.iaload, 1) := by decide +kernel
theorem dX8_copy_84 : decode cX8_copy 84 = .ok (.iastore, 1) := by decide +kernel
theorem dX8_copy_85 : decode cX8_copy 85 = .ok (.dup, 1) := by decide +kernel
theorem dX8_copy_86 : decode cX8_copy 86 = .ok (.iconst 1, 1) := by decide +kernel
theorem dX8_copy_87 : decode cX8_copy 87 = .ok (.aload 5, 2) := by decide +kernel
theorem dX8_copy_89 : decode cX8_copy 89 = .ok (.iconst 1, 1) := by decide +kernel
theorem dX8_copy_90 : decode cX8_copy 90 = .ok (.iaload, 1) := by decide +kernel
theorem dX8_copy_91 : decode cX8_copy 91 = .ok (.iastore, 1) := by decide +kernel
theorem dX8_copy_92 : decode cX8_copy 92 = .ok (.invokevirtual 74, 3) := by decide +kernel
theorem dX8_copy_95 : decode cX8_copy 95 = .ok (.pop, 1) := by decide +kernel
theorem dX8_copy_96 : decode cX8_copy 96 = .ok (.goto (-44), 3) := by decide +kernel
theorem dX8_copy_99 : decode cX8_copy 99 = .ok (.aload_n 0, 1) := by decide +kernel
theorem dX8_copy_100 : decode cX8_copy 100 = .ok (.getfield 10, 3) := by decide +kernel
theorem dX8_copy_103 : decode cX8_copy 103 = .ok (.iload_n 2, 1) := by decide +kernel
theorem dX8_copy_104 : decode cX8_copy 104 = .ok (.aaload, 1) := by decide +kernel
theorem dX8_copy_105 : decode cX8_copy 105 = .ok (.astore 4, 2) := by decide +kernel
theorem dX8_copy_107 : decode cX8_copy 107 = .ok (.aload 4, 2) := by decide +kernel
theorem dX8_copy_109 : decode cX8_copy 109 = .ok (.getfield 42, 3) := by decide +kernel
theorem dX8_copy_112 : decode cX8_copy 112 = .ok (.invokevirtual 49, 3) := by decide +kernel
theorem dX8_copy_115 : decode cX8_copy 115 = .ok (.aload_n 3, 1) := by decide +kernel
theorem dX8_copy_116 : decode cX8_copy 116 = .ok (.invokevirtual 100, 3) := by decide +kernel
theorem dX8_copy_119 : decode cX8_copy 119 = .ok (.astore 5, 2) := by decide +kernel
theorem dX8_copy_121 : decode cX8_copy 121 = .ok (.aload 5, 2) := by decide +kernel
theorem dX8_copy_123 : decode cX8_copy 123 = .ok (.invokeinterface 104 1, 5) := by decide +kernel
theorem dX8_copy_128 : decode cX8_copy 128 = .ok (.ifCond .eq 29, 3) := by decide +kernel
theorem dX8_copy_131 : decode cX8_copy 131 = .ok (.aload 5, 2) := by decide +kernel
theorem dX8_copy_133 : decode cX8_copy 133 = .ok (.invokeinterface 110 1, 5) := by decide +kernel
theorem dX8_copy_138 : decode cX8_copy 138 = .ok (.checkcast 68, 3) := by decide +kernel
theorem dX8_copy_141 : decode cX8_copy 141 = .ok (.astore 6, 2) := by decide +kernel
theorem dX8_copy_143 : decode cX8_copy 143 = .ok (.aload 4, 2) := by decide +kernel
theorem dX8_copy_145 : decode cX8_copy 145 = .ok (.getfield 42, 3) := by decide +kernel
theorem dX8_copy_148 : decode cX8_copy 148 = .ok (.aload 6, 2) := by decide +kernel
theorem dX8_copy_150 : decode cX8_copy 150 = .ok (.invokevirtual 74, 3) := by decide +kernel
theorem dX8_copy_153 : decode cX8_copy 153 = .ok (.pop, 1) := by decide +kernel
theorem dX8_copy_154 : decode cX8_copy 154 = .ok (.goto (-33), 3) := by decide +kernel
theorem dX8_copy_157 : decode cX8_copy 157 = .ok (.aload 4, 2) := by decide +kernel
theorem dX8_copy_159 : decode cX8_copy 159 = .ok (.iconst 0, 1) := by decide +kernel
theorem dX8_copy_160 : decode cX8_copy 160 = .ok (.iconst (-1), 1) := by decide +kernel
theorem dX8_copy_161 : decode cX8_copy 161 = .ok (.invokevirtual 52, 3) := by decide +kernel
theorem dX8_copy_164 : decode cX8_copy 164 = .ok (.aload 4, 2) := by decide +kernel
theorem dX8_copy_166 : decode cX8_copy 166 = .ok (.iconst 1, 1) := by decide +kernel
theorem dX8_copy_167 : decode cX8_copy 167 = .ok (.putfield 56, 3) := by decide +kernel
theorem dX8_copy_170 : decode cX8_copy 170 = .ok (.aload_n 3, 1) := by decide +kernel
theorem dX8_copy_171 : decode cX8_copy 171 = .ok (.invokevirtual 45, 3) := by decide +kernel
theorem dX8_copy_174 : decode cX8_copy 174 = .ok (.ireturn, 1) := by decide +kernel
theorem dX8_has_0 : decode cX8_has 0 = .ok (.aload_n 0, 1) := by decide +kernel
theorem dX8_has_1 : decode cX8_has 1 = .ok (.iload_n 1, 1) := by decide +kernel
theorem dX8_has_2 : decode cX8_has 2 = .ok (.iload_n 2, 1) := by decide +kernel
theorem dX8_has_3 : decode cX8_has 3 = .ok (.invokevirtual 90, 3) := by decide +kernel
theorem dX8_has_6 : decode cX8_has 6 = .ok (.ifCond .ne 21, 3) := by decide +kernel
theorem dX8_has_9 : decode cX8_has 9 = .ok (.aload_n 0, 1) := by decide +kernel
theorem dX8_has_10 : decode cX8_has 10 = .ok (.getfield 10, 3) := by decide +kernel
theorem dX8_has_13 : decode cX8_has 13 = .ok (.iload_n 1, 1) := by decide +kernel
theorem dX8_has_14 : decode cX8_has 14 = .ok (.aaload, 1) := by decide +kernel
theorem dX8_has_15 : decode cX8_has 15 = .ok (.iload_n 2, 1) := by decide +kernel
theorem dX8_has_16 : decode cX8_has 16 = .ok (.invokevirtual 60, 3) := by decide +kernel
theorem dX8_has_19 : decode cX8_has 19 = .ok (.iconst (-1), 1) := by decide +kernel
theorem dX8_has_20 : decode cX8_has 20 = .ok (.if_icmp .eq 7, 3) := by decide +kernel
theorem dX8_has_23 : decode cX8_has 23 = .ok (.iconst 1, 1) := by decide +kernel
theorem dX8_has_24 : decode cX8_has 24 = .ok (.goto 4, 3) := by decide +kernel
theorem dX8_has_27 : decode cX8_has 27 = .ok (.iconst 0, 1) := by decide +kernel
theorem dX8_has_28 : decode cX8_has 28 = .ok (.ireturn, 1) := by decide +kernel
theorem dX8_size_0 : decode cX8_size 0 = .ok (.aload_n 0, 1) := by decide +kernel
theorem dX8_size_1 : decode cX8_size 1 = .ok (.iload_n 1, 1) := by decide +kernel
theorem dX8_size_2 : decode cX8_size 2 = .ok (.invokestatic 34, 3) := by decide +kernel
theorem dX8_size_5 : decode cX8_size 5 = .ok (.iconst 0, 1) := by decide +kernel
theorem dX8_size_6 : decode cX8_size 6 = .ok (.iconst 0, 1) := by decide +kernel
theorem dX8_size_7 : decode cX8_size 7 = .ok (.invokevirtual 38, 3) := by decide +kernel
theorem dX8_size_10 : decode cX8_size 10 = .ok (.ifCond .eq 7, 3) := by decide +kernel
theorem dX8_size_13 : decode cX8_size 13 = .ok (.iconst 0, 1) := by decide +kernel
theorem dX8_size_14 : decode cX8_size 14 = .ok (.goto 15, 3) := by decide +kernel
theorem dX8_size_17 : decode cX8_size 17 = .ok (.aload_n 0, 1) := by decide +kernel
theorem dX8_size_18 : decode cX8_size 18 = .ok (.getfield 10, 3) := by decide +kernel
theorem dX8_size_21 : decode cX8_size 21 = .ok (.iload_n 1, 1) := by decide +kernel
theorem dX8_size_22 : decode cX8_size 22 = .ok (.aaload, 1) := by decide +kernel
theorem dX8_size_23 : decode cX8_size 23 = .ok (.getfield 42, 3) := by decide +kernel
theorem dX8_size_26 : decode cX8_size 26 = .ok (.invokevirtual 45, 3) := by decide +kernel
theorem dX8_size_29 : decode cX8_size 29 = .ok (.ireturn, 1) := by decide +kernel
theorem dX8_told_0 : decode cX8_told 0 = .ok (.iload_n 2, 1) := by decide +kernel
theorem dX8_told_1 : decode cX8_told 1 = .ok (.aload_n 0, 1) := by decide +kernel
theorem dX8_told_2 : decode cX8_told 2 = .ok (.getfield 10, 3) := by decide +kernel
theorem dX8_told_5 : decode cX8_told 5 = .ok (.iload_n 1, 1) := by decide +kernel
theorem dX8_told_6 : decode cX8_told 6 = .ok (.aaload, 1) := by decide +kernel
theorem dX8_told_7 : decode cX8_told 7 = .ok (.getfield 42, 3) := by decide +kernel
theorem dX8_told_10 : decode cX8_told 10 = .ok (.invokevirtual 45, 3) := by decide +kernel
theorem dX8_told_13 : decode cX8_told 13 = .ok (.invokestatic 27, 3) := by decide +kernel
theorem dX8_told_16 : decode cX8_told 16 = .ok (.ifCond .eq 5, 3) := by decide +kernel
theorem dX8_told_19 : decode cX8_told 19 = .ok (.iconst (-1), 1) := by decide +kernel
theorem dX8_told_20 : decode cX8_told 20 = .ok (.ireturn, 1) := by decide +kernel
theorem dX8_told_21 : decode cX8_told 21 = .ok (.aload_n 0, 1) := by decide +kernel
theorem dX8_told_22 : decode cX8_told 22 = .ok (.getfield 10, 3) := by decide +kernel
theorem dX8_told_25 : decode cX8_told 25 = .ok (.iload_n 1, 1) := by decide +kernel
theorem dX8_told_26 : decode cX8_told 26 = .ok (.aaload, 1) := by decide +kernel
theorem dX8_told_27 : decode cX8_told 27 = .ok (.getfield 42, 3) := by decide +kernel
theorem dX8_told_30 : decode cX8_told 30 = .ok (.iload_n 2, 1) := by decide +kernel
theorem dX8_told_31 : decode cX8_told 31 = .ok (.invokevirtual 64, 3) := by decide +kernel
theorem dX8_told_34 : decode cX8_told 34 = .ok (.checkcast 68, 3) := by decide +kernel
theorem dX8_told_37 : decode cX8_told 37 = .ok (.astore 4, 2) := by decide +kernel
theorem dX8_told_39 : decode cX8_told 39 = .ok (.iload_n 3, 1) := by decide +kernel
theorem dX8_told_40 : decode cX8_told 40 = .ok (.ifCond .ne 10, 3) := by decide +kernel
theorem dX8_told_43 : decode cX8_told 43 = .ok (.aload 4, 2) := by decide +kernel
theorem dX8_told_45 : decode cX8_told 45 = .ok (.iconst 0, 1) := by decide +kernel
theorem dX8_told_46 : decode cX8_told 46 = .ok (.iaload, 1) := by decide +kernel
theorem dX8_told_47 : decode cX8_told 47 = .ok (.goto 27, 3) := by decide +kernel
theorem dX8_told_50 : decode cX8_told 50 = .ok (.iload_n 3, 1) := by decide +kernel
theorem dX8_told_51 : decode cX8_told 51 = .ok (.iconst 1, 1) := by decide +kernel
theorem dX8_told_52 : decode cX8_told 52 = .ok (.if_icmp .ne 10, 3) := by decide +kernel
theorem dX8_told_55 : decode cX8_told 55 = .ok (.aload 4, 2) := by decide +kernel
theorem dX8_told_57 : decode cX8_told 57 = .ok (.iconst 1, 1) := by decide +kernel
theorem dX8_told_58 : decode cX8_told 58 = .ok (.iaload, 1) := by decide +kernel
theorem dX8_told_59 : decode cX8_told 59 = .ok (.goto 15, 3) := by decide +kernel
theorem dX8_told_62 : decode cX8_told 62 = .ok (.aload 4, 2) := by decide +kernel
theorem dX8_told_64 : decode cX8_told 64 = .ok (.iconst 0, 1) := by decide +kernel
theorem dX8_told_65 : decode cX8_told 65 = .ok (.iaload, 1) := by decide +kernel
theorem dX8_told_66 : decode cX8_told 66 = .ok (.bipush 100, 2) := by decide +kernel
theorem dX8_told_68 : decode cX8_told 68 = .ok (.imul, 1) := by decide +kernel
theorem dX8_told_69 : decode cX8_told 69 = .ok (.aload 4, 2) := by decide +kernel
theorem dX8_told_71 : decode cX8_told 71 = .ok (.iconst 1, 1) := by decide +kernel
theorem dX8_told_72 : decode cX8_told 72 = .ok (.iaload, 1) := by decide +kernel
theorem dX8_told_73 : decode cX8_told 73 = .ok (.iadd, 1) := by decide +kernel
theorem dX8_told_74 : decode cX8_told 74 = .ok (.ireturn, 1) := by decide +kernel
theorem dX8_keyAt_0 : decode cX8_keyAt 0 = .ok (.aload_n 0, 1) := by decide +kernel
theorem dX8_keyAt_1 : decode cX8_keyAt 1 = .ok (.iload_n 1, 1) := by decide +kernel
theorem dX8_keyAt_2 : decode cX8_keyAt 2 = .ok (.invokestatic 34, 3) := by decide +kernel
theorem dX8_keyAt_5 : decode cX8_keyAt 5 = .ok (.iconst 0, 1) := by decide +kernel
theorem dX8_keyAt_6 : decode cX8_keyAt 6 = .ok (.iconst 0, 1) := by decide +kernel
theorem dX8_keyAt_7 : decode cX8_keyAt 7 = .ok (.invokevirtual 38, 3) := by decide +kernel
theorem dX8_keyAt_10 : decode cX8_keyAt 10 = .ok (.ifCond .eq 7, 3) := by decide +kernel
theorem dX8_keyAt_13 : decode cX8_keyAt 13 = .ok (.iconst 0, 1) := by decide +kernel
theorem dX8_keyAt_14 : decode cX8_keyAt 14 = .ok (.goto 10, 3) := by decide +kernel
theorem dX8_keyAt_17 : decode cX8_keyAt 17 = .ok (.aload_n 0, 1) := by decide +kernel
theorem dX8_keyAt_18 : decode cX8_keyAt 18 = .ok (.iload_n 1, 1) := by decide +kernel
theorem dX8_keyAt_19 : decode cX8_keyAt 19 = .ok (.iload_n 2, 1) := by decide +kernel
theorem dX8_keyAt_20 : decode cX8_keyAt 20 = .ok (.iconst 0, 1) := by decide +kernel
theorem dX8_keyAt_21 : decode cX8_keyAt 21 = .ok (.invokevirtual 114, 3) := by decide +kernel
theorem dX8_keyAt_24 : decode cX8_keyAt 24 = .ok (.ireturn, 1) := by decide +kernel
theorem dX8_valueAt_0 : decode cX8_valueAt 0 = .ok (.aload_n 0, 1) := by decide +kernel
theorem dX8_valueAt_1 : decode cX8_valueAt 1 = .ok (.iload_n 1, 1) := by decide +kernel
theorem dX8_valueAt_2 : decode cX8_valueAt 2 = .ok (.invokestatic 34, 3) := by decide +kernel
theorem dX8_valueAt_5 : decode cX8_valueAt 5 = .ok (.iconst 0, 1) := by decide +kernel
theorem dX8_valueAt_6 : decode cX8_valueAt 6 = .ok (.iconst 0, 1) := by decide +kernel
theorem dX8_valueAt_7 : decode cX8_valueAt 7 = .ok (.invokevirtual 38, 3) := by decide +kernel
theorem dX8_valueAt_10 : decode cX8_valueAt 10 = .ok (.ifCond .eq 7, 3) := by decide +kernel
theorem dX8_valueAt_13 : decode cX8_valueAt 13 = .ok (.iconst 0, 1) := by decide +kernel
theorem dX8_valueAt_14 : decode cX8_valueAt 14 = .ok (.goto 10, 3) := by decide +kernel
theorem dX8_valueAt_17 : decode cX8_valueAt 17 = .ok (.aload_n 0, 1) := by decide +kernel
theorem dX8_valueAt_18 : decode cX8_valueAt 18 = .ok (.iload_n 1, 1) := by decide +kernel
theorem dX8_valueAt_19 : decode cX8_valueAt 19 = .ok (.iload_n 2, 1) := by decide +kernel
theorem dX8_valueAt_20 : decode cX8_valueAt 20 = .ok (.iconst 1, 1) := by decide +kernel
theorem dX8_valueAt_21 : decode cX8_valueAt 21 = .ok (.invokevirtual 114, 3) := by decide +kernel
theorem dX8_valueAt_24 : decode cX8_valueAt 24 = .ok (.ireturn, 1) := by decide +kernel
theorem dX8_pairAt_0 : decode cX8_pairAt 0 = .ok (.aload_n 0, 1) := by decide +kernel
theorem dX8_pairAt_1 : decode cX8_pairAt 1 = .ok (.iload_n 1, 1) := by decide +kernel
theorem dX8_pairAt_2 : decode cX8_pairAt 2 = .ok (.invokestatic 34, 3) := by decide +kernel
theorem dX8_pairAt_5 : decode cX8_pairAt 5 = .ok (.iconst 0, 1) := by decide +kernel
theorem dX8_pairAt_6 : decode cX8_pairAt 6 = .ok (.iconst 0, 1) := by decide +kernel
theorem dX8_pairAt_7 : decode cX8_pairAt 7 = .ok (.invokevirtual 38, 3) := by decide +kernel
theorem dX8_pairAt_10 : decode cX8_pairAt 10 = .ok (.ifCond .eq 7, 3) := by decide +kernel
theorem dX8_pairAt_13 : decode cX8_pairAt 13 = .ok (.iconst 0, 1) := by decide +kernel
theorem dX8_pairAt_14 : decode cX8_pairAt 14 = .ok (.goto 10, 3) := by decide +kernel
theorem dX8_pairAt_17 : decode cX8_pairAt 17 = .ok (.aload_n 0, 1) := by decide +kernel
theorem dX8_pairAt_18 : decode cX8_pairAt 18 = .ok (.iload_n 1, 1) := by decide +kernel
theorem dX8_pairAt_19 : decode cX8_pairAt 19 = .ok (.iload_n 2, 1) := by decide +kernel
theorem dX8_pairAt_20 : decode cX8_pairAt 20 = .ok (.iconst 2, 1) := by decide +kernel
theorem dX8_pairAt_21 : decode cX8_pairAt 21 = .ok (.invokevirtual 114, 3) := by decide +kernel
theorem dX8_pairAt_24 : decode cX8_pairAt 24 = .ok (.ireturn, 1) := by decide +kernel
theorem dX8_placeOf_0 : decode cX8_placeOf 0 = .ok (.aload_n 0, 1) := by decide +kernel
theorem dX8_placeOf_1 : decode cX8_placeOf 1 = .ok (.iload_n 1, 1) := by decide +kernel
theorem dX8_placeOf_2 : decode cX8_placeOf 2 = .ok (.iload_n 2, 1) := by decide +kernel
theorem dX8_placeOf_3 : decode cX8_placeOf 3 = .ok (.invokevirtual 90, 3) := by decide +kernel
theorem dX8_placeOf_6 : decode cX8_placeOf 6 = .ok (.ifCond .eq 7, 3) := by decide +kernel
theorem dX8_placeOf_9 : decode cX8_placeOf 9 = .ok (.iconst 0, 1) := by decide +kernel
theorem dX8_placeOf_10 : decode cX8_placeOf 10 = .ok (.goto 13, 3) := by decide +kernel
theorem dX8_placeOf_13 : decode cX8_placeOf 13 = .ok (.aload_n 0, 1) := by decide +kernel
theorem dX8_placeOf_14 : decode cX8_placeOf 14 = .ok (.getfield 10, 3) := by decide +kernel
theorem dX8_placeOf_17 : decode cX8_placeOf 17 = .ok (.iload_n 1, 1) := by decide +kernel
theorem dX8_placeOf_18 : decode cX8_placeOf 18 = .ok (.aaload, 1) := by decide +kernel
theorem dX8_placeOf_19 : decode cX8_placeOf 19 = .ok (.iload_n 2, 1) := by decide +kernel
theorem dX8_placeOf_20 : decode cX8_placeOf 20 = .ok (.invokevirtual 60, 3) := by decide +kernel
theorem dX8_placeOf_23 : decode cX8_placeOf 23 = .ok (.ireturn, 1) := by decide +kernel
theorem dX8_eldest_0 : decode cX8_eldest 0 = .ok (.aload_n 0, 1) := by decide +kernel
theorem dX8_eldest_1 : decode cX8_eldest 1 = .ok (.iload_n 1, 1) := by decide +kernel
theorem dX8_eldest_2 : decode cX8_eldest 2 = .ok (.invokestatic 34, 3) := by decide +kernel
theorem dX8_eldest_5 : decode cX8_eldest 5 = .ok (.iconst 0, 1) := by decide +kernel
theorem dX8_eldest_6 : decode cX8_eldest 6 = .ok (.iconst 0, 1) := by decide +kernel
theorem dX8_eldest_7 : decode cX8_eldest 7 = .ok (.invokevirtual 38, 3) := by decide +kernel
theorem dX8_eldest_10 : decode cX8_eldest 10 = .ok (.ifCond .eq 7, 3) := by decide +kernel
theorem dX8_eldest_13 : decode cX8_eldest 13 = .ok (.iconst 0, 1) := by decide +kernel
theorem dX8_eldest_14 : decode cX8_eldest 14 = .ok (.goto 10, 3) := by decide +kernel
theorem dX8_eldest_17 : decode cX8_eldest 17 = .ok (.aload_n 0, 1) := by decide +kernel
theorem dX8_eldest_18 : decode cX8_eldest 18 = .ok (.iload_n 1, 1) := by decide +kernel
theorem dX8_eldest_19 : decode cX8_eldest 19 = .ok (.iconst 0, 1) := by decide +kernel
theorem dX8_eldest_20 : decode cX8_eldest 20 = .ok (.iconst 0, 1) := by decide +kernel
theorem dX8_eldest_21 : decode cX8_eldest 21 = .ok (.invokevirtual 114, 3) := by decide +kernel
theorem dX8_eldest_24 : decode cX8_eldest 24 = .ok (.ireturn, 1) := by decide +kernel
theorem dX8_latest_0 : decode cX8_latest 0 = .ok (.aload_n 0, 1) := by decide +kernel
theorem dX8_latest_1 : decode cX8_latest 1 = .ok (.iload_n 1, 1) := by decide +kernel
theorem dX8_latest_2 : decode cX8_latest 2 = .ok (.invokestatic 34, 3) := by decide +kernel
theorem dX8_latest_5 : decode cX8_latest 5 = .ok (.iconst 0, 1) := by decide +kernel
theorem dX8_latest_6 : decode cX8_latest 6 = .ok (.iconst 0, 1) := by decide +kernel
theorem dX8_latest_7 : decode cX8_latest 7 = .ok (.invokevirtual 38, 3) := by decide +kernel
theorem dX8_latest_10 : decode cX8_latest 10 = .ok (.ifCond .eq 7, 3) := by decide +kernel
theorem dX8_latest_13 : decode cX8_latest 13 = .ok (.iconst 0, 1) := by decide +kernel
theorem dX8_latest_14 : decode cX8_latest 14 = .ok (.goto 23, 3) := by decide +kernel
theorem dX8_latest_17 : decode cX8_latest 17 = .ok (.aload_n 0, 1) := by decide +kernel
theorem dX8_latest_18 : decode cX8_latest 18 = .ok (.iload_n 1, 1) := by decide +kernel
theorem dX8_latest_19 : decode cX8_latest 19 = .ok (.aload_n 0, 1) := by decide +kernel
theorem dX8_latest_20 : decode cX8_latest 20 = .ok (.getfield 10, 3) := by decide +kernel
theorem dX8_latest_23 : decode cX8_latest 23 = .ok (.iload_n 1, 1) := by decide +kernel
theorem dX8_latest_24 : decode cX8_latest 24 = .ok (.aaload, 1) := by decide +kernel
theorem dX8_latest_25 : decode cX8_latest 25 = .ok (.getfield 42, 3) := by decide +kernel
theorem dX8_latest_28 : decode cX8_latest 28 = .ok (.invokevirtual 45, 3) := by decide +kernel
theorem dX8_latest_31 : decode cX8_latest 31 = .ok (.iconst 1, 1) := by decide +kernel
theorem dX8_latest_32 : decode cX8_latest 32 = .ok (.isub, 1) := by decide +kernel
theorem dX8_latest_33 : decode cX8_latest 33 = .ok (.iconst 0, 1) := by decide +kernel
theorem dX8_latest_34 : decode cX8_latest 34 = .ok (.invokevirtual 114, 3) := by decide +kernel
theorem dX8_latest_37 : decode cX8_latest 37 = .ok (.ireturn, 1) := by decide +kernel
theorem dX8_text_0 : decode cX8_text 0 = .ok (.aload_n 0, 1) := by decide +kernel
theorem dX8_text_1 : decode cX8_text 1 = .ok (.iload_n 1, 1) := by decide +kernel
theorem dX8_text_2 : decode cX8_text 2 = .ok (.invokestatic 34, 3) := by decide +kernel
theorem dX8_text_5 : decode cX8_text 5 = .ok (.iload_n 2, 1) := by decide +kernel
theorem dX8_text_6 : decode cX8_text 6 = .ok (.iconst 3, 1) := by decide +kernel
theorem dX8_text_7 : decode cX8_text 7 = .ok (.invokestatic 27, 3) := by decide +kernel
theorem dX8_text_10 : decode cX8_text 10 = .ok (.iconst 0, 1) := by decide +kernel
theorem dX8_text_11 : decode cX8_text 11 = .ok (.invokevirtual 38, 3) := by decide +kernel
theorem dX8_text_14 : decode cX8_text 14 = .ok (.ifCond .eq 6, 3) := by decide +kernel
theorem dX8_text_17 : decode cX8_text 17 = .ok (.ldc 117, 2) := by decide +kernel
theorem dX8_text_19 : decode cX8_text 19 = .ok (.areturn, 1) := by decide +kernel
theorem dX8_text_20 : decode cX8_text 20 = .ok (.new 119, 3) := by decide +kernel
theorem dX8_text_23 : decode cX8_text 23 = .ok (.dup, 1) := by decide +kernel
theorem dX8_text_24 : decode cX8_text 24 = .ok (.invokespecial 121, 3) := by decide +kernel
theorem dX8_text_27 : decode cX8_text 27 = .ok (.astore_n 3, 1) := by decide +kernel
theorem dX8_text_28 : decode cX8_text 28 = .ok (.aload_n 0, 1) := by decide +kernel
theorem dX8_text_29 : decode cX8_text 29 = .ok (.getfield 10, 3) := by decide +kernel
theorem dX8_text_32 : decode cX8_text 32 = .ok (.iload_n 1, 1) := by decide +kernel
theorem dX8_text_33 : decode cX8_text 33 = .ok (.aaload, 1) := by decide +kernel
theorem dX8_text_34 : decode cX8_text 34 = .ok (.getfield 42, 3) := by decide +kernel
theorem dX8_text_37 : decode cX8_text 37 = .ok (.invokevirtual 100, 3) := by decide +kernel
theorem dX8_text_40 : decode cX8_text 40 = .ok (.astore 4, 2) := by decide +kernel
theorem dX8_text_42 : decode cX8_text 42 = .ok (.aload 4, 2) := by decide +kernel
theorem dX8_text_44 : decode cX8_text 44 = .ok (.invokeinterface 104 1, 5) := by decide +kernel
theorem dX8_text_49 : decode cX8_text 49 = .ok (.ifCond .eq 69, 3) := by decide +kernel
theorem dX8_text_52 : decode cX8_text 52 = .ok (.aload 4, 2) := by decide +kernel
theorem dX8_text_54 : decode cX8_text 54 = .ok (.invokeinterface 110 1, 5) := by decide +kernel
theorem dX8_text_59 : decode cX8_text 59 = .ok (.checkcast 68, 3) := by decide +kernel
theorem dX8_text_62 : decode cX8_text 62 = .ok (.astore 5, 2) := by decide +kernel
theorem dX8_text_64 : decode cX8_text 64 = .ok (.aload_n 3, 1) := by decide +kernel
theorem dX8_text_65 : decode cX8_text 65 = .ok (.invokevirtual 122, 3) := by decide +kernel
theorem dX8_text_68 : decode cX8_text 68 = .ok (.ifCond .le 10, 3) := by decide +kernel
theorem dX8_text_71 : decode cX8_text 71 = .ok (.aload_n 3, 1) := by decide +kernel
theorem dX8_text_72 : decode cX8_text 72 = .ok (.bipush 32, 2) := by decide +kernel
theorem dX8_text_74 : decode cX8_text 74 = .ok (.invokevirtual 125, 3) := by decide +kernel
theorem dX8_text_77 : decode cX8_text 77 = .ok (.pop, 1) := by decide +kernel
theorem dX8_text_78 : decode cX8_text 78 = .ok (.aload_n 3, 1) := by decide +kernel
theorem dX8_text_79 : decode cX8_text 79 = .ok (.aload 5, 2) := by decide +kernel
theorem dX8_text_81 : decode cX8_text 81 = .ok (.iload_n 2, 1) := by decide +kernel
theorem dX8_text_82 : decode cX8_text 82 = .ok (.iconst 1, 1) := by decide +kernel
theorem dX8_text_83 : decode cX8_text 83 = .ok (.if_icmp .ne 7, 3) := by decide +kernel
theorem dX8_text_86 : decode cX8_text 86 = .ok (.iconst 1, 1) := by decide +kernel
theorem dX8_text_87 : decode cX8_text 87 = .ok (.goto 4, 3) := by decide +kernel
theorem dX8_text_90 : decode cX8_text 90 = .ok (.iconst 0, 1) := by decide +kernel
theorem dX8_text_91 : decode cX8_text 91 = .ok (.iaload, 1) := by decide +kernel
theorem dX8_text_92 : decode cX8_text 92 = .ok (.invokevirtual 129, 3) := by decide +kernel
theorem dX8_text_95 : decode cX8_text 95 = .ok (.pop, 1) := by decide +kernel
theorem dX8_text_96 : decode cX8_text 96 = .ok (.iload_n 2, 1) := by decide +kernel
theorem dX8_text_97 : decode cX8_text 97 = .ok (.iconst 2, 1) := by decide +kernel
theorem dX8_text_98 : decode cX8_text 98 = .ok (.if_icmp .ne 17, 3) := by decide +kernel
theorem dX8_text_101 : decode cX8_text 101 = .ok (.aload_n 3, 1) := by decide +kernel
theorem dX8_text_102 : decode cX8_text 102 = .ok (.bipush 61, 2) := by decide +kernel
theorem dX8_text_104 : decode cX8_text 104 = .ok (.invokevirtual 125, 3) := by decide +kernel
theorem dX8_text_107 : decode cX8_text 107 = .ok (.aload 5, 2) := by decide +kernel
theorem dX8_text_109 : decode cX8_text 109 = .ok (.iconst 1, 1) := by decide +kernel
theorem dX8_text_110 : decode cX8_text 110 = .ok (.iaload, 1) := by decide +kernel
theorem dX8_text_111 : decode cX8_text 111 = .ok (.invokevirtual 129, 3) := by decide +kernel
theorem dX8_text_114 : decode cX8_text 114 = .ok (.pop, 1) := by decide +kernel
theorem dX8_text_115 : decode cX8_text 115 = .ok (.goto (-73), 3) := by decide +kernel
theorem dX8_text_118 : decode cX8_text 118 = .ok (.aload_n 3, 1) := by decide +kernel
theorem dX8_text_119 : decode cX8_text 119 = .ok (.invokevirtual 132, 3) := by decide +kernel
theorem dX8_text_122 : decode cX8_text 122 = .ok (.areturn, 1) := by decide +kernel
theorem dX8_tableNow_0 : decode cX8_tableNow 0 = .ok (.aload_n 0, 1) := by decide +kernel
theorem dX8_tableNow_1 : decode cX8_tableNow 1 = .ok (.getfield 10, 3) := by decide +kernel
theorem dX8_tableNow_4 : decode cX8_tableNow 4 = .ok (.iload_n 1, 1) := by decide +kernel
theorem dX8_tableNow_5 : decode cX8_tableNow 5 = .ok (.aaload, 1) := by decide +kernel
theorem dX8_tableNow_6 : decode cX8_tableNow 6 = .ok (.astore_n 3, 1) := by decide +kernel
theorem dX8_tableNow_7 : decode cX8_tableNow 7 = .ok (.iconst 0, 1) := by decide +kernel
theorem dX8_tableNow_8 : decode cX8_tableNow 8 = .ok (.istore 4, 2) := by decide +kernel
theorem dX8_tableNow_10 : decode cX8_tableNow 10 = .ok (.aload_n 3, 1) := by decide +kernel
theorem dX8_tableNow_11 : decode cX8_tableNow 11 = .ok (.getfield 42, 3) := by decide +kernel
theorem dX8_tableNow_14 : decode cX8_tableNow 14 = .ok (.invokevirtual 100, 3) := by decide +kernel
theorem dX8_tableNow_17 : decode cX8_tableNow 17 = .ok (.astore 5, 2) := by decide +kernel
theorem dX8_tableNow_19 : decode cX8_tableNow 19 = .ok (.aload 5, 2) := by decide +kernel
theorem dX8_tableNow_21 : decode cX8_tableNow 21 = .ok (.invokeinterface 104 1, 5) := by decide +kernel
theorem dX8_tableNow_26 : decode cX8_tableNow 26 = .ok (.ifCond .eq 27, 3) := by decide +kernel
theorem dX8_tableNow_29 : decode cX8_tableNow 29 = .ok (.aload 5, 2) := by decide +kernel
theorem dX8_tableNow_31 : decode cX8_tableNow 31 = .ok (.invokeinterface 110 1, 5) := by decide +kernel
theorem dX8_tableNow_36 : decode cX8_tableNow 36 = .ok (.checkcast 68, 3) := by decide +kernel
theorem dX8_tableNow_39 : decode cX8_tableNow 39 = .ok (.astore 6, 2) := by decide +kernel
theorem dX8_tableNow_41 : decode cX8_tableNow 41 = .ok (.iload 4, 2) := by decide +kernel
theorem dX8_tableNow_43 : decode cX8_tableNow 43 = .ok (.aload 6, 2) := by decide +kernel
theorem dX8_tableNow_45 : decode cX8_tableNow 45 = .ok (.iconst 1, 1) := by decide +kernel
theorem dX8_tableNow_46 : decode cX8_tableNow 46 = .ok (.iaload, 1) := by decide +kernel
theorem dX8_tableNow_47 : decode cX8_tableNow 47 = .ok (.iadd, 1) := by decide +kernel
theorem dX8_tableNow_48 : decode cX8_tableNow 48 = .ok (.istore 4, 2) := by decide +kernel
theorem dX8_tableNow_50 : decode cX8_tableNow 50 = .ok (.goto (-31), 3) := by decide +kernel
theorem dX8_tableNow_53 : decode cX8_tableNow 53 = .ok (.iconst 5, 1) := by decide +kernel
theorem dX8_tableNow_54 : decode cX8_tableNow 54 = .ok (.newarray .int, 2) := by decide +kernel
theorem dX8_tableNow_56 : decode cX8_tableNow 56 = .ok (.dup, 1) := by decide +kernel
theorem dX8_tableNow_57 : decode cX8_tableNow 57 = .ok (.iconst 0, 1) := by decide +kernel
theorem dX8_tableNow_58 : decode cX8_tableNow 58 = .ok (.aload_n 3, 1) := by decide +kernel
theorem dX8_tableNow_59 : decode cX8_tableNow 59 = .ok (.getfield 136, 3) := by decide +kernel
theorem dX8_tableNow_62 : decode cX8_tableNow 62 = .ok (.invokestatic 139, 3) := by decide +kernel
theorem dX8_tableNow_65 : decode cX8_tableNow 65 = .ok (.iastore, 1) := by decide +kernel
theorem dX8_tableNow_66 : decode cX8_tableNow 66 = .ok (.dup, 1) := by decide +kernel
theorem dX8_tableNow_67 : decode cX8_tableNow 67 = .ok (.iconst 1, 1) := by decide +kernel
theorem dX8_tableNow_68 : decode cX8_tableNow 68 = .ok (.aload_n 3, 1) := by decide +kernel
theorem dX8_tableNow_69 : decode cX8_tableNow 69 = .ok (.getfield 78, 3) := by decide +kernel
theorem dX8_tableNow_72 : decode cX8_tableNow 72 = .ok (.iastore, 1) := by decide +kernel
theorem dX8_tableNow_73 : decode cX8_tableNow 73 = .ok (.dup, 1) := by decide +kernel
theorem dX8_tableNow_74 : decode cX8_tableNow 74 = .ok (.iconst 2, 1) := by decide +kernel
theorem dX8_tableNow_75 : decode cX8_tableNow 75 = .ok (.aload_n 3, 1) := by decide +kernel
theorem dX8_tableNow_76 : decode cX8_tableNow 76 = .ok (.getfield 81, 3) := by decide +kernel
theorem dX8_tableNow_79 : decode cX8_tableNow 79 = .ok (.iastore, 1) := by decide +kernel
theorem dX8_tableNow_80 : decode cX8_tableNow 80 = .ok (.dup, 1) := by decide +kernel
theorem dX8_tableNow_81 : decode cX8_tableNow 81 = .ok (.iconst 3, 1) := by decide +kernel
theorem dX8_tableNow_82 : decode cX8_tableNow 82 = .ok (.aload_n 3, 1) := by decide +kernel
theorem dX8_tableNow_83 : decode cX8_tableNow 83 = .ok (.getfield 87, 3) := by decide +kernel
theorem dX8_tableNow_86 : decode cX8_tableNow 86 = .ok (.iastore, 1) := by decide +kernel
theorem dX8_tableNow_87 : decode cX8_tableNow 87 = .ok (.dup, 1) := by decide +kernel
theorem dX8_tableNow_88 : decode cX8_tableNow 88 = .ok (.iconst 4, 1) := by decide +kernel
theorem dX8_tableNow_89 : decode cX8_tableNow 89 = .ok (.iload 4, 2) := by decide +kernel
theorem dX8_tableNow_91 : decode cX8_tableNow 91 = .ok (.iastore, 1) := by decide +kernel
theorem dX8_tableNow_92 : decode cX8_tableNow 92 = .ok (.astore 5, 2) := by decide +kernel
theorem dX8_tableNow_94 : decode cX8_tableNow 94 = .ok (.aload 5, 2) := by decide +kernel
theorem dX8_tableNow_96 : decode cX8_tableNow 96 = .ok (.iload_n 2, 1) := by decide +kernel
theorem dX8_tableNow_97 : decode cX8_tableNow 97 = .ok (.iaload, 1) := by decide +kernel
theorem dX8_tableNow_98 : decode cX8_tableNow 98 = .ok (.ireturn, 1) := by decide +kernel
theorem dX8_ofTable_0 : decode cX8_ofTable 0 = .ok (.aload_n 0, 1) := by decide +kernel
theorem dX8_ofTable_1 : decode cX8_ofTable 1 = .ok (.iload_n 1, 1) := by decide +kernel
theorem dX8_ofTable_2 : decode cX8_ofTable 2 = .ok (.invokestatic 34, 3) := by decide +kernel
theorem dX8_ofTable_5 : decode cX8_ofTable 5 = .ok (.iload_n 2, 1) := by decide +kernel
theorem dX8_ofTable_6 : decode cX8_ofTable 6 = .ok (.iconst 5, 1) := by decide +kernel
theorem dX8_ofTable_7 : decode cX8_ofTable 7 = .ok (.invokestatic 27, 3) := by decide +kernel
theorem dX8_ofTable_10 : decode cX8_ofTable 10 = .ok (.iconst 0, 1) := by decide +kernel
theorem dX8_ofTable_11 : decode cX8_ofTable 11 = .ok (.invokevirtual 38, 3) := by decide +kernel
theorem dX8_ofTable_14 : decode cX8_ofTable 14 = .ok (.ifCond .eq 7, 3) := by decide +kernel
theorem dX8_ofTable_17 : decode cX8_ofTable 17 = .ok (.iconst 0, 1) := by decide +kernel
theorem dX8_ofTable_18 : decode cX8_ofTable 18 = .ok (.goto 9, 3) := by decide +kernel
theorem dX8_ofTable_21 : decode cX8_ofTable 21 = .ok (.aload_n 0, 1) := by decide +kernel
theorem dX8_ofTable_22 : decode cX8_ofTable 22 = .ok (.iload_n 1, 1) := by decide +kernel
theorem dX8_ofTable_23 : decode cX8_ofTable 23 = .ok (.iload_n 2, 1) := by decide +kernel
theorem dX8_ofTable_24 : decode cX8_ofTable 24 = .ok (.invokevirtual 143, 3) := by decide +kernel
theorem dX8_ofTable_27 : decode cX8_ofTable 27 = .ok (.ireturn, 1) := by decide +kernel
theorem dX8_walk_0 : decode cX8_walk 0 = .ok (.aload_n 0, 1) := by decide +kernel
theorem dX8_walk_1 : decode cX8_walk 1 = .ok (.iload_n 1, 1) := by decide +kernel
theorem dX8_walk_2 : decode cX8_walk 2 = .ok (.invokestatic 34, 3) := by decide +kernel
theorem dX8_walk_5 : decode cX8_walk 5 = .ok (.iload_n 2, 1) := by decide +kernel
theorem dX8_walk_6 : decode cX8_walk 6 = .ok (.iconst 3, 1) := by decide +kernel
theorem dX8_walk_7 : decode cX8_walk 7 = .ok (.invokestatic 27, 3) := by decide +kernel
theorem dX8_walk_10 : decode cX8_walk 10 = .ok (.iconst 0, 1) := by decide +kernel
theorem dX8_walk_11 : decode cX8_walk 11 = .ok (.invokevirtual 38, 3) := by decide +kernel
theorem dX8_walk_14 : decode cX8_walk 14 = .ok (.ifCond .eq 5, 3) := by decide +kernel
theorem dX8_walk_17 : decode cX8_walk 17 = .ok (.iconst 0, 1) := by decide +kernel
theorem dX8_walk_18 : decode cX8_walk 18 = .ok (.ireturn, 1) := by decide +kernel
theorem dX8_walk_19 : decode cX8_walk 19 = .ok (.aload_n 0, 1) := by decide +kernel
theorem dX8_walk_20 : decode cX8_walk 20 = .ok (.getfield 10, 3) := by decide +kernel
theorem dX8_walk_23 : decode cX8_walk 23 = .ok (.iload_n 1, 1) := by decide +kernel
theorem dX8_walk_24 : decode cX8_walk 24 = .ok (.aaload, 1) := by decide +kernel
theorem dX8_walk_25 : decode cX8_walk 25 = .ok (.astore_n 3, 1) := by decide +kernel
theorem dX8_walk_26 : decode cX8_walk 26 = .ok (.aload_n 3, 1) := by decide +kernel
theorem dX8_walk_27 : decode cX8_walk 27 = .ok (.iload_n 2, 1) := by decide +kernel
theorem dX8_walk_28 : decode cX8_walk 28 = .ok (.putfield 147, 3) := by decide +kernel
theorem dX8_walk_31 : decode cX8_walk 31 = .ok (.aload_n 3, 1) := by decide +kernel
theorem dX8_walk_32 : decode cX8_walk 32 = .ok (.iconst 0, 1) := by decide +kernel
theorem dX8_walk_33 : decode cX8_walk 33 = .ok (.putfield 150, 3) := by decide +kernel
theorem dX8_walk_36 : decode cX8_walk 36 = .ok (.aload_n 3, 1) := by decide +kernel
theorem dX8_walk_37 : decode cX8_walk 37 = .ok (.iconst 0, 1) := by decide +kernel
theorem dX8_walk_38 : decode cX8_walk 38 = .ok (.putfield 153, 3) := by decide +kernel
theorem dX8_walk_41 : decode cX8_walk 41 = .ok (.aload_n 3, 1) := by decide +kernel
theorem dX8_walk_42 : decode cX8_walk 42 = .ok (.iconst 0, 1) := by decide +kernel
theorem dX8_walk_43 : decode cX8_walk 43 = .ok (.putfield 56, 3) := by decide +kernel
theorem dX8_walk_46 : decode cX8_walk 46 = .ok (.aload_n 3, 1) := by decide +kernel
theorem dX8_walk_47 : decode cX8_walk 47 = .ok (.getfield 42, 3) := by decide +kernel
theorem dX8_walk_50 : decode cX8_walk 50 = .ok (.invokevirtual 45, 3) := by decide +kernel
theorem dX8_walk_53 : decode cX8_walk 53 = .ok (.ireturn, 1) := by decide +kernel
theorem dX8_step_0 : decode cX8_step 0 = .ok (.aload_n 0, 1) := by decide +kernel
theorem dX8_step_1 : decode cX8_step 1 = .ok (.iload_n 1, 1) := by decide +kernel
theorem dX8_step_2 : decode cX8_step 2 = .ok (.invokestatic 34, 3) := by decide +kernel
theorem dX8_step_5 : decode cX8_step 5 = .ok (.iconst 0, 1) := by decide +kernel
theorem dX8_step_6 : decode cX8_step 6 = .ok (.iconst 0, 1) := by decide +kernel
theorem dX8_step_7 : decode cX8_step 7 = .ok (.invokevirtual 38, 3) := by decide +kernel
theorem dX8_step_10 : decode cX8_step 10 = .ok (.ifCond .eq 5, 3) := by decide +kernel
theorem dX8_step_13 : decode cX8_step 13 = .ok (.iconst 0, 1) := by decide +kernel
theorem dX8_step_14 : decode cX8_step 14 = .ok (.ireturn, 1) := by decide +kernel
theorem dX8_step_15 : decode cX8_step 15 = .ok (.aload_n 0, 1) := by decide +kernel
theorem dX8_step_16 : decode cX8_step 16 = .ok (.getfield 10, 3) := by decide +kernel
theorem dX8_step_19 : decode cX8_step 19 = .ok (.iload_n 1, 1) := by decide +kernel
theorem dX8_step_20 : decode cX8_step 20 = .ok (.aaload, 1) := by decide +kernel
theorem dX8_step_21 : decode cX8_step 21 = .ok (.astore_n 2, 1) := by decide +kernel
theorem dX8_step_22 : decode cX8_step 22 = .ok (.aload_n 2, 1) := by decide +kernel
theorem dX8_step_23 : decode cX8_step 23 = .ok (.invokevirtual 156, 3) := by decide +kernel
theorem dX8_step_26 : decode cX8_step 26 = .ok (.ifCond .ne 8, 3) := by decide +kernel
theorem dX8_step_29 : decode cX8_step 29 = .ok (.aload_n 0, 1) := by decide +kernel
theorem dX8_step_30 : decode cX8_step 30 = .ok (.invokevirtual 97, 3) := by decide +kernel
theorem dX8_step_33 : decode cX8_step 33 = .ok (.ireturn, 1) := by decide +kernel
theorem dX8_step_34 : decode cX8_step 34 = .ok (.aload_n 2, 1) := by decide +kernel
theorem dX8_step_35 : decode cX8_step 35 = .ok (.invokevirtual 159, 3) := by decide +kernel
theorem dX8_step_38 : decode cX8_step 38 = .ok (.ifCond .eq 10, 3) := by decide +kernel
theorem dX8_step_41 : decode cX8_step 41 = .ok (.aload_n 2, 1) := by decide +kernel
theorem dX8_step_42 : decode cX8_step 42 = .ok (.invokevirtual 162, 3) := by decide +kernel
theorem dX8_step_45 : decode cX8_step 45 = .ok (.goto 5, 3) := by decide +kernel
theorem dX8_step_48 : decode cX8_step 48 = .ok (.bipush (-8), 2) := by decide +kernel
theorem dX8_step_50 : decode cX8_step 50 = .ok (.ireturn, 1) := by decide +kernel
theorem dX8_cut_0 : decode cX8_cut 0 = .ok (.aload_n 0, 1) := by decide +kernel
theorem dX8_cut_1 : decode cX8_cut 1 = .ok (.iload_n 1, 1) := by decide +kernel
theorem dX8_cut_2 : decode cX8_cut 2 = .ok (.invokestatic 34, 3) := by decide +kernel
theorem dX8_cut_5 : decode cX8_cut 5 = .ok (.iconst 0, 1) := by decide +kernel
theorem dX8_cut_6 : decode cX8_cut 6 = .ok (.iconst 0, 1) := by decide +kernel
theorem dX8_cut_7 : decode cX8_cut 7 = .ok (.invokevirtual 38, 3) := by decide +kernel
theorem dX8_cut_10 : decode cX8_cut 10 = .ok (.ifCond .eq 5, 3) := by decide +kernel
theorem dX8_cut_13 : decode cX8_cut 13 = .ok (.iconst 0, 1) := by decide +kernel
theorem dX8_cut_14 : decode cX8_cut 14 = .ok (.ireturn, 1) := by decide +kernel
theorem dX8_cut_15 : decode cX8_cut 15 = .ok (.aload_n 0, 1) := by decide +kernel
theorem dX8_cut_16 : decode cX8_cut 16 = .ok (.getfield 10, 3) := by decide +kernel
theorem dX8_cut_19 : decode cX8_cut 19 = .ok (.iload_n 1, 1) := by decide +kernel
theorem dX8_cut_20 : decode cX8_cut 20 = .ok (.aaload, 1) := by decide +kernel
theorem dX8_cut_21 : decode cX8_cut 21 = .ok (.astore_n 2, 1) := by decide +kernel
theorem dX8_cut_22 : decode cX8_cut 22 = .ok (.aload_n 2, 1) := by decide +kernel
theorem dX8_cut_23 : decode cX8_cut 23 = .ok (.invokevirtual 156, 3) := by decide +kernel
theorem dX8_cut_26 : decode cX8_cut 26 = .ok (.ifCond .eq 10, 3) := by decide +kernel
theorem dX8_cut_29 : decode cX8_cut 29 = .ok (.aload_n 2, 1) := by decide +kernel
theorem dX8_cut_30 : decode cX8_cut 30 = .ok (.getfield 153, 3) := by decide +kernel
theorem dX8_cut_33 : decode cX8_cut 33 = .ok (.ifCond .ne 8, 3) := by decide +kernel
theorem dX8_cut_36 : decode cX8_cut 36 = .ok (.aload_n 0, 1) := by decide +kernel
theorem dX8_cut_37 : decode cX8_cut 37 = .ok (.invokevirtual 97, 3) := by decide +kernel
theorem dX8_cut_40 : decode cX8_cut 40 = .ok (.ireturn, 1) := by decide +kernel
theorem dX8_cut_41 : decode cX8_cut 41 = .ok (.aload_n 2, 1) := by decide +kernel
theorem dX8_cut_42 : decode cX8_cut 42 = .ok (.iconst 0, 1) := by decide +kernel
theorem dX8_cut_43 : decode cX8_cut 43 = .ok (.putfield 153, 3) := by decide +kernel
theorem dX8_cut_46 : decode cX8_cut 46 = .ok (.aload_n 2, 1) := by decide +kernel
theorem dX8_cut_47 : decode cX8_cut 47 = .ok (.dup, 1) := by decide +kernel
theorem dX8_cut_48 : decode cX8_cut 48 = .ok (.getfield 150, 3) := by decide +kernel
theorem dX8_cut_51 : decode cX8_cut 51 = .ok (.iconst 1, 1) := by decide +kernel
theorem dX8_cut_52 : decode cX8_cut 52 = .ok (.isub, 1) := by decide +kernel
theorem dX8_cut_53 : decode cX8_cut 53 = .ok (.putfield 150, 3) := by decide +kernel
theorem dX8_cut_56 : decode cX8_cut 56 = .ok (.aload_n 2, 1) := by decide +kernel
theorem dX8_cut_57 : decode cX8_cut 57 = .ok (.getfield 42, 3) := by decide +kernel
theorem dX8_cut_60 : decode cX8_cut 60 = .ok (.aload_n 2, 1) := by decide +kernel
theorem dX8_cut_61 : decode cX8_cut 61 = .ok (.getfield 150, 3) := by decide +kernel
theorem dX8_cut_64 : decode cX8_cut 64 = .ok (.invokevirtual 84, 3) := by decide +kernel
theorem dX8_cut_67 : decode cX8_cut 67 = .ok (.pop, 1) := by decide +kernel
theorem dX8_cut_68 : decode cX8_cut 68 = .ok (.aload_n 2, 1) := by decide +kernel
theorem dX8_cut_69 : decode cX8_cut 69 = .ok (.getfield 42, 3) := by decide +kernel
theorem dX8_cut_72 : decode cX8_cut 72 = .ok (.invokevirtual 45, 3) := by decide +kernel
theorem dX8_cut_75 : decode cX8_cut 75 = .ok (.ireturn, 1) := by decide +kernel
theorem dX8_hasMore_0 : decode cX8_hasMore 0 = .ok (.aload_n 0, 1) := by decide +kernel
theorem dX8_hasMore_1 : decode cX8_hasMore 1 = .ok (.iload_n 1, 1) := by decide +kernel
theorem dX8_hasMore_2 : decode cX8_hasMore 2 = .ok (.invokestatic 34, 3) := by decide +kernel
theorem dX8_hasMore_5 : decode cX8_hasMore 5 = .ok (.iconst 0, 1) := by decide +kernel
theorem dX8_hasMore_6 : decode cX8_hasMore 6 = .ok (.iconst 0, 1) := by decide +kernel
theorem dX8_hasMore_7 : decode cX8_hasMore 7 = .ok (.invokevirtual 38, 3) := by decide +kernel
theorem dX8_hasMore_10 : decode cX8_hasMore 10 = .ok (.ifCond .ne 19, 3) := by decide +kernel
theorem dX8_hasMore_13 : decode cX8_hasMore 13 = .ok (.aload_n 0, 1) := by decide +kernel
theorem dX8_hasMore_14 : decode cX8_hasMore 14 = .ok (.getfield 10, 3) := by decide +kernel
theorem dX8_hasMore_17 : decode cX8_hasMore 17 = .ok (.iload_n 1, 1) := by decide +kernel
theorem dX8_hasMore_18 : decode cX8_hasMore 18 = .ok (.aaload, 1) := by decide +kernel
theorem dX8_hasMore_19 : decode cX8_hasMore 19 = .ok (.invokevirtual 159, 3) := by decide +kernel
theorem dX8_hasMore_22 : decode cX8_hasMore 22 = .ok (.ifCond .eq 7, 3) := by decide +kernel
theorem dX8_hasMore_25 : decode cX8_hasMore 25 = .ok (.iconst 1, 1) := by decide +kernel
theorem dX8_hasMore_26 : decode cX8_hasMore 26 = .ok (.goto 4, 3) := by decide +kernel
theorem dX8_hasMore_29 : decode cX8_hasMore 29 = .ok (.iconst 0, 1) := by decide +kernel
theorem dX8_hasMore_30 : decode cX8_hasMore 30 = .ok (.ireturn, 1) := by decide +kernel
theorem dX8_isStaleNow_0 : decode cX8_isStaleNow 0 = .ok (.aload_n 0, 1) := by decide +kernel
theorem dX8_isStaleNow_1 : decode cX8_isStaleNow 1 = .ok (.getfield 10, 3) := by decide +kernel
theorem dX8_isStaleNow_4 : decode cX8_isStaleNow 4 = .ok (.iload_n 1, 1) := by decide +kernel
theorem dX8_isStaleNow_5 : decode cX8_isStaleNow 5 = .ok (.aaload, 1) := by decide +kernel
theorem dX8_isStaleNow_6 : decode cX8_isStaleNow 6 = .ok (.getfield 147, 3) := by decide +kernel
theorem dX8_isStaleNow_9 : decode cX8_isStaleNow 9 = .ok (.iconst (-1), 1) := by decide +kernel
theorem dX8_isStaleNow_10 : decode cX8_isStaleNow 10 = .ok (.if_icmp .eq 19, 3) := by decide +kernel
theorem dX8_isStaleNow_13 : decode cX8_isStaleNow 13 = .ok (.aload_n 0, 1) := by decide +kernel
theorem dX8_isStaleNow_14 : decode cX8_isStaleNow 14 = .ok (.getfield 10, 3) := by decide +kernel
theorem dX8_isStaleNow_17 : decode cX8_isStaleNow 17 = .ok (.iload_n 1, 1) := by decide +kernel
theorem dX8_isStaleNow_18 : decode cX8_isStaleNow 18 = .ok (.aaload, 1) := by decide +kernel
theorem dX8_isStaleNow_19 : decode cX8_isStaleNow 19 = .ok (.getfield 56, 3) := by decide +kernel
theorem dX8_isStaleNow_22 : decode cX8_isStaleNow 22 = .ok (.ifCond .eq 7, 3) := by decide +kernel
theorem dX8_isStaleNow_25 : decode cX8_isStaleNow 25 = .ok (.iconst 1, 1) := by decide +kernel
theorem dX8_isStaleNow_26 : decode cX8_isStaleNow 26 = .ok (.goto 4, 3) := by decide +kernel
theorem dX8_isStaleNow_29 : decode cX8_isStaleNow 29 = .ok (.iconst 0, 1) := by decide +kernel
theorem dX8_isStaleNow_30 : decode cX8_isStaleNow 30 = .ok (.ireturn, 1) := by decide +kernel
theorem dX8_isStale_0 : decode cX8_isStale 0 = .ok (.aload_n 0, 1) := by decide +kernel
theorem dX8_isStale_1 : decode cX8_isStale 1 = .ok (.iload_n 1, 1) := by decide +kernel
theorem dX8_isStale_2 : decode cX8_isStale 2 = .ok (.invokestatic 34, 3) := by decide +kernel
theorem dX8_isStale_5 : decode cX8_isStale 5 = .ok (.iconst 0, 1) := by decide +kernel
theorem dX8_isStale_6 : decode cX8_isStale 6 = .ok (.iconst 0, 1) := by decide +kernel
theorem dX8_isStale_7 : decode cX8_isStale 7 = .ok (.invokevirtual 38, 3) := by decide +kernel
theorem dX8_isStale_10 : decode cX8_isStale 10 = .ok (.ifCond .ne 15, 3) := by decide +kernel
theorem dX8_isStale_13 : decode cX8_isStale 13 = .ok (.aload_n 0, 1) := by decide +kernel
theorem dX8_isStale_14 : decode cX8_isStale 14 = .ok (.iload_n 1, 1) := by decide +kernel
theorem dX8_isStale_15 : decode cX8_isStale 15 = .ok (.invokevirtual 165, 3) := by decide +kernel
theorem dX8_isStale_18 : decode cX8_isStale 18 = .ok (.ifCond .eq 7, 3) := by decide +kernel
theorem dX8_isStale_21 : decode cX8_isStale 21 = .ok (.iconst 1, 1) := by decide +kernel
theorem dX8_isStale_22 : decode cX8_isStale 22 = .ok (.goto 4, 3) := by decide +kernel
theorem dX8_isStale_25 : decode cX8_isStale 25 = .ok (.iconst 0, 1) := by decide +kernel
theorem dX8_isStale_26 : decode cX8_isStale 26 = .ok (.ireturn, 1) := by decide +kernel
theorem dX8_rest_0 : decode cX8_rest 0 = .ok (.aload_n 0, 1) := by decide +kernel
theorem dX8_rest_1 : decode cX8_rest 1 = .ok (.iload_n 1, 1) := by decide +kernel
theorem dX8_rest_2 : decode cX8_rest 2 = .ok (.invokestatic 34, 3) := by decide +kernel
theorem dX8_rest_5 : decode cX8_rest 5 = .ok (.iconst 0, 1) := by decide +kernel
theorem dX8_rest_6 : decode cX8_rest 6 = .ok (.iconst 0, 1) := by decide +kernel
theorem dX8_rest_7 : decode cX8_rest 7 = .ok (.invokevirtual 38, 3) := by decide +kernel
theorem dX8_rest_10 : decode cX8_rest 10 = .ok (.ifCond .eq 5, 3) := by decide +kernel
theorem dX8_rest_13 : decode cX8_rest 13 = .ok (.iconst 0, 1) := by decide +kernel
theorem dX8_rest_14 : decode cX8_rest 14 = .ok (.ireturn, 1) := by decide +kernel
theorem dX8_rest_15 : decode cX8_rest 15 = .ok (.aload_n 0, 1) := by decide +kernel
theorem dX8_rest_16 : decode cX8_rest 16 = .ok (.getfield 10, 3) := by decide +kernel
theorem dX8_rest_19 : decode cX8_rest 19 = .ok (.iload_n 1, 1) := by decide +kernel
theorem dX8_rest_20 : decode cX8_rest 20 = .ok (.aaload, 1) := by decide +kernel
theorem dX8_rest_21 : decode cX8_rest 21 = .ok (.astore_n 2, 1) := by decide +kernel
theorem dX8_rest_22 : decode cX8_rest 22 = .ok (.aload_n 2, 1) := by decide +kernel
theorem dX8_rest_23 : decode cX8_rest 23 = .ok (.invokevirtual 156, 3) := by decide +kernel
theorem dX8_rest_26 : decode cX8_rest 26 = .ok (.ifCond .ne 8, 3) := by decide +kernel
theorem dX8_rest_29 : decode cX8_rest 29 = .ok (.aload_n 0, 1) := by decide +kernel
theorem dX8_rest_30 : decode cX8_rest 30 = .ok (.invokevirtual 97, 3) := by decide +kernel
theorem dX8_rest_33 : decode cX8_rest 33 = .ok (.ireturn, 1) := by decide +kernel
theorem dX8_rest_34 : decode cX8_rest 34 = .ok (.iconst 0, 1) := by decide +kernel
theorem dX8_rest_35 : decode cX8_rest 35 = .ok (.istore_n 3, 1) := by decide +kernel
theorem dX8_rest_36 : decode cX8_rest 36 = .ok (.aload_n 2, 1) := by decide +kernel
theorem dX8_rest_37 : decode cX8_rest 37 = .ok (.invokevirtual 159, 3) := by decide +kernel
theorem dX8_rest_40 : decode cX8_rest 40 = .ok (.ifCond .eq 13, 3) := by decide +kernel
theorem dX8_rest_43 : decode cX8_rest 43 = .ok (.iload_n 3, 1) := by decide +kernel
theorem dX8_rest_44 : decode cX8_rest 44 = .ok (.aload_n 2, 1) := by decide +kernel
theorem dX8_rest_45 : decode cX8_rest 45 = .ok (.invokevirtual 162, 3) := by decide +kernel
theorem dX8_rest_48 : decode cX8_rest 48 = .ok (.iadd, 1) := by decide +kernel
theorem dX8_rest_49 : decode cX8_rest 49 = .ok (.istore_n 3, 1) := by decide +kernel
theorem dX8_rest_50 : decode cX8_rest 50 = .ok (.goto (-14), 3) := by decide +kernel
theorem dX8_rest_53 : decode cX8_rest 53 = .ok (.iload_n 3, 1) := by decide +kernel
theorem dX8_rest_54 : decode cX8_rest 54 = .ok (.ireturn, 1) := by decide +kernel
theorem dX8_unlike_0 : decode cX8_unlike 0 = .ok (.iconst 0, 1) := by decide +kernel
theorem dX8_unlike_1 : decode cX8_unlike 1 = .ok (.istore_n 3, 1) := by decide +kernel
theorem dX8_unlike_2 : decode cX8_unlike 2 = .ok (.iload_n 1, 1) := by decide +kernel
theorem dX8_unlike_3 : decode cX8_unlike 3 = .ok (.istore 4, 2) := by decide +kernel
theorem dX8_unlike_5 : decode cX8_unlike 5 = .ok (.iload 4, 2) := by decide +kernel
theorem dX8_unlike_7 : decode cX8_unlike 7 = .ok (.iload_n 2, 1) := by decide +kernel
theorem dX8_unlike_8 : decode cX8_unlike 8 = .ok (.if_icmp .ge 45, 3) := by decide +kernel
theorem dX8_unlike_11 : decode cX8_unlike 11 = .ok (.iload_n 3, 1) := by decide +kernel
theorem dX8_unlike_12 : decode cX8_unlike 12 = .ok (.aload_n 0, 1) := by decide +kernel
theorem dX8_unlike_13 : decode cX8_unlike 13 = .ok (.aload_n 0, 1) := by decide +kernel
theorem dX8_unlike_14 : decode cX8_unlike 14 = .ok (.getfield 19, 3) := by decide +kernel
theorem dX8_unlike_17 : decode cX8_unlike 17 = .ok (.iload 4, 2) := by decide +kernel
theorem dX8_unlike_19 : decode cX8_unlike 19 = .ok (.invokevirtual 64, 3) := by decide +kernel
theorem dX8_unlike_22 : decode cX8_unlike 22 = .ok (.checkcast 168, 3) := by decide +kernel
theorem dX8_unlike_25 : decode cX8_unlike 25 = .ok (.invokevirtual 170, 3) := by decide +kernel
theorem dX8_unlike_28 : decode cX8_unlike 28 = .ok (.iload 4, 2) := by decide +kernel
theorem dX8_unlike_30 : decode cX8_unlike 30 = .ok (.invokevirtual 173, 3) := by decide +kernel
theorem dX8_unlike_33 : decode cX8_unlike 33 = .ok (.iload_n 1, 1) := by decide +kernel
theorem dX8_unlike_34 : decode cX8_unlike 34 = .ok (.if_icmp .ge 7, 3) := by decide +kernel
theorem dX8_unlike_37 : decode cX8_unlike 37 = .ok (.iconst 1, 1) := by decide +kernel
theorem dX8_unlike_38 : decode cX8_unlike 38 = .ok (.goto 4, 3) := by decide +kernel
theorem dX8_unlike_41 : decode cX8_unlike 41 = .ok (.iconst 0, 1) := by decide +kernel
theorem dX8_unlike_42 : decode cX8_unlike 42 = .ok (.invokestatic 139, 3) := by decide +kernel
theorem dX8_unlike_45 : decode cX8_unlike 45 = .ok (.iadd, 1) := by decide +kernel
theorem dX8_unlike_46 : decode cX8_unlike 46 = .ok (.istore_n 3, 1) := by decide +kernel
theorem dX8_unlike_47 : decode cX8_unlike 47 = .ok (.iinc 4 1, 3) := by decide +kernel
theorem dX8_unlike_50 : decode cX8_unlike 50 = .ok (.goto (-45), 3) := by decide +kernel
theorem dX8_unlike_53 : decode cX8_unlike 53 = .ok (.iload_n 3, 1) := by decide +kernel
theorem dX8_unlike_54 : decode cX8_unlike 54 = .ok (.ireturn, 1) := by decide +kernel
theorem dX8_before_0 : decode cX8_before 0 = .ok (.iload_n 2, 1) := by decide +kernel
theorem dX8_before_1 : decode cX8_before 1 = .ok (.iconst 1, 1) := by decide +kernel
theorem dX8_before_2 : decode cX8_before 2 = .ok (.isub, 1) := by decide +kernel
theorem dX8_before_3 : decode cX8_before 3 = .ok (.istore_n 3, 1) := by decide +kernel
theorem dX8_before_4 : decode cX8_before 4 = .ok (.iload_n 3, 1) := by decide +kernel
theorem dX8_before_5 : decode cX8_before 5 = .ok (.ifCond .lt 29, 3) := by decide +kernel
theorem dX8_before_8 : decode cX8_before 8 = .ok (.aload_n 0, 1) := by decide +kernel
theorem dX8_before_9 : decode cX8_before 9 = .ok (.getfield 19, 3) := by decide +kernel
theorem dX8_before_12 : decode cX8_before 12 = .ok (.iload_n 3, 1) := by decide +kernel
theorem dX8_before_13 : decode cX8_before 13 = .ok (.invokevirtual 64, 3) := by decide +kernel
theorem dX8_before_16 : decode cX8_before 16 = .ok (.checkcast 168, 3) := by decide +kernel
theorem dX8_before_19 : decode cX8_before 19 = .ok (.invokevirtual 170, 3) := by decide +kernel
theorem dX8_before_22 : decode cX8_before 22 = .ok (.iload_n 1, 1) := by decide +kernel
theorem dX8_before_23 : decode cX8_before 23 = .ok (.if_icmp .ne 5, 3) := by decide +kernel
theorem dX8_before_26 : decode cX8_before 26 = .ok (.iload_n 3, 1) := by decide +kernel
theorem dX8_before_27 : decode cX8_before 27 = .ok (.ireturn, 1) := by decide +kernel
theorem dX8_before_28 : decode cX8_before 28 = .ok (.iinc 3 (-1), 3) := by decide +kernel
theorem dX8_before_31 : decode cX8_before 31 = .ok (.goto (-27), 3) := by decide +kernel
theorem dX8_before_34 : decode cX8_before 34 = .ok (.iconst (-1), 1) := by decide +kernel
theorem dX8_before_35 : decode cX8_before 35 = .ok (.ireturn, 1) := by decide +kernel
theorem dX8_depthOf_0 : decode cX8_depthOf 0 = .ok (.aload_n 0, 1) := by decide +kernel
theorem dX8_depthOf_1 : decode cX8_depthOf 1 = .ok (.iload_n 1, 1) := by decide +kernel
theorem dX8_depthOf_2 : decode cX8_depthOf 2 = .ok (.iload_n 2, 1) := by decide +kernel
theorem dX8_depthOf_3 : decode cX8_depthOf 3 = .ok (.invokevirtual 173, 3) := by decide +kernel
theorem dX8_depthOf_6 : decode cX8_depthOf 6 = .ok (.istore_n 3, 1) := by decide +kernel
theorem dX8_depthOf_7 : decode cX8_depthOf 7 = .ok (.iload_n 3, 1) := by decide +kernel
theorem dX8_depthOf_8 : decode cX8_depthOf 8 = .ok (.iconst (-1), 1) := by decide +kernel
theorem dX8_depthOf_9 : decode cX8_depthOf 9 = .ok (.if_icmp .ne 7, 3) := by decide +kernel
theorem dX8_depthOf_12 : decode cX8_depthOf 12 = .ok (.iconst 0, 1) := by decide +kernel
theorem dX8_depthOf_13 : decode cX8_depthOf 13 = .ok (.goto 13, 3) := by decide +kernel
theorem dX8_depthOf_16 : decode cX8_depthOf 16 = .ok (.iconst 1, 1) := by decide +kernel
theorem dX8_depthOf_17 : decode cX8_depthOf 17 = .ok (.aload_n 0, 1) := by decide +kernel
theorem dX8_depthOf_18 : decode cX8_depthOf 18 = .ok (.iload_n 3, 1) := by decide +kernel
theorem dX8_depthOf_19 : decode cX8_depthOf 19 = .ok (.iconst 1, 1) := by decide +kernel
theorem dX8_depthOf_20 : decode cX8_depthOf 20 = .ok (.iadd, 1) := by decide +kernel
theorem dX8_depthOf_21 : decode cX8_depthOf 21 = .ok (.iload_n 2, 1) := by decide +kernel
theorem dX8_depthOf_22 : decode cX8_depthOf 22 = .ok (.invokevirtual 176, 3) := by decide +kernel
theorem dX8_depthOf_25 : decode cX8_depthOf 25 = .ok (.iadd, 1) := by decide +kernel
theorem dX8_depthOf_26 : decode cX8_depthOf 26 = .ok (.ireturn, 1) := by decide +kernel
theorem dX8_isHit_0 : decode cX8_isHit 0 = .ok (.aload_n 0, 1) := by decide +kernel
theorem dX8_isHit_1 : decode cX8_isHit 1 = .ok (.aload_n 0, 1) := by decide +kernel
theorem dX8_isHit_2 : decode cX8_isHit 2 = .ok (.getfield 19, 3) := by decide +kernel
theorem dX8_isHit_5 : decode cX8_isHit 5 = .ok (.iload_n 2, 1) := by decide +kernel
theorem dX8_isHit_6 : decode cX8_isHit 6 = .ok (.invokevirtual 64, 3) := by decide +kernel
theorem dX8_isHit_9 : decode cX8_isHit 9 = .ok (.checkcast 168, 3) := by decide +kernel
theorem dX8_isHit_12 : decode cX8_isHit 12 = .ok (.invokevirtual 170, 3) := by decide +kernel
theorem dX8_isHit_15 : decode cX8_isHit 15 = .ok (.iload_n 2, 1) := by decide +kernel
theorem dX8_isHit_16 : decode cX8_isHit 16 = .ok (.invokevirtual 179, 3) := by decide +kernel
theorem dX8_isHit_19 : decode cX8_isHit 19 = .ok (.istore_n 3, 1) := by decide +kernel
theorem dX8_isHit_20 : decode cX8_isHit 20 = .ok (.iload_n 3, 1) := by decide +kernel
theorem dX8_isHit_21 : decode cX8_isHit 21 = .ok (.ifCond .le 12, 3) := by decide +kernel
theorem dX8_isHit_24 : decode cX8_isHit 24 = .ok (.iload_n 3, 1) := by decide +kernel
theorem dX8_isHit_25 : decode cX8_isHit 25 = .ok (.iload_n 1, 1) := by decide +kernel
theorem dX8_isHit_26 : decode cX8_isHit 26 = .ok (.if_icmp .gt 7, 3) := by decide +kernel
theorem dX8_isHit_29 : decode cX8_isHit 29 = .ok (.iconst 1, 1) := by decide +kernel
theorem dX8_isHit_30 : decode cX8_isHit 30 = .ok (.goto 4, 3) := by decide +kernel
theorem dX8_isHit_33 : decode cX8_isHit 33 = .ok (.iconst 0, 1) := by decide +kernel
theorem dX8_isHit_34 : decode cX8_isHit 34 = .ok (.ireturn, 1) := by decide +kernel
theorem dX8_keyWith_0 : decode cX8_keyWith 0 = .ok (.iconst 0, 1) := by decide +kernel
theorem dX8_keyWith_1 : decode cX8_keyWith 1 = .ok (.istore_n 3, 1) := by decide +kernel
theorem dX8_keyWith_2 : decode cX8_keyWith 2 = .ok (.iload_n 3, 1) := by decide +kernel
theorem dX8_keyWith_3 : decode cX8_keyWith 3 = .ok (.bipush 20, 2) := by decide +kernel
theorem dX8_keyWith_5 : decode cX8_keyWith 5 = .ok (.if_icmp .ge 21, 3) := by decide +kernel
theorem dX8_keyWith_8 : decode cX8_keyWith 8 = .ok (.aload_n 0, 1) := by decide +kernel
theorem dX8_keyWith_9 : decode cX8_keyWith 9 = .ok (.iload_n 3, 1) := by decide +kernel
theorem dX8_keyWith_10 : decode cX8_keyWith 10 = .ok (.iload_n 2, 1) := by decide +kernel
theorem dX8_keyWith_11 : decode cX8_keyWith 11 = .ok (.invokevirtual 179, 3) := by decide +kernel
theorem dX8_keyWith_14 : decode cX8_keyWith 14 = .ok (.iload_n 1, 1) := by decide +kernel
theorem dX8_keyWith_15 : decode cX8_keyWith 15 = .ok (.if_icmp .ne 5, 3) := by decide +kernel
theorem dX8_keyWith_18 : decode cX8_keyWith 18 = .ok (.iload_n 3, 1) := by decide +kernel
theorem dX8_keyWith_19 : decode cX8_keyWith 19 = .ok (.ireturn, 1) := by decide +kernel
theorem dX8_keyWith_20 : decode cX8_keyWith 20 = .ok (.iinc 3 1, 3) := by decide +kernel
theorem dX8_keyWith_23 : decode cX8_keyWith 23 = .ok (.goto (-21), 3) := by decide +kernel
theorem dX8_keyWith_26 : decode cX8_keyWith 26 = .ok (.iconst (-1), 1) := by decide +kernel
theorem dX8_keyWith_27 : decode cX8_keyWith 27 = .ok (.ireturn, 1) := by decide +kernel
theorem dX8_hitsOf_0 : decode cX8_hitsOf 0 = .ok (.iload_n 1, 1) := by decide +kernel
theorem dX8_hitsOf_1 : decode cX8_hitsOf 1 = .ok (.ifCond .eq 9, 3) := by decide +kernel
theorem dX8_hitsOf_4 : decode cX8_hitsOf 4 = .ok (.iload_n 1, 1) := by decide +kernel
theorem dX8_hitsOf_5 : decode cX8_hitsOf 5 = .ok (.bipush 6, 2) := by decide +kernel
theorem dX8_hitsOf_7 : decode cX8_hitsOf 7 = .ok (.if_icmp .le 7, 3) := by decide +kernel
theorem dX8_hitsOf_10 : decode cX8_hitsOf 10 = .ok (.iconst 0, 1) := by decide +kernel
theorem dX8_hitsOf_11 : decode cX8_hitsOf 11 = .ok (.goto 7, 3) := by decide +kernel
theorem dX8_hitsOf_14 : decode cX8_hitsOf 14 = .ok (.bipush 7, 2) := by decide +kernel
theorem dX8_hitsOf_16 : decode cX8_hitsOf 16 = .ok (.iload_n 1, 1) := by decide +kernel
theorem dX8_hitsOf_17 : decode cX8_hitsOf 17 = .ok (.isub, 1) := by decide +kernel
theorem dX8_hitsOf_18 : decode cX8_hitsOf 18 = .ok (.ireturn, 1) := by decide +kernel
theorem dX8_asks_0 : decode cX8_asks 0 = .ok (.aload_n 0, 1) := by decide +kernel
theorem dX8_asks_1 : decode cX8_asks 1 = .ok (.iload_n 1, 1) := by decide +kernel
theorem dX8_asks_2 : decode cX8_asks 2 = .ok (.aload_n 0, 1) := by decide +kernel
theorem dX8_asks_3 : decode cX8_asks 3 = .ok (.getfield 19, 3) := by decide +kernel
theorem dX8_asks_6 : decode cX8_asks 6 = .ok (.invokevirtual 45, 3) := by decide +kernel
theorem dX8_asks_9 : decode cX8_asks 9 = .ok (.invokevirtual 179, 3) := by decide +kernel
theorem dX8_asks_12 : decode cX8_asks 12 = .ok (.istore_n 2, 1) := by decide +kernel
theorem dX8_asks_13 : decode cX8_asks 13 = .ok (.aload_n 0, 1) := by decide +kernel
theorem dX8_asks_14 : decode cX8_asks 14 = .ok (.getfield 19, 3) := by decide +kernel
theorem dX8_asks_17 : decode cX8_asks 17 = .ok (.iload_n 1, 1) := by decide +kernel
theorem dX8_asks_18 : decode cX8_asks 18 = .ok (.invokestatic 182, 3) := by decide +kernel
theorem dX8_asks_21 : decode cX8_asks 21 = .ok (.invokevirtual 74, 3) := by decide +kernel
theorem dX8_asks_24 : decode cX8_asks 24 = .ok (.pop, 1) := by decide +kernel
theorem dX8_asks_25 : decode cX8_asks 25 = .ok (.aload_n 0, 1) := by decide +kernel
theorem dX8_asks_26 : decode cX8_asks 26 = .ok (.iload_n 2, 1) := by decide +kernel
theorem dX8_asks_27 : decode cX8_asks 27 = .ok (.invokevirtual 186, 3) := by decide +kernel
theorem dX8_asks_30 : decode cX8_asks 30 = .ok (.ireturn, 1) := by decide +kernel
theorem dX8_ask_0 : decode cX8_ask 0 = .ok (.aload_n 0, 1) := by decide +kernel
theorem dX8_ask_1 : decode cX8_ask 1 = .ok (.iload_n 1, 1) := by decide +kernel
theorem dX8_ask_2 : decode cX8_ask 2 = .ok (.bipush 20, 2) := by decide +kernel
theorem dX8_ask_4 : decode cX8_ask 4 = .ok (.invokestatic 27, 3) := by decide +kernel
theorem dX8_ask_7 : decode cX8_ask 7 = .ok (.aload_n 0, 1) := by decide +kernel
theorem dX8_ask_8 : decode cX8_ask 8 = .ok (.getfield 19, 3) := by decide +kernel
theorem dX8_ask_11 : decode cX8_ask 11 = .ok (.invokevirtual 45, 3) := by decide +kernel
theorem dX8_ask_14 : decode cX8_ask 14 = .ok (.bipush 60, 2) := by decide +kernel
theorem dX8_ask_16 : decode cX8_ask 16 = .ok (.if_icmp .ne 7, 3) := by decide +kernel
theorem dX8_ask_19 : decode cX8_ask 19 = .ok (.iconst 1, 1) := by decide +kernel
theorem dX8_ask_20 : decode cX8_ask 20 = .ok (.goto 4, 3) := by decide +kernel
theorem dX8_ask_23 : decode cX8_ask 23 = .ok (.iconst 0, 1) := by decide +kernel
theorem dX8_ask_24 : decode cX8_ask 24 = .ok (.iconst 0, 1) := by decide +kernel
theorem dX8_ask_25 : decode cX8_ask 25 = .ok (.invokevirtual 38, 3) := by decide +kernel
theorem dX8_ask_28 : decode cX8_ask 28 = .ok (.ifCond .eq 7, 3) := by decide +kernel
theorem dX8_ask_31 : decode cX8_ask 31 = .ok (.iconst 0, 1) := by decide +kernel
theorem dX8_ask_32 : decode cX8_ask 32 = .ok (.goto 8, 3) := by decide +kernel
theorem dX8_ask_35 : decode cX8_ask 35 = .ok (.aload_n 0, 1) := by decide +kernel
theorem dX8_ask_36 : decode cX8_ask 36 = .ok (.iload_n 1, 1) := by decide +kernel
theorem dX8_ask_37 : decode cX8_ask 37 = .ok (.invokevirtual 189, 3) := by decide +kernel
theorem dX8_ask_40 : decode cX8_ask 40 = .ok (.ireturn, 1) := by decide +kernel
theorem dX8_askRow_0 : decode cX8_askRow 0 = .ok (.aload_n 0, 1) := by decide +kernel
theorem dX8_askRow_1 : decode cX8_askRow 1 = .ok (.iload_n 1, 1) := by decide +kernel
theorem dX8_askRow_2 : decode cX8_askRow 2 = .ok (.bipush 20, 2) := by decide +kernel
theorem dX8_askRow_4 : decode cX8_askRow 4 = .ok (.invokestatic 27, 3) := by decide +kernel
theorem dX8_askRow_7 : decode cX8_askRow 7 = .ok (.ifCond .ne 23, 3) := by decide +kernel
theorem dX8_askRow_10 : decode cX8_askRow 10 = .ok (.iload_n 2, 1) := by decide +kernel
theorem dX8_askRow_11 : decode cX8_askRow 11 = .ok (.bipush 20, 2) := by decide +kernel
theorem dX8_askRow_13 : decode cX8_askRow 13 = .ok (.invokestatic 27, 3) := by decide +kernel
theorem dX8_askRow_16 : decode cX8_askRow 16 = .ok (.ifCond .ne 14, 3) := by decide +kernel
theorem dX8_askRow_19 : decode cX8_askRow 19 = .ok (.iload_n 3, 1) := by decide +kernel
theorem dX8_askRow_20 : decode cX8_askRow 20 = .ok (.iconst 1, 1) := by decide +kernel
theorem dX8_askRow_21 : decode cX8_askRow 21 = .ok (.isub, 1) := by decide +kernel
theorem dX8_askRow_22 : decode cX8_askRow 22 = .ok (.bipush 12, 2) := by decide +kernel
theorem dX8_askRow_24 : decode cX8_askRow 24 = .ok (.invokestatic 27, 3) := by decide +kernel
theorem dX8_askRow_27 : decode cX8_askRow 27 = .ok (.ifCond .eq 7, 3) := by decide +kernel
theorem dX8_askRow_30 : decode cX8_askRow 30 = .ok (.iconst 1, 1) := by decide +kernel
theorem dX8_askRow_31 : decode cX8_askRow 31 = .ok (.goto 4, 3) := by decide +kernel
theorem dX8_askRow_34 : decode cX8_askRow 34 = .ok (.iconst 0, 1) := by decide +kernel
theorem dX8_askRow_35 : decode cX8_askRow 35 = .ok (.aload_n 0, 1) := by decide +kernel
theorem dX8_askRow_36 : decode cX8_askRow 36 = .ok (.getfield 19, 3) := by decide +kernel
theorem dX8_askRow_39 : decode cX8_askRow 39 = .ok (.invokevirtual 45, 3) := by decide +kernel
theorem dX8_askRow_42 : decode cX8_askRow 42 = .ok (.iload_n 3, 1) := by decide +kernel
theorem dX8_askRow_43 : decode cX8_askRow 43 = .ok (.iadd, 1) := by decide +kernel
theorem dX8_askRow_44 : decode cX8_askRow 44 = .ok (.bipush 60, 2) := by decide +kernel
theorem dX8_askRow_46 : decode cX8_askRow 46 = .ok (.if_icmp .le 7, 3) := by decide +kernel
theorem dX8_askRow_49 : decode cX8_askRow 49 = .ok (.iconst 1, 1) := by decide +kernel
theorem dX8_askRow_50 : decode cX8_askRow 50 = .ok (.goto 4, 3) := by decide +kernel
theorem dX8_askRow_53 : decode cX8_askRow 53 = .ok (.iconst 0, 1) := by decide +kernel
theorem dX8_askRow_54 : decode cX8_askRow 54 = .ok (.iconst 0, 1) := by decide +kernel
theorem dX8_askRow_55 : decode cX8_askRow 55 = .ok (.invokevirtual 38, 3) := by decide +kernel
theorem dX8_askRow_58 : decode cX8_askRow 58 = .ok (.ifCond .eq 5, 3) := by decide +kernel
theorem dX8_askRow_61 : decode cX8_askRow 61 = .ok (.iconst 0, 1) := by decide +kernel
theorem dX8_askRow_62 : decode cX8_askRow 62 = .ok (.ireturn, 1) := by decide +kernel
theorem dX8_askRow_63 : decode cX8_askRow 63 = .ok (.iconst 0, 1) := by decide +kernel
theorem dX8_askRow_64 : decode cX8_askRow 64 = .ok (.istore 4, 2) := by decide +kernel
theorem dX8_askRow_66 : decode cX8_askRow 66 = .ok (.iconst 0, 1) := by decide +kernel
theorem dX8_askRow_67 : decode cX8_askRow 67 = .ok (.istore 5, 2) := by decide +kernel
theorem dX8_askRow_69 : decode cX8_askRow 69 = .ok (.iload 5, 2) := by decide +kernel
theorem dX8_askRow_71 : decode cX8_askRow 71 = .ok (.iload_n 3, 1) := by decide +kernel
theorem dX8_askRow_72 : decode cX8_askRow 72 = .ok (.if_icmp .ge 27, 3) := by decide +kernel
theorem dX8_askRow_75 : decode cX8_askRow 75 = .ok (.iload 4, 2) := by decide +kernel
theorem dX8_askRow_77 : decode cX8_askRow 77 = .ok (.aload_n 0, 1) := by decide +kernel
theorem dX8_askRow_78 : decode cX8_askRow 78 = .ok (.iload_n 1, 1) := by decide +kernel
theorem dX8_askRow_79 : decode cX8_askRow 79 = .ok (.iload 5, 2) := by decide +kernel
theorem dX8_askRow_81 : decode cX8_askRow 81 = .ok (.iload_n 2, 1) := by decide +kernel
theorem dX8_askRow_82 : decode cX8_askRow 82 = .ok (.imul, 1) := by decide +kernel
theorem dX8_askRow_83 : decode cX8_askRow 83 = .ok (.iadd, 1) := by decide +kernel
theorem dX8_askRow_84 : decode cX8_askRow 84 = .ok (.bipush 20, 2) := by decide +kernel
theorem dX8_askRow_86 : decode cX8_askRow 86 = .ok (.irem, 1) := by decide +kernel
theorem dX8_askRow_87 : decode cX8_askRow 87 = .ok (.invokevirtual 189, 3) := by decide +kernel
theorem dX8_askRow_90 : decode cX8_askRow 90 = .ok (.iadd, 1) := by decide +kernel
theorem dX8_askRow_91 : decode cX8_askRow 91 = .ok (.istore 4, 2) := by decide +kernel
theorem dX8_askRow_93 : decode cX8_askRow 93 = .ok (.iinc 5 1, 3) := by decide +kernel
theorem dX8_askRow_96 : decode cX8_askRow 96 = .ok (.goto (-27), 3) := by decide +kernel
theorem dX8_askRow_99 : decode cX8_askRow 99 = .ok (.iload 4, 2) := by decide +kernel
theorem dX8_askRow_101 : decode cX8_askRow 101 = .ok (.ireturn, 1) := by decide +kernel
theorem dX8_forget_0 : decode cX8_forget 0 = .ok (.aload_n 0, 1) := by decide +kernel
theorem dX8_forget_1 : decode cX8_forget 1 = .ok (.iconst 0, 1) := by decide +kernel
theorem dX8_forget_2 : decode cX8_forget 2 = .ok (.putfield 23, 3) := by decide +kernel
theorem dX8_forget_5 : decode cX8_forget 5 = .ok (.aload_n 0, 1) := by decide +kernel
theorem dX8_forget_6 : decode cX8_forget 6 = .ok (.getfield 19, 3) := by decide +kernel
theorem dX8_forget_9 : decode cX8_forget 9 = .ok (.invokevirtual 45, 3) := by decide +kernel
theorem dX8_forget_12 : decode cX8_forget 12 = .ok (.istore_n 1, 1) := by decide +kernel
theorem dX8_forget_13 : decode cX8_forget 13 = .ok (.aload_n 0, 1) := by decide +kernel
theorem dX8_forget_14 : decode cX8_forget 14 = .ok (.getfield 19, 3) := by decide +kernel
theorem dX8_forget_17 : decode cX8_forget 17 = .ok (.invokevirtual 49, 3) := by decide +kernel
theorem dX8_forget_20 : decode cX8_forget 20 = .ok (.iload_n 1, 1) := by decide +kernel
theorem dX8_forget_21 : decode cX8_forget 21 = .ok (.ireturn, 1) := by decide +kernel
theorem dX8_asked_0 : decode cX8_asked 0 = .ok (.aload_n 0, 1) := by decide +kernel
theorem dX8_asked_1 : decode cX8_asked 1 = .ok (.iconst 0, 1) := by decide +kernel
theorem dX8_asked_2 : decode cX8_asked 2 = .ok (.putfield 23, 3) := by decide +kernel
theorem dX8_asked_5 : decode cX8_asked 5 = .ok (.aload_n 0, 1) := by decide +kernel
theorem dX8_asked_6 : decode cX8_asked 6 = .ok (.getfield 19, 3) := by decide +kernel
theorem dX8_asked_9 : decode cX8_asked 9 = .ok (.invokevirtual 45, 3) := by decide +kernel
theorem dX8_asked_12 : decode cX8_asked 12 = .ok (.ireturn, 1) := by decide +kernel
theorem dX8_askedAt_0 : decode cX8_askedAt 0 = .ok (.aload_n 0, 1) := by decide +kernel
theorem dX8_askedAt_1 : decode cX8_askedAt 1 = .ok (.iconst 0, 1) := by decide +kernel
theorem dX8_askedAt_2 : decode cX8_askedAt 2 = .ok (.putfield 23, 3) := by decide +kernel
theorem dX8_askedAt_5 : decode cX8_askedAt 5 = .ok (.iload_n 1, 1) := by decide +kernel
theorem dX8_askedAt_6 : decode cX8_askedAt 6 = .ok (.aload_n 0, 1) := by decide +kernel
theorem dX8_askedAt_7 : decode cX8_askedAt 7 = .ok (.getfield 19, 3) := by decide +kernel
theorem dX8_askedAt_10 : decode cX8_askedAt 10 = .ok (.invokevirtual 45, 3) := by decide +kernel
theorem dX8_askedAt_13 : decode cX8_askedAt 13 = .ok (.invokestatic 27, 3) := by decide +kernel
theorem dX8_askedAt_16 : decode cX8_askedAt 16 = .ok (.ifCond .eq 7, 3) := by decide +kernel
theorem dX8_askedAt_19 : decode cX8_askedAt 19 = .ok (.iconst (-1), 1) := by decide +kernel
theorem dX8_askedAt_20 : decode cX8_askedAt 20 = .ok (.goto 17, 3) := by decide +kernel
theorem dX8_askedAt_23 : decode cX8_askedAt 23 = .ok (.aload_n 0, 1) := by decide +kernel
theorem dX8_askedAt_24 : decode cX8_askedAt 24 = .ok (.getfield 19, 3) := by decide +kernel
theorem dX8_askedAt_27 : decode cX8_askedAt 27 = .ok (.iload_n 1, 1) := by decide +kernel
theorem dX8_askedAt_28 : decode cX8_askedAt 28 = .ok (.invokevirtual 64, 3) := by decide +kernel
theorem dX8_askedAt_31 : decode cX8_askedAt 31 = .ok (.checkcast 168, 3) := by decide +kernel
theorem dX8_askedAt_34 : decode cX8_askedAt 34 = .ok (.invokevirtual 170, 3) := by decide +kernel
theorem dX8_askedAt_37 : decode cX8_askedAt 37 = .ok (.ireturn, 1) := by decide +kernel
theorem dX8_depthAt_0 : decode cX8_depthAt 0 = .ok (.aload_n 0, 1) := by decide +kernel
theorem dX8_depthAt_1 : decode cX8_depthAt 1 = .ok (.iconst 0, 1) := by decide +kernel
theorem dX8_depthAt_2 : decode cX8_depthAt 2 = .ok (.putfield 23, 3) := by decide +kernel
theorem dX8_depthAt_5 : decode cX8_depthAt 5 = .ok (.iload_n 1, 1) := by decide +kernel
theorem dX8_depthAt_6 : decode cX8_depthAt 6 = .ok (.aload_n 0, 1) := by decide +kernel
theorem dX8_depthAt_7 : decode cX8_depthAt 7 = .ok (.getfield 19, 3) := by decide +kernel
theorem dX8_depthAt_10 : decode cX8_depthAt 10 = .ok (.invokevirtual 45, 3) := by decide +kernel
theorem dX8_depthAt_13 : decode cX8_depthAt 13 = .ok (.invokestatic 27, 3) := by decide +kernel
theorem dX8_depthAt_16 : decode cX8_depthAt 16 = .ok (.ifCond .eq 7, 3) := by decide +kernel
theorem dX8_depthAt_19 : decode cX8_depthAt 19 = .ok (.iconst (-1), 1) := by decide +kernel
theorem dX8_depthAt_20 : decode cX8_depthAt 20 = .ok (.goto 22, 3) := by decide +kernel
theorem dX8_depthAt_23 : decode cX8_depthAt 23 = .ok (.aload_n 0, 1) := by decide +kernel
theorem dX8_depthAt_24 : decode cX8_depthAt 24 = .ok (.aload_n 0, 1) := by decide +kernel
theorem dX8_depthAt_25 : decode cX8_depthAt 25 = .ok (.getfield 19, 3) := by decide +kernel
theorem dX8_depthAt_28 : decode cX8_depthAt 28 = .ok (.iload_n 1, 1) := by decide +kernel
theorem dX8_depthAt_29 : decode cX8_depthAt 29 = .ok (.invokevirtual 64, 3) := by decide +kernel
theorem dX8_depthAt_32 : decode cX8_depthAt 32 = .ok (.checkcast 168, 3) := by decide +kernel
theorem dX8_depthAt_35 : decode cX8_depthAt 35 = .ok (.invokevirtual 170, 3) := by decide +kernel
theorem dX8_depthAt_38 : decode cX8_depthAt 38 = .ok (.iload_n 1, 1) := by decide +kernel
theorem dX8_depthAt_39 : decode cX8_depthAt 39 = .ok (.invokevirtual 179, 3) := by decide +kernel
theorem dX8_depthAt_42 : decode cX8_depthAt 42 = .ok (.ireturn, 1) := by decide +kernel
theorem dX8_depth_0 : decode cX8_depth 0 = .ok (.aload_n 0, 1) := by decide +kernel
theorem dX8_depth_1 : decode cX8_depth 1 = .ok (.iload_n 1, 1) := by decide +kernel
theorem dX8_depth_2 : decode cX8_depth 2 = .ok (.bipush 20, 2) := by decide +kernel
theorem dX8_depth_4 : decode cX8_depth 4 = .ok (.invokestatic 27, 3) := by decide +kernel
theorem dX8_depth_7 : decode cX8_depth 7 = .ok (.iconst 0, 1) := by decide +kernel
theorem dX8_depth_8 : decode cX8_depth 8 = .ok (.iconst 0, 1) := by decide +kernel
theorem dX8_depth_9 : decode cX8_depth 9 = .ok (.invokevirtual 38, 3) := by decide +kernel
theorem dX8_depth_12 : decode cX8_depth 12 = .ok (.ifCond .eq 7, 3) := by decide +kernel
theorem dX8_depth_15 : decode cX8_depth 15 = .ok (.iconst 0, 1) := by decide +kernel
theorem dX8_depth_16 : decode cX8_depth 16 = .ok (.goto 15, 3) := by decide +kernel
theorem dX8_depth_19 : decode cX8_depth 19 = .ok (.aload_n 0, 1) := by decide +kernel
theorem dX8_depth_20 : decode cX8_depth 20 = .ok (.iload_n 1, 1) := by decide +kernel
end
section
theorem dX8_depth_21 : decode cX8_depth 21 = .ok (.aload_n 0, 1) := by decide +kernel
theorem dX8_depth_22 : decode cX8_depth 22 = .ok (.getfield 19, 3) := by decide +kernel
theorem dX8_depth_25 : decode cX8_depth 25 = .ok (.invokevirtual 45, 3) := by decide +kernel
theorem dX8_depth_28 : decode cX8_depth 28 = .ok (.invokevirtual 179, 3) := by decide +kernel
theorem dX8_depth_31 : decode cX8_depth 31 = .ok (.ireturn, 1) := by decide +kernel
theorem dX8_keys_0 : decode cX8_keys 0 = .ok (.ldc 117, 2) := by decide +kernel
theorem dX8_keys_2 : decode cX8_keys 2 = .ok (.astore_n 2, 1) := by decide +kernel
theorem dX8_keys_3 : decode cX8_keys 3 = .ok (.iconst 1, 1) := by decide +kernel
theorem dX8_keys_4 : decode cX8_keys 4 = .ok (.istore_n 3, 1) := by decide +kernel
theorem dX8_keys_5 : decode cX8_keys 5 = .ok (.iload_n 3, 1) := by decide +kernel
theorem dX8_keys_6 : decode cX8_keys 6 = .ok (.iload_n 1, 1) := by decide +kernel
theorem dX8_keys_7 : decode cX8_keys 7 = .ok (.if_icmp .gt 70, 3) := by decide +kernel
theorem dX8_keys_10 : decode cX8_keys 10 = .ok (.aload_n 0, 1) := by decide +kernel
theorem dX8_keys_11 : decode cX8_keys 11 = .ok (.iload_n 3, 1) := by decide +kernel
theorem dX8_keys_12 : decode cX8_keys 12 = .ok (.aload_n 0, 1) := by decide +kernel
theorem dX8_keys_13 : decode cX8_keys 13 = .ok (.getfield 19, 3) := by decide +kernel
theorem dX8_keys_16 : decode cX8_keys 16 = .ok (.invokevirtual 45, 3) := by decide +kernel
theorem dX8_keys_19 : decode cX8_keys 19 = .ok (.invokevirtual 192, 3) := by decide +kernel
theorem dX8_keys_22 : decode cX8_keys 22 = .ok (.iconst (-1), 1) := by decide +kernel
theorem dX8_keys_23 : decode cX8_keys 23 = .ok (.if_icmp .eq 54, 3) := by decide +kernel
theorem dX8_keys_26 : decode cX8_keys 26 = .ok (.new 119, 3) := by decide +kernel
theorem dX8_keys_29 : decode cX8_keys 29 = .ok (.dup, 1) := by decide +kernel
theorem dX8_keys_30 : decode cX8_keys 30 = .ok (.invokespecial 121, 3) := by decide +kernel
theorem dX8_keys_33 : decode cX8_keys 33 = .ok (.aload_n 0, 1) := by decide +kernel
theorem dX8_keys_34 : decode cX8_keys 34 = .ok (.iload_n 3, 1) := by decide +kernel
theorem dX8_keys_35 : decode cX8_keys 35 = .ok (.aload_n 0, 1) := by decide +kernel
theorem dX8_keys_36 : decode cX8_keys 36 = .ok (.getfield 19, 3) := by decide +kernel
theorem dX8_keys_39 : decode cX8_keys 39 = .ok (.invokevirtual 45, 3) := by decide +kernel
theorem dX8_keys_42 : decode cX8_keys 42 = .ok (.invokevirtual 192, 3) := by decide +kernel
theorem dX8_keys_45 : decode cX8_keys 45 = .ok (.invokevirtual 129, 3) := by decide +kernel
theorem dX8_keys_48 : decode cX8_keys 48 = .ok (.iload_n 3, 1) := by decide +kernel
theorem dX8_keys_49 : decode cX8_keys 49 = .ok (.iconst 1, 1) := by decide +kernel
theorem dX8_keys_50 : decode cX8_keys 50 = .ok (.if_icmp .ne 8, 3) := by decide +kernel
theorem dX8_keys_53 : decode cX8_keys 53 = .ok (.ldc 117, 2) := by decide +kernel
theorem dX8_keys_55 : decode cX8_keys 55 = .ok (.goto 5, 3) := by decide +kernel
theorem dX8_keys_58 : decode cX8_keys 58 = .ok (.ldc 195, 2) := by decide +kernel
theorem dX8_keys_60 : decode cX8_keys 60 = .ok (.invokevirtual 197, 3) := by decide +kernel
theorem dX8_keys_63 : decode cX8_keys 63 = .ok (.aload_n 2, 1) := by decide +kernel
theorem dX8_keys_64 : decode cX8_keys 64 = .ok (.invokevirtual 197, 3) := by decide +kernel
theorem dX8_keys_67 : decode cX8_keys 67 = .ok (.invokevirtual 132, 3) := by decide +kernel
theorem dX8_keys_70 : decode cX8_keys 70 = .ok (.astore_n 2, 1) := by decide +kernel
theorem dX8_keys_71 : decode cX8_keys 71 = .ok (.iinc 3 1, 3) := by decide +kernel
theorem dX8_keys_74 : decode cX8_keys 74 = .ok (.goto (-69), 3) := by decide +kernel
theorem dX8_keys_77 : decode cX8_keys 77 = .ok (.aload_n 2, 1) := by decide +kernel
theorem dX8_keys_78 : decode cX8_keys 78 = .ok (.areturn, 1) := by decide +kernel
theorem dX8_stack_0 : decode cX8_stack 0 = .ok (.aload_n 0, 1) := by decide +kernel
theorem dX8_stack_1 : decode cX8_stack 1 = .ok (.iconst 0, 1) := by decide +kernel
theorem dX8_stack_2 : decode cX8_stack 2 = .ok (.putfield 23, 3) := by decide +kernel
theorem dX8_stack_5 : decode cX8_stack 5 = .ok (.aload_n 0, 1) := by decide +kernel
theorem dX8_stack_6 : decode cX8_stack 6 = .ok (.bipush 20, 2) := by decide +kernel
theorem dX8_stack_8 : decode cX8_stack 8 = .ok (.invokevirtual 200, 3) := by decide +kernel
theorem dX8_stack_11 : decode cX8_stack 11 = .ok (.areturn, 1) := by decide +kernel
theorem dX8_isNoSize_0 : decode cX8_isNoSize 0 = .ok (.iload_n 0, 1) := by decide +kernel
theorem dX8_isNoSize_1 : decode cX8_isNoSize 1 = .ok (.iconst 1, 1) := by decide +kernel
theorem dX8_isNoSize_2 : decode cX8_isNoSize 2 = .ok (.isub, 1) := by decide +kernel
theorem dX8_isNoSize_3 : decode cX8_isNoSize 3 = .ok (.bipush 6, 2) := by decide +kernel
theorem dX8_isNoSize_5 : decode cX8_isNoSize 5 = .ok (.invokestatic 27, 3) := by decide +kernel
theorem dX8_isNoSize_8 : decode cX8_isNoSize 8 = .ok (.ireturn, 1) := by decide +kernel
theorem dX8_kept_0 : decode cX8_kept 0 = .ok (.aload_n 0, 1) := by decide +kernel
theorem dX8_kept_1 : decode cX8_kept 1 = .ok (.iload_n 1, 1) := by decide +kernel
theorem dX8_kept_2 : decode cX8_kept 2 = .ok (.invokestatic 204, 3) := by decide +kernel
theorem dX8_kept_5 : decode cX8_kept 5 = .ok (.iconst 0, 1) := by decide +kernel
theorem dX8_kept_6 : decode cX8_kept 6 = .ok (.iconst 0, 1) := by decide +kernel
theorem dX8_kept_7 : decode cX8_kept 7 = .ok (.invokevirtual 38, 3) := by decide +kernel
theorem dX8_kept_10 : decode cX8_kept 10 = .ok (.ifCond .eq 8, 3) := by decide +kernel
theorem dX8_kept_13 : decode cX8_kept 13 = .ok (.ldc 117, 2) := by decide +kernel
theorem dX8_kept_15 : decode cX8_kept 15 = .ok (.goto 8, 3) := by decide +kernel
theorem dX8_kept_18 : decode cX8_kept 18 = .ok (.aload_n 0, 1) := by decide +kernel
theorem dX8_kept_19 : decode cX8_kept 19 = .ok (.iload_n 1, 1) := by decide +kernel
theorem dX8_kept_20 : decode cX8_kept 20 = .ok (.invokevirtual 200, 3) := by decide +kernel
theorem dX8_kept_23 : decode cX8_kept 23 = .ok (.areturn, 1) := by decide +kernel
theorem dX8_isKept_0 : decode cX8_isKept 0 = .ok (.aload_n 0, 1) := by decide +kernel
theorem dX8_isKept_1 : decode cX8_isKept 1 = .ok (.iload_n 2, 1) := by decide +kernel
theorem dX8_isKept_2 : decode cX8_isKept 2 = .ok (.aload_n 0, 1) := by decide +kernel
theorem dX8_isKept_3 : decode cX8_isKept 3 = .ok (.getfield 19, 3) := by decide +kernel
theorem dX8_isKept_6 : decode cX8_isKept 6 = .ok (.invokevirtual 45, 3) := by decide +kernel
theorem dX8_isKept_9 : decode cX8_isKept 9 = .ok (.invokevirtual 179, 3) := by decide +kernel
theorem dX8_isKept_12 : decode cX8_isKept 12 = .ok (.istore_n 3, 1) := by decide +kernel
theorem dX8_isKept_13 : decode cX8_isKept 13 = .ok (.iload_n 3, 1) := by decide +kernel
theorem dX8_isKept_14 : decode cX8_isKept 14 = .ok (.ifCond .le 12, 3) := by decide +kernel
theorem dX8_isKept_17 : decode cX8_isKept 17 = .ok (.iload_n 3, 1) := by decide +kernel
theorem dX8_isKept_18 : decode cX8_isKept 18 = .ok (.iload_n 1, 1) := by decide +kernel
theorem dX8_isKept_19 : decode cX8_isKept 19 = .ok (.if_icmp .gt 7, 3) := by decide +kernel
theorem dX8_isKept_22 : decode cX8_isKept 22 = .ok (.iconst 1, 1) := by decide +kernel
theorem dX8_isKept_23 : decode cX8_isKept 23 = .ok (.goto 4, 3) := by decide +kernel
theorem dX8_isKept_26 : decode cX8_isKept 26 = .ok (.iconst 0, 1) := by decide +kernel
theorem dX8_isKept_27 : decode cX8_isKept 27 = .ok (.ireturn, 1) := by decide +kernel
theorem dX8_keeps_0 : decode cX8_keeps 0 = .ok (.aload_n 0, 1) := by decide +kernel
theorem dX8_keeps_1 : decode cX8_keeps 1 = .ok (.iload_n 1, 1) := by decide +kernel
theorem dX8_keeps_2 : decode cX8_keeps 2 = .ok (.invokestatic 204, 3) := by decide +kernel
theorem dX8_keeps_5 : decode cX8_keeps 5 = .ok (.ifCond .ne 12, 3) := by decide +kernel
theorem dX8_keeps_8 : decode cX8_keeps 8 = .ok (.iload_n 2, 1) := by decide +kernel
theorem dX8_keeps_9 : decode cX8_keeps 9 = .ok (.bipush 20, 2) := by decide +kernel
theorem dX8_keeps_11 : decode cX8_keeps 11 = .ok (.invokestatic 27, 3) := by decide +kernel
theorem dX8_keeps_14 : decode cX8_keeps 14 = .ok (.ifCond .eq 7, 3) := by decide +kernel
theorem dX8_keeps_17 : decode cX8_keeps 17 = .ok (.iconst 1, 1) := by decide +kernel
theorem dX8_keeps_18 : decode cX8_keeps 18 = .ok (.goto 4, 3) := by decide +kernel
theorem dX8_keeps_21 : decode cX8_keeps 21 = .ok (.iconst 0, 1) := by decide +kernel
theorem dX8_keeps_22 : decode cX8_keeps 22 = .ok (.iconst 0, 1) := by decide +kernel
theorem dX8_keeps_23 : decode cX8_keeps 23 = .ok (.iconst 0, 1) := by decide +kernel
theorem dX8_keeps_24 : decode cX8_keeps 24 = .ok (.invokevirtual 38, 3) := by decide +kernel
theorem dX8_keeps_27 : decode cX8_keeps 27 = .ok (.ifCond .ne 16, 3) := by decide +kernel
theorem dX8_keeps_30 : decode cX8_keeps 30 = .ok (.aload_n 0, 1) := by decide +kernel
theorem dX8_keeps_31 : decode cX8_keeps 31 = .ok (.iload_n 1, 1) := by decide +kernel
theorem dX8_keeps_32 : decode cX8_keeps 32 = .ok (.iload_n 2, 1) := by decide +kernel
theorem dX8_keeps_33 : decode cX8_keeps 33 = .ok (.invokevirtual 207, 3) := by decide +kernel
theorem dX8_keeps_36 : decode cX8_keeps 36 = .ok (.ifCond .eq 7, 3) := by decide +kernel
theorem dX8_keeps_39 : decode cX8_keeps 39 = .ok (.iconst 1, 1) := by decide +kernel
theorem dX8_keeps_40 : decode cX8_keeps 40 = .ok (.goto 4, 3) := by decide +kernel
theorem dX8_keeps_43 : decode cX8_keeps 43 = .ok (.iconst 0, 1) := by decide +kernel
theorem dX8_keeps_44 : decode cX8_keeps 44 = .ok (.ireturn, 1) := by decide +kernel
theorem dX8_takenNow_0 : decode cX8_takenNow 0 = .ok (.aload_n 0, 1) := by decide +kernel
theorem dX8_takenNow_1 : decode cX8_takenNow 1 = .ok (.iload_n 1, 1) := by decide +kernel
theorem dX8_takenNow_2 : decode cX8_takenNow 2 = .ok (.iload_n 2, 1) := by decide +kernel
theorem dX8_takenNow_3 : decode cX8_takenNow 3 = .ok (.invokevirtual 207, 3) := by decide +kernel
theorem dX8_takenNow_6 : decode cX8_takenNow 6 = .ok (.ifCond .ne 5, 3) := by decide +kernel
theorem dX8_takenNow_9 : decode cX8_takenNow 9 = .ok (.iconst (-1), 1) := by decide +kernel
theorem dX8_takenNow_10 : decode cX8_takenNow 10 = .ok (.ireturn, 1) := by decide +kernel
theorem dX8_takenNow_11 : decode cX8_takenNow 11 = .ok (.aload_n 0, 1) := by decide +kernel
theorem dX8_takenNow_12 : decode cX8_takenNow 12 = .ok (.iload_n 2, 1) := by decide +kernel
theorem dX8_takenNow_13 : decode cX8_takenNow 13 = .ok (.aload_n 0, 1) := by decide +kernel
theorem dX8_takenNow_14 : decode cX8_takenNow 14 = .ok (.getfield 19, 3) := by decide +kernel
theorem dX8_takenNow_17 : decode cX8_takenNow 17 = .ok (.invokevirtual 45, 3) := by decide +kernel
theorem dX8_takenNow_20 : decode cX8_takenNow 20 = .ok (.invokevirtual 173, 3) := by decide +kernel
theorem dX8_takenNow_23 : decode cX8_takenNow 23 = .ok (.istore_n 3, 1) := by decide +kernel
theorem dX8_takenNow_24 : decode cX8_takenNow 24 = .ok (.aload_n 0, 1) := by decide +kernel
theorem dX8_takenNow_25 : decode cX8_takenNow 25 = .ok (.iload_n 1, 1) := by decide +kernel
theorem dX8_takenNow_26 : decode cX8_takenNow 26 = .ok (.iload_n 3, 1) := by decide +kernel
theorem dX8_takenNow_27 : decode cX8_takenNow 27 = .ok (.invokevirtual 210, 3) := by decide +kernel
theorem dX8_takenNow_30 : decode cX8_takenNow 30 = .ok (.ifCond .eq 13, 3) := by decide +kernel
theorem dX8_takenNow_33 : decode cX8_takenNow 33 = .ok (.aload_n 0, 1) := by decide +kernel
theorem dX8_takenNow_34 : decode cX8_takenNow 34 = .ok (.iload_n 2, 1) := by decide +kernel
theorem dX8_takenNow_35 : decode cX8_takenNow 35 = .ok (.iload_n 3, 1) := by decide +kernel
theorem dX8_takenNow_36 : decode cX8_takenNow 36 = .ok (.invokevirtual 173, 3) := by decide +kernel
theorem dX8_takenNow_39 : decode cX8_takenNow 39 = .ok (.istore_n 3, 1) := by decide +kernel
theorem dX8_takenNow_40 : decode cX8_takenNow 40 = .ok (.goto (-16), 3) := by decide +kernel
theorem dX8_takenNow_43 : decode cX8_takenNow 43 = .ok (.iload_n 3, 1) := by decide +kernel
theorem dX8_takenNow_44 : decode cX8_takenNow 44 = .ok (.ireturn, 1) := by decide +kernel
theorem dX8_takenAt_0 : decode cX8_takenAt 0 = .ok (.aload_n 0, 1) := by decide +kernel
theorem dX8_takenAt_1 : decode cX8_takenAt 1 = .ok (.iload_n 1, 1) := by decide +kernel
theorem dX8_takenAt_2 : decode cX8_takenAt 2 = .ok (.invokestatic 204, 3) := by decide +kernel
theorem dX8_takenAt_5 : decode cX8_takenAt 5 = .ok (.ifCond .ne 12, 3) := by decide +kernel
theorem dX8_takenAt_8 : decode cX8_takenAt 8 = .ok (.iload_n 2, 1) := by decide +kernel
theorem dX8_takenAt_9 : decode cX8_takenAt 9 = .ok (.bipush 20, 2) := by decide +kernel
theorem dX8_takenAt_11 : decode cX8_takenAt 11 = .ok (.invokestatic 27, 3) := by decide +kernel
theorem dX8_takenAt_14 : decode cX8_takenAt 14 = .ok (.ifCond .eq 7, 3) := by decide +kernel
theorem dX8_takenAt_17 : decode cX8_takenAt 17 = .ok (.iconst 1, 1) := by decide +kernel
theorem dX8_takenAt_18 : decode cX8_takenAt 18 = .ok (.goto 4, 3) := by decide +kernel
theorem dX8_takenAt_21 : decode cX8_takenAt 21 = .ok (.iconst 0, 1) := by decide +kernel
theorem dX8_takenAt_22 : decode cX8_takenAt 22 = .ok (.iconst 0, 1) := by decide +kernel
theorem dX8_takenAt_23 : decode cX8_takenAt 23 = .ok (.iconst 0, 1) := by decide +kernel
theorem dX8_takenAt_24 : decode cX8_takenAt 24 = .ok (.invokevirtual 38, 3) := by decide +kernel
theorem dX8_takenAt_27 : decode cX8_takenAt 27 = .ok (.ifCond .eq 7, 3) := by decide +kernel
theorem dX8_takenAt_30 : decode cX8_takenAt 30 = .ok (.iconst 0, 1) := by decide +kernel
theorem dX8_takenAt_31 : decode cX8_takenAt 31 = .ok (.goto 9, 3) := by decide +kernel
theorem dX8_takenAt_34 : decode cX8_takenAt 34 = .ok (.aload_n 0, 1) := by decide +kernel
theorem dX8_takenAt_35 : decode cX8_takenAt 35 = .ok (.iload_n 1, 1) := by decide +kernel
theorem dX8_takenAt_36 : decode cX8_takenAt 36 = .ok (.iload_n 2, 1) := by decide +kernel
theorem dX8_takenAt_37 : decode cX8_takenAt 37 = .ok (.invokevirtual 213, 3) := by decide +kernel
theorem dX8_takenAt_40 : decode cX8_takenAt 40 = .ok (.ireturn, 1) := by decide +kernel
theorem dX8_missesNow_0 : decode cX8_missesNow 0 = .ok (.iconst 0, 1) := by decide +kernel
theorem dX8_missesNow_1 : decode cX8_missesNow 1 = .ok (.istore_n 2, 1) := by decide +kernel
theorem dX8_missesNow_2 : decode cX8_missesNow 2 = .ok (.iconst 0, 1) := by decide +kernel
theorem dX8_missesNow_3 : decode cX8_missesNow 3 = .ok (.istore_n 3, 1) := by decide +kernel
theorem dX8_missesNow_4 : decode cX8_missesNow 4 = .ok (.iload_n 3, 1) := by decide +kernel
theorem dX8_missesNow_5 : decode cX8_missesNow 5 = .ok (.aload_n 0, 1) := by decide +kernel
theorem dX8_missesNow_6 : decode cX8_missesNow 6 = .ok (.getfield 19, 3) := by decide +kernel
theorem dX8_missesNow_9 : decode cX8_missesNow 9 = .ok (.invokevirtual 45, 3) := by decide +kernel
theorem dX8_missesNow_12 : decode cX8_missesNow 12 = .ok (.if_icmp .ge 29, 3) := by decide +kernel
theorem dX8_missesNow_15 : decode cX8_missesNow 15 = .ok (.iload_n 2, 1) := by decide +kernel
theorem dX8_missesNow_16 : decode cX8_missesNow 16 = .ok (.aload_n 0, 1) := by decide +kernel
theorem dX8_missesNow_17 : decode cX8_missesNow 17 = .ok (.iload_n 1, 1) := by decide +kernel
theorem dX8_missesNow_18 : decode cX8_missesNow 18 = .ok (.iload_n 3, 1) := by decide +kernel
theorem dX8_missesNow_19 : decode cX8_missesNow 19 = .ok (.invokevirtual 210, 3) := by decide +kernel
theorem dX8_missesNow_22 : decode cX8_missesNow 22 = .ok (.ifCond .ne 7, 3) := by decide +kernel
theorem dX8_missesNow_25 : decode cX8_missesNow 25 = .ok (.iconst 1, 1) := by decide +kernel
theorem dX8_missesNow_26 : decode cX8_missesNow 26 = .ok (.goto 4, 3) := by decide +kernel
theorem dX8_missesNow_29 : decode cX8_missesNow 29 = .ok (.iconst 0, 1) := by decide +kernel
theorem dX8_missesNow_30 : decode cX8_missesNow 30 = .ok (.invokestatic 139, 3) := by decide +kernel
theorem dX8_missesNow_33 : decode cX8_missesNow 33 = .ok (.iadd, 1) := by decide +kernel
theorem dX8_missesNow_34 : decode cX8_missesNow 34 = .ok (.istore_n 2, 1) := by decide +kernel
theorem dX8_missesNow_35 : decode cX8_missesNow 35 = .ok (.iinc 3 1, 3) := by decide +kernel
theorem dX8_missesNow_38 : decode cX8_missesNow 38 = .ok (.goto (-34), 3) := by decide +kernel
theorem dX8_missesNow_41 : decode cX8_missesNow 41 = .ok (.iload_n 2, 1) := by decide +kernel
theorem dX8_missesNow_42 : decode cX8_missesNow 42 = .ok (.ireturn, 1) := by decide +kernel
theorem dX8_misses_0 : decode cX8_misses 0 = .ok (.aload_n 0, 1) := by decide +kernel
theorem dX8_misses_1 : decode cX8_misses 1 = .ok (.iload_n 1, 1) := by decide +kernel
theorem dX8_misses_2 : decode cX8_misses 2 = .ok (.invokestatic 204, 3) := by decide +kernel
theorem dX8_misses_5 : decode cX8_misses 5 = .ok (.iconst 0, 1) := by decide +kernel
theorem dX8_misses_6 : decode cX8_misses 6 = .ok (.iconst 0, 1) := by decide +kernel
theorem dX8_misses_7 : decode cX8_misses 7 = .ok (.invokevirtual 38, 3) := by decide +kernel
theorem dX8_misses_10 : decode cX8_misses 10 = .ok (.ifCond .eq 7, 3) := by decide +kernel
theorem dX8_misses_13 : decode cX8_misses 13 = .ok (.iconst 0, 1) := by decide +kernel
theorem dX8_misses_14 : decode cX8_misses 14 = .ok (.goto 8, 3) := by decide +kernel
theorem dX8_misses_17 : decode cX8_misses 17 = .ok (.aload_n 0, 1) := by decide +kernel
theorem dX8_misses_18 : decode cX8_misses 18 = .ok (.iload_n 1, 1) := by decide +kernel
theorem dX8_misses_19 : decode cX8_misses 19 = .ok (.invokevirtual 216, 3) := by decide +kernel
theorem dX8_misses_22 : decode cX8_misses 22 = .ok (.ireturn, 1) := by decide +kernel
theorem dX8_hits_0 : decode cX8_hits 0 = .ok (.aload_n 0, 1) := by decide +kernel
theorem dX8_hits_1 : decode cX8_hits 1 = .ok (.iload_n 1, 1) := by decide +kernel
theorem dX8_hits_2 : decode cX8_hits 2 = .ok (.invokestatic 204, 3) := by decide +kernel
theorem dX8_hits_5 : decode cX8_hits 5 = .ok (.iconst 0, 1) := by decide +kernel
theorem dX8_hits_6 : decode cX8_hits 6 = .ok (.iconst 0, 1) := by decide +kernel
theorem dX8_hits_7 : decode cX8_hits 7 = .ok (.invokevirtual 38, 3) := by decide +kernel
theorem dX8_hits_10 : decode cX8_hits 10 = .ok (.ifCond .eq 7, 3) := by decide +kernel
theorem dX8_hits_13 : decode cX8_hits 13 = .ok (.iconst 0, 1) := by decide +kernel
theorem dX8_hits_14 : decode cX8_hits 14 = .ok (.goto 16, 3) := by decide +kernel
theorem dX8_hits_17 : decode cX8_hits 17 = .ok (.aload_n 0, 1) := by decide +kernel
theorem dX8_hits_18 : decode cX8_hits 18 = .ok (.getfield 19, 3) := by decide +kernel
theorem dX8_hits_21 : decode cX8_hits 21 = .ok (.invokevirtual 45, 3) := by decide +kernel
theorem dX8_hits_24 : decode cX8_hits 24 = .ok (.aload_n 0, 1) := by decide +kernel
theorem dX8_hits_25 : decode cX8_hits 25 = .ok (.iload_n 1, 1) := by decide +kernel
theorem dX8_hits_26 : decode cX8_hits 26 = .ok (.invokevirtual 216, 3) := by decide +kernel
theorem dX8_hits_29 : decode cX8_hits 29 = .ok (.isub, 1) := by decide +kernel
theorem dX8_hits_30 : decode cX8_hits 30 = .ok (.ireturn, 1) := by decide +kernel
theorem dX8_lostNow_0 : decode cX8_lostNow 0 = .ok (.aload_n 0, 1) := by decide +kernel
theorem dX8_lostNow_1 : decode cX8_lostNow 1 = .ok (.getfield 19, 3) := by decide +kernel
theorem dX8_lostNow_4 : decode cX8_lostNow 4 = .ok (.invokevirtual 45, 3) := by decide +kernel
theorem dX8_lostNow_7 : decode cX8_lostNow 7 = .ok (.iconst 1, 1) := by decide +kernel
theorem dX8_lostNow_8 : decode cX8_lostNow 8 = .ok (.isub, 1) := by decide +kernel
theorem dX8_lostNow_9 : decode cX8_lostNow 9 = .ok (.istore_n 2, 1) := by decide +kernel
theorem dX8_lostNow_10 : decode cX8_lostNow 10 = .ok (.iload_n 2, 1) := by decide +kernel
theorem dX8_lostNow_11 : decode cX8_lostNow 11 = .ok (.ifCond .lt 35, 3) := by decide +kernel
theorem dX8_lostNow_14 : decode cX8_lostNow 14 = .ok (.aload_n 0, 1) := by decide +kernel
theorem dX8_lostNow_15 : decode cX8_lostNow 15 = .ok (.iload_n 1, 1) := by decide +kernel
theorem dX8_lostNow_16 : decode cX8_lostNow 16 = .ok (.iload_n 2, 1) := by decide +kernel
theorem dX8_lostNow_17 : decode cX8_lostNow 17 = .ok (.invokevirtual 210, 3) := by decide +kernel
theorem dX8_lostNow_20 : decode cX8_lostNow 20 = .ok (.ifCond .ne 20, 3) := by decide +kernel
theorem dX8_lostNow_23 : decode cX8_lostNow 23 = .ok (.aload_n 0, 1) := by decide +kernel
theorem dX8_lostNow_24 : decode cX8_lostNow 24 = .ok (.iload_n 1, 1) := by decide +kernel
theorem dX8_lostNow_25 : decode cX8_lostNow 25 = .ok (.iload_n 2, 1) := by decide +kernel
theorem dX8_lostNow_26 : decode cX8_lostNow 26 = .ok (.invokevirtual 192, 3) := by decide +kernel
theorem dX8_lostNow_29 : decode cX8_lostNow 29 = .ok (.iconst (-1), 1) := by decide +kernel
theorem dX8_lostNow_30 : decode cX8_lostNow 30 = .ok (.if_icmp .eq 10, 3) := by decide +kernel
theorem dX8_lostNow_33 : decode cX8_lostNow 33 = .ok (.aload_n 0, 1) := by decide +kernel
theorem dX8_lostNow_34 : decode cX8_lostNow 34 = .ok (.iload_n 1, 1) := by decide +kernel
theorem dX8_lostNow_35 : decode cX8_lostNow 35 = .ok (.iload_n 2, 1) := by decide +kernel
theorem dX8_lostNow_36 : decode cX8_lostNow 36 = .ok (.invokevirtual 192, 3) := by decide +kernel
theorem dX8_lostNow_39 : decode cX8_lostNow 39 = .ok (.ireturn, 1) := by decide +kernel
theorem dX8_lostNow_40 : decode cX8_lostNow 40 = .ok (.iinc 2 (-1), 3) := by decide +kernel
theorem dX8_lostNow_43 : decode cX8_lostNow 43 = .ok (.goto (-33), 3) := by decide +kernel
theorem dX8_lostNow_46 : decode cX8_lostNow 46 = .ok (.iconst (-1), 1) := by decide +kernel
theorem dX8_lostNow_47 : decode cX8_lostNow 47 = .ok (.ireturn, 1) := by decide +kernel
theorem dX8_lost_0 : decode cX8_lost 0 = .ok (.aload_n 0, 1) := by decide +kernel
theorem dX8_lost_1 : decode cX8_lost 1 = .ok (.iload_n 1, 1) := by decide +kernel
theorem dX8_lost_2 : decode cX8_lost 2 = .ok (.invokestatic 204, 3) := by decide +kernel
theorem dX8_lost_5 : decode cX8_lost 5 = .ok (.iconst 0, 1) := by decide +kernel
theorem dX8_lost_6 : decode cX8_lost 6 = .ok (.iconst 0, 1) := by decide +kernel
theorem dX8_lost_7 : decode cX8_lost 7 = .ok (.invokevirtual 38, 3) := by decide +kernel
theorem dX8_lost_10 : decode cX8_lost 10 = .ok (.ifCond .eq 7, 3) := by decide +kernel
theorem dX8_lost_13 : decode cX8_lost 13 = .ok (.iconst 0, 1) := by decide +kernel
theorem dX8_lost_14 : decode cX8_lost 14 = .ok (.goto 8, 3) := by decide +kernel
theorem dX8_lost_17 : decode cX8_lost 17 = .ok (.aload_n 0, 1) := by decide +kernel
theorem dX8_lost_18 : decode cX8_lost 18 = .ok (.iload_n 1, 1) := by decide +kernel
theorem dX8_lost_19 : decode cX8_lost 19 = .ok (.invokevirtual 219, 3) := by decide +kernel
theorem dX8_lost_22 : decode cX8_lost 22 = .ok (.ireturn, 1) := by decide +kernel
theorem dX8_withDepth_0 : decode cX8_withDepth 0 = .ok (.aload_n 0, 1) := by decide +kernel
theorem dX8_withDepth_1 : decode cX8_withDepth 1 = .ok (.iconst 0, 1) := by decide +kernel
theorem dX8_withDepth_2 : decode cX8_withDepth 2 = .ok (.putfield 23, 3) := by decide +kernel
theorem dX8_withDepth_5 : decode cX8_withDepth 5 = .ok (.iconst 0, 1) := by decide +kernel
theorem dX8_withDepth_6 : decode cX8_withDepth 6 = .ok (.istore_n 2, 1) := by decide +kernel
theorem dX8_withDepth_7 : decode cX8_withDepth 7 = .ok (.iconst 0, 1) := by decide +kernel
theorem dX8_withDepth_8 : decode cX8_withDepth 8 = .ok (.istore_n 3, 1) := by decide +kernel
theorem dX8_withDepth_9 : decode cX8_withDepth 9 = .ok (.iload_n 3, 1) := by decide +kernel
theorem dX8_withDepth_10 : decode cX8_withDepth 10 = .ok (.aload_n 0, 1) := by decide +kernel
theorem dX8_withDepth_11 : decode cX8_withDepth 11 = .ok (.getfield 19, 3) := by decide +kernel
theorem dX8_withDepth_14 : decode cX8_withDepth 14 = .ok (.invokevirtual 45, 3) := by decide +kernel
theorem dX8_withDepth_17 : decode cX8_withDepth 17 = .ok (.if_icmp .ge 43, 3) := by decide +kernel
theorem dX8_withDepth_20 : decode cX8_withDepth 20 = .ok (.iload_n 2, 1) := by decide +kernel
theorem dX8_withDepth_21 : decode cX8_withDepth 21 = .ok (.aload_n 0, 1) := by decide +kernel
theorem dX8_withDepth_22 : decode cX8_withDepth 22 = .ok (.aload_n 0, 1) := by decide +kernel
theorem dX8_withDepth_23 : decode cX8_withDepth 23 = .ok (.getfield 19, 3) := by decide +kernel
theorem dX8_withDepth_26 : decode cX8_withDepth 26 = .ok (.iload_n 3, 1) := by decide +kernel
theorem dX8_withDepth_27 : decode cX8_withDepth 27 = .ok (.invokevirtual 64, 3) := by decide +kernel
theorem dX8_withDepth_30 : decode cX8_withDepth 30 = .ok (.checkcast 168, 3) := by decide +kernel
theorem dX8_withDepth_33 : decode cX8_withDepth 33 = .ok (.invokevirtual 170, 3) := by decide +kernel
theorem dX8_withDepth_36 : decode cX8_withDepth 36 = .ok (.iload_n 3, 1) := by decide +kernel
theorem dX8_withDepth_37 : decode cX8_withDepth 37 = .ok (.invokevirtual 179, 3) := by decide +kernel
theorem dX8_withDepth_40 : decode cX8_withDepth 40 = .ok (.iload_n 1, 1) := by decide +kernel
theorem dX8_withDepth_41 : decode cX8_withDepth 41 = .ok (.if_icmp .ne 7, 3) := by decide +kernel
theorem dX8_withDepth_44 : decode cX8_withDepth 44 = .ok (.iconst 1, 1) := by decide +kernel
theorem dX8_withDepth_45 : decode cX8_withDepth 45 = .ok (.goto 4, 3) := by decide +kernel
theorem dX8_withDepth_48 : decode cX8_withDepth 48 = .ok (.iconst 0, 1) := by decide +kernel
theorem dX8_withDepth_49 : decode cX8_withDepth 49 = .ok (.invokestatic 139, 3) := by decide +kernel
theorem dX8_withDepth_52 : decode cX8_withDepth 52 = .ok (.iadd, 1) := by decide +kernel
theorem dX8_withDepth_53 : decode cX8_withDepth 53 = .ok (.istore_n 2, 1) := by decide +kernel
theorem dX8_withDepth_54 : decode cX8_withDepth 54 = .ok (.iinc 3 1, 3) := by decide +kernel
theorem dX8_withDepth_57 : decode cX8_withDepth 57 = .ok (.goto (-48), 3) := by decide +kernel
theorem dX8_withDepth_60 : decode cX8_withDepth 60 = .ok (.iload_n 2, 1) := by decide +kernel
theorem dX8_withDepth_61 : decode cX8_withDepth 61 = .ok (.ireturn, 1) := by decide +kernel
theorem dX8_bestNow_0 : decode cX8_bestNow 0 = .ok (.bipush 60, 2) := by decide +kernel
theorem dX8_bestNow_2 : decode cX8_bestNow 2 = .ok (.newarray .int, 2) := by decide +kernel
theorem dX8_bestNow_4 : decode cX8_bestNow 4 = .ok (.astore_n 2, 1) := by decide +kernel
theorem dX8_bestNow_5 : decode cX8_bestNow 5 = .ok (.iconst 0, 1) := by decide +kernel
theorem dX8_bestNow_6 : decode cX8_bestNow 6 = .ok (.istore_n 3, 1) := by decide +kernel
theorem dX8_bestNow_7 : decode cX8_bestNow 7 = .ok (.iconst 0, 1) := by decide +kernel
theorem dX8_bestNow_8 : decode cX8_bestNow 8 = .ok (.istore 4, 2) := by decide +kernel
theorem dX8_bestNow_10 : decode cX8_bestNow 10 = .ok (.iload 4, 2) := by decide +kernel
theorem dX8_bestNow_12 : decode cX8_bestNow 12 = .ok (.aload_n 0, 1) := by decide +kernel
theorem dX8_bestNow_13 : decode cX8_bestNow 13 = .ok (.getfield 19, 3) := by decide +kernel
theorem dX8_bestNow_16 : decode cX8_bestNow 16 = .ok (.invokevirtual 45, 3) := by decide +kernel
theorem dX8_bestNow_19 : decode cX8_bestNow 19 = .ok (.if_icmp .ge 124, 3) := by decide +kernel
theorem dX8_bestNow_22 : decode cX8_bestNow 22 = .ok (.aload_n 0, 1) := by decide +kernel
theorem dX8_bestNow_23 : decode cX8_bestNow 23 = .ok (.aload_n 0, 1) := by decide +kernel
theorem dX8_bestNow_24 : decode cX8_bestNow 24 = .ok (.getfield 19, 3) := by decide +kernel
theorem dX8_bestNow_27 : decode cX8_bestNow 27 = .ok (.iload 4, 2) := by decide +kernel
theorem dX8_bestNow_29 : decode cX8_bestNow 29 = .ok (.invokevirtual 64, 3) := by decide +kernel
theorem dX8_bestNow_32 : decode cX8_bestNow 32 = .ok (.checkcast 168, 3) := by decide +kernel
theorem dX8_bestNow_35 : decode cX8_bestNow 35 = .ok (.invokevirtual 170, 3) := by decide +kernel
theorem dX8_bestNow_38 : decode cX8_bestNow 38 = .ok (.iload 4, 2) := by decide +kernel
theorem dX8_bestNow_40 : decode cX8_bestNow 40 = .ok (.invokevirtual 173, 3) := by decide +kernel
theorem dX8_bestNow_43 : decode cX8_bestNow 43 = .ok (.istore 5, 2) := by decide +kernel
theorem dX8_bestNow_45 : decode cX8_bestNow 45 = .ok (.iload 5, 2) := by decide +kernel
theorem dX8_bestNow_47 : decode cX8_bestNow 47 = .ok (.iconst (-1), 1) := by decide +kernel
theorem dX8_bestNow_48 : decode cX8_bestNow 48 = .ok (.if_icmp .eq 7, 3) := by decide +kernel
theorem dX8_bestNow_51 : decode cX8_bestNow 51 = .ok (.iconst 1, 1) := by decide +kernel
theorem dX8_bestNow_52 : decode cX8_bestNow 52 = .ok (.goto 4, 3) := by decide +kernel
theorem dX8_bestNow_55 : decode cX8_bestNow 55 = .ok (.iconst 0, 1) := by decide +kernel
theorem dX8_bestNow_56 : decode cX8_bestNow 56 = .ok (.istore 6, 2) := by decide +kernel
theorem dX8_bestNow_58 : decode cX8_bestNow 58 = .ok (.iload 5, 2) := by decide +kernel
theorem dX8_bestNow_60 : decode cX8_bestNow 60 = .ok (.iconst 1, 1) := by decide +kernel
theorem dX8_bestNow_61 : decode cX8_bestNow 61 = .ok (.iadd, 1) := by decide +kernel
theorem dX8_bestNow_62 : decode cX8_bestNow 62 = .ok (.istore 7, 2) := by decide +kernel
theorem dX8_bestNow_64 : decode cX8_bestNow 64 = .ok (.iload 7, 2) := by decide +kernel
theorem dX8_bestNow_66 : decode cX8_bestNow 66 = .ok (.iload 4, 2) := by decide +kernel
theorem dX8_bestNow_68 : decode cX8_bestNow 68 = .ok (.if_icmp .ge 31, 3) := by decide +kernel
theorem dX8_bestNow_71 : decode cX8_bestNow 71 = .ok (.iload 6, 2) := by decide +kernel
theorem dX8_bestNow_73 : decode cX8_bestNow 73 = .ok (.ifCond .eq 26, 3) := by decide +kernel
theorem dX8_bestNow_76 : decode cX8_bestNow 76 = .ok (.aload_n 2, 1) := by decide +kernel
theorem dX8_bestNow_77 : decode cX8_bestNow 77 = .ok (.iload 7, 2) := by decide +kernel
theorem dX8_bestNow_79 : decode cX8_bestNow 79 = .ok (.iaload, 1) := by decide +kernel
theorem dX8_bestNow_80 : decode cX8_bestNow 80 = .ok (.iload_n 1, 1) := by decide +kernel
theorem dX8_bestNow_81 : decode cX8_bestNow 81 = .ok (.iconst 1, 1) := by decide +kernel
theorem dX8_bestNow_82 : decode cX8_bestNow 82 = .ok (.isub, 1) := by decide +kernel
theorem dX8_bestNow_83 : decode cX8_bestNow 83 = .ok (.if_icmp .ge 7, 3) := by decide +kernel
theorem dX8_bestNow_86 : decode cX8_bestNow 86 = .ok (.iconst 1, 1) := by decide +kernel
theorem dX8_bestNow_87 : decode cX8_bestNow 87 = .ok (.goto 4, 3) := by decide +kernel
theorem dX8_bestNow_90 : decode cX8_bestNow 90 = .ok (.iconst 0, 1) := by decide +kernel
theorem dX8_bestNow_91 : decode cX8_bestNow 91 = .ok (.istore 6, 2) := by decide +kernel
theorem dX8_bestNow_93 : decode cX8_bestNow 93 = .ok (.iinc 7 1, 3) := by decide +kernel
theorem dX8_bestNow_96 : decode cX8_bestNow 96 = .ok (.goto (-32), 3) := by decide +kernel
theorem dX8_bestNow_99 : decode cX8_bestNow 99 = .ok (.iload 6, 2) := by decide +kernel
theorem dX8_bestNow_101 : decode cX8_bestNow 101 = .ok (.ifCond .ne 6, 3) := by decide +kernel
theorem dX8_bestNow_104 : decode cX8_bestNow 104 = .ok (.goto 33, 3) := by decide +kernel
theorem dX8_bestNow_107 : decode cX8_bestNow 107 = .ok (.iinc 3 1, 3) := by decide +kernel
theorem dX8_bestNow_110 : decode cX8_bestNow 110 = .ok (.iload 5, 2) := by decide +kernel
theorem dX8_bestNow_112 : decode cX8_bestNow 112 = .ok (.iconst 1, 1) := by decide +kernel
theorem dX8_bestNow_113 : decode cX8_bestNow 113 = .ok (.iadd, 1) := by decide +kernel
theorem dX8_bestNow_114 : decode cX8_bestNow 114 = .ok (.istore 7, 2) := by decide +kernel
theorem dX8_bestNow_116 : decode cX8_bestNow 116 = .ok (.iload 7, 2) := by decide +kernel
theorem dX8_bestNow_118 : decode cX8_bestNow 118 = .ok (.iload 4, 2) := by decide +kernel
theorem dX8_bestNow_120 : decode cX8_bestNow 120 = .ok (.if_icmp .ge 17, 3) := by decide +kernel
theorem dX8_bestNow_123 : decode cX8_bestNow 123 = .ok (.aload_n 2, 1) := by decide +kernel
theorem dX8_bestNow_124 : decode cX8_bestNow 124 = .ok (.iload 7, 2) := by decide +kernel
theorem dX8_bestNow_126 : decode cX8_bestNow 126 = .ok (.dup2, 1) := by decide +kernel
theorem dX8_bestNow_127 : decode cX8_bestNow 127 = .ok (.iaload, 1) := by decide +kernel
theorem dX8_bestNow_128 : decode cX8_bestNow 128 = .ok (.iconst 1, 1) := by decide +kernel
theorem dX8_bestNow_129 : decode cX8_bestNow 129 = .ok (.iadd, 1) := by decide +kernel
theorem dX8_bestNow_130 : decode cX8_bestNow 130 = .ok (.iastore, 1) := by decide +kernel
theorem dX8_bestNow_131 : decode cX8_bestNow 131 = .ok (.iinc 7 1, 3) := by decide +kernel
theorem dX8_bestNow_134 : decode cX8_bestNow 134 = .ok (.goto (-18), 3) := by decide +kernel
theorem dX8_bestNow_137 : decode cX8_bestNow 137 = .ok (.iinc 4 1, 3) := by decide +kernel
theorem dX8_bestNow_140 : decode cX8_bestNow 140 = .ok (.goto (-130), 3) := by decide +kernel
theorem dX8_bestNow_143 : decode cX8_bestNow 143 = .ok (.aload_n 0, 1) := by decide +kernel
theorem dX8_bestNow_144 : decode cX8_bestNow 144 = .ok (.getfield 19, 3) := by decide +kernel
theorem dX8_bestNow_147 : decode cX8_bestNow 147 = .ok (.invokevirtual 45, 3) := by decide +kernel
theorem dX8_bestNow_150 : decode cX8_bestNow 150 = .ok (.iload_n 3, 1) := by decide +kernel
theorem dX8_bestNow_151 : decode cX8_bestNow 151 = .ok (.isub, 1) := by decide +kernel
theorem dX8_bestNow_152 : decode cX8_bestNow 152 = .ok (.ireturn, 1) := by decide +kernel
theorem dX8_best_0 : decode cX8_best 0 = .ok (.aload_n 0, 1) := by decide +kernel
theorem dX8_best_1 : decode cX8_best 1 = .ok (.iload_n 1, 1) := by decide +kernel
theorem dX8_best_2 : decode cX8_best 2 = .ok (.invokestatic 204, 3) := by decide +kernel
theorem dX8_best_5 : decode cX8_best 5 = .ok (.iconst 0, 1) := by decide +kernel
theorem dX8_best_6 : decode cX8_best 6 = .ok (.iconst 0, 1) := by decide +kernel
theorem dX8_best_7 : decode cX8_best 7 = .ok (.invokevirtual 38, 3) := by decide +kernel
theorem dX8_best_10 : decode cX8_best 10 = .ok (.ifCond .eq 7, 3) := by decide +kernel
theorem dX8_best_13 : decode cX8_best 13 = .ok (.iconst 0, 1) := by decide +kernel
theorem dX8_best_14 : decode cX8_best 14 = .ok (.goto 8, 3) := by decide +kernel
theorem dX8_best_17 : decode cX8_best 17 = .ok (.aload_n 0, 1) := by decide +kernel
theorem dX8_best_18 : decode cX8_best 18 = .ok (.iload_n 1, 1) := by decide +kernel
theorem dX8_best_19 : decode cX8_best 19 = .ok (.invokevirtual 222, 3) := by decide +kernel
theorem dX8_best_22 : decode cX8_best 22 = .ok (.ireturn, 1) := by decide +kernel
theorem dX8_houseNow_0 : decode cX8_houseNow 0 = .ok (.iconst 0, 1) := by decide +kernel
theorem dX8_houseNow_1 : decode cX8_houseNow 1 = .ok (.istore_n 2, 1) := by decide +kernel
theorem dX8_houseNow_2 : decode cX8_houseNow 2 = .ok (.aload_n 0, 1) := by decide +kernel
theorem dX8_houseNow_3 : decode cX8_houseNow 3 = .ok (.getfield 10, 3) := by decide +kernel
theorem dX8_houseNow_6 : decode cX8_houseNow 6 = .ok (.astore_n 3, 1) := by decide +kernel
theorem dX8_houseNow_7 : decode cX8_houseNow 7 = .ok (.aload_n 3, 1) := by decide +kernel
theorem dX8_houseNow_8 : decode cX8_houseNow 8 = .ok (.arraylength, 1) := by decide +kernel
theorem dX8_houseNow_9 : decode cX8_houseNow 9 = .ok (.istore 4, 2) := by decide +kernel
theorem dX8_houseNow_11 : decode cX8_houseNow 11 = .ok (.iconst 0, 1) := by decide +kernel
theorem dX8_houseNow_12 : decode cX8_houseNow 12 = .ok (.istore 5, 2) := by decide +kernel
theorem dX8_houseNow_14 : decode cX8_houseNow 14 = .ok (.iload 5, 2) := by decide +kernel
theorem dX8_houseNow_16 : decode cX8_houseNow 16 = .ok (.iload 4, 2) := by decide +kernel
theorem dX8_houseNow_18 : decode cX8_houseNow 18 = .ok (.if_icmp .ge 26, 3) := by decide +kernel
theorem dX8_houseNow_21 : decode cX8_houseNow 21 = .ok (.aload_n 3, 1) := by decide +kernel
theorem dX8_houseNow_22 : decode cX8_houseNow 22 = .ok (.iload 5, 2) := by decide +kernel
theorem dX8_houseNow_24 : decode cX8_houseNow 24 = .ok (.aaload, 1) := by decide +kernel
theorem dX8_houseNow_25 : decode cX8_houseNow 25 = .ok (.astore 6, 2) := by decide +kernel
theorem dX8_houseNow_27 : decode cX8_houseNow 27 = .ok (.iload_n 2, 1) := by decide +kernel
theorem dX8_houseNow_28 : decode cX8_houseNow 28 = .ok (.aload 6, 2) := by decide +kernel
theorem dX8_houseNow_30 : decode cX8_houseNow 30 = .ok (.getfield 42, 3) := by decide +kernel
theorem dX8_houseNow_33 : decode cX8_houseNow 33 = .ok (.invokevirtual 45, 3) := by decide +kernel
theorem dX8_houseNow_36 : decode cX8_houseNow 36 = .ok (.iadd, 1) := by decide +kernel
theorem dX8_houseNow_37 : decode cX8_houseNow 37 = .ok (.istore_n 2, 1) := by decide +kernel
theorem dX8_houseNow_38 : decode cX8_houseNow 38 = .ok (.iinc 5 1, 3) := by decide +kernel
theorem dX8_houseNow_41 : decode cX8_houseNow 41 = .ok (.goto (-27), 3) := by decide +kernel
theorem dX8_houseNow_44 : decode cX8_houseNow 44 = .ok (.iconst 5, 1) := by decide +kernel
theorem dX8_houseNow_45 : decode cX8_houseNow 45 = .ok (.newarray .int, 2) := by decide +kernel
theorem dX8_houseNow_47 : decode cX8_houseNow 47 = .ok (.dup, 1) := by decide +kernel
theorem dX8_houseNow_48 : decode cX8_houseNow 48 = .ok (.iconst 0, 1) := by decide +kernel
theorem dX8_houseNow_49 : decode cX8_houseNow 49 = .ok (.iload_n 2, 1) := by decide +kernel
theorem dX8_houseNow_50 : decode cX8_houseNow 50 = .ok (.iastore, 1) := by decide +kernel
theorem dX8_houseNow_51 : decode cX8_houseNow 51 = .ok (.dup, 1) := by decide +kernel
theorem dX8_houseNow_52 : decode cX8_houseNow 52 = .ok (.iconst 1, 1) := by decide +kernel
theorem dX8_houseNow_53 : decode cX8_houseNow 53 = .ok (.aload_n 0, 1) := by decide +kernel
theorem dX8_houseNow_54 : decode cX8_houseNow 54 = .ok (.getfield 19, 3) := by decide +kernel
theorem dX8_houseNow_57 : decode cX8_houseNow 57 = .ok (.invokevirtual 45, 3) := by decide +kernel
theorem dX8_houseNow_60 : decode cX8_houseNow 60 = .ok (.iastore, 1) := by decide +kernel
theorem dX8_houseNow_61 : decode cX8_houseNow 61 = .ok (.dup, 1) := by decide +kernel
theorem dX8_houseNow_62 : decode cX8_houseNow 62 = .ok (.iconst 2, 1) := by decide +kernel
theorem dX8_houseNow_63 : decode cX8_houseNow 63 = .ok (.aload_n 0, 1) := by decide +kernel
theorem dX8_houseNow_64 : decode cX8_houseNow 64 = .ok (.iconst 0, 1) := by decide +kernel
theorem dX8_houseNow_65 : decode cX8_houseNow 65 = .ok (.aload_n 0, 1) := by decide +kernel
theorem dX8_houseNow_66 : decode cX8_houseNow 66 = .ok (.getfield 19, 3) := by decide +kernel
theorem dX8_houseNow_69 : decode cX8_houseNow 69 = .ok (.invokevirtual 45, 3) := by decide +kernel
theorem dX8_houseNow_72 : decode cX8_houseNow 72 = .ok (.invokevirtual 176, 3) := by decide +kernel
theorem dX8_houseNow_75 : decode cX8_houseNow 75 = .ok (.iastore, 1) := by decide +kernel
theorem dX8_houseNow_76 : decode cX8_houseNow 76 = .ok (.dup, 1) := by decide +kernel
theorem dX8_houseNow_77 : decode cX8_houseNow 77 = .ok (.iconst 3, 1) := by decide +kernel
theorem dX8_houseNow_78 : decode cX8_houseNow 78 = .ok (.aload_n 0, 1) := by decide +kernel
theorem dX8_houseNow_79 : decode cX8_houseNow 79 = .ok (.getfield 31, 3) := by decide +kernel
theorem dX8_houseNow_82 : decode cX8_houseNow 82 = .ok (.iastore, 1) := by decide +kernel
theorem dX8_houseNow_83 : decode cX8_houseNow 83 = .ok (.dup, 1) := by decide +kernel
theorem dX8_houseNow_84 : decode cX8_houseNow 84 = .ok (.iconst 4, 1) := by decide +kernel
theorem dX8_houseNow_85 : decode cX8_houseNow 85 = .ok (.aload_n 0, 1) := by decide +kernel
theorem dX8_houseNow_86 : decode cX8_houseNow 86 = .ok (.getfield 225, 3) := by decide +kernel
theorem dX8_houseNow_89 : decode cX8_houseNow 89 = .ok (.iastore, 1) := by decide +kernel
theorem dX8_houseNow_90 : decode cX8_houseNow 90 = .ok (.astore_n 3, 1) := by decide +kernel
theorem dX8_houseNow_91 : decode cX8_houseNow 91 = .ok (.aload_n 3, 1) := by decide +kernel
theorem dX8_houseNow_92 : decode cX8_houseNow 92 = .ok (.iload_n 1, 1) := by decide +kernel
theorem dX8_houseNow_93 : decode cX8_houseNow 93 = .ok (.iaload, 1) := by decide +kernel
theorem dX8_houseNow_94 : decode cX8_houseNow 94 = .ok (.ireturn, 1) := by decide +kernel
theorem dX8_house_0 : decode cX8_house 0 = .ok (.aload_n 0, 1) := by decide +kernel
theorem dX8_house_1 : decode cX8_house 1 = .ok (.iload_n 1, 1) := by decide +kernel
theorem dX8_house_2 : decode cX8_house 2 = .ok (.iconst 5, 1) := by decide +kernel
theorem dX8_house_3 : decode cX8_house 3 = .ok (.invokestatic 27, 3) := by decide +kernel
theorem dX8_house_6 : decode cX8_house 6 = .ok (.iconst 0, 1) := by decide +kernel
theorem dX8_house_7 : decode cX8_house 7 = .ok (.iconst 0, 1) := by decide +kernel
theorem dX8_house_8 : decode cX8_house 8 = .ok (.invokevirtual 38, 3) := by decide +kernel
theorem dX8_house_11 : decode cX8_house 11 = .ok (.ifCond .eq 7, 3) := by decide +kernel
theorem dX8_house_14 : decode cX8_house 14 = .ok (.iconst 0, 1) := by decide +kernel
theorem dX8_house_15 : decode cX8_house 15 = .ok (.goto 8, 3) := by decide +kernel
theorem dX8_house_18 : decode cX8_house 18 = .ok (.aload_n 0, 1) := by decide +kernel
theorem dX8_house_19 : decode cX8_house 19 = .ok (.iload_n 1, 1) := by decide +kernel
theorem dX8_house_20 : decode cX8_house 20 = .ok (.invokevirtual 228, 3) := by decide +kernel
theorem dX8_house_23 : decode cX8_house 23 = .ok (.ireturn, 1) := by decide +kernel
theorem dX8_knock_0 : decode cX8_knock 0 = .ok (.aload_n 0, 1) := by decide +kernel
theorem dX8_knock_1 : decode cX8_knock 1 = .ok (.iconst 0, 1) := by decide +kernel
theorem dX8_knock_2 : decode cX8_knock 2 = .ok (.putfield 23, 3) := by decide +kernel
theorem dX8_knock_5 : decode cX8_knock 5 = .ok (.aload_n 0, 1) := by decide +kernel
theorem dX8_knock_6 : decode cX8_knock 6 = .ok (.dup, 1) := by decide +kernel
theorem dX8_knock_7 : decode cX8_knock 7 = .ok (.getfield 225, 3) := by decide +kernel
theorem dX8_knock_10 : decode cX8_knock 10 = .ok (.iconst 1, 1) := by decide +kernel
theorem dX8_knock_11 : decode cX8_knock 11 = .ok (.iadd, 1) := by decide +kernel
theorem dX8_knock_12 : decode cX8_knock 12 = .ok (.putfield 225, 3) := by decide +kernel
theorem dX8_knock_15 : decode cX8_knock 15 = .ok (.aload_n 0, 1) := by decide +kernel
theorem dX8_knock_16 : decode cX8_knock 16 = .ok (.getfield 225, 3) := by decide +kernel
theorem dX8_knock_19 : decode cX8_knock 19 = .ok (.ireturn, 1) := by decide +kernel
theorem dX8_isSound_0 : decode cX8_isSound 0 = .ok (.aload_n 0, 1) := by decide +kernel
theorem dX8_isSound_1 : decode cX8_isSound 1 = .ok (.iconst 0, 1) := by decide +kernel
theorem dX8_isSound_2 : decode cX8_isSound 2 = .ok (.putfield 23, 3) := by decide +kernel
theorem dX8_isSound_5 : decode cX8_isSound 5 = .ok (.iconst 1, 1) := by decide +kernel
theorem dX8_isSound_6 : decode cX8_isSound 6 = .ok (.ireturn, 1) := by decide +kernel
theorem dX8_addAskings_0 : decode cX8_addAskings 0 = .ok (.lload_n 1, 1) := by decide +kernel
theorem dX8_addAskings_1 : decode cX8_addAskings 1 = .ok (.lstore_n 3, 1) := by decide +kernel
theorem dX8_addAskings_2 : decode cX8_addAskings 2 = .ok (.iconst 0, 1) := by decide +kernel
theorem dX8_addAskings_3 : decode cX8_addAskings 3 = .ok (.istore 5, 2) := by decide +kernel
theorem dX8_addAskings_5 : decode cX8_addAskings 5 = .ok (.iload 5, 2) := by decide +kernel
theorem dX8_addAskings_7 : decode cX8_addAskings 7 = .ok (.aload_n 0, 1) := by decide +kernel
theorem dX8_addAskings_8 : decode cX8_addAskings 8 = .ok (.getfield 19, 3) := by decide +kernel
theorem dX8_addAskings_11 : decode cX8_addAskings 11 = .ok (.invokevirtual 45, 3) := by decide +kernel
theorem dX8_addAskings_14 : decode cX8_addAskings 14 = .ok (.if_icmp .ge 59, 3) := by decide +kernel
theorem dX8_addAskings_17 : decode cX8_addAskings 17 = .ok (.lload_n 3, 1) := by decide +kernel
theorem dX8_addAskings_18 : decode cX8_addAskings 18 = .ok (.ldc2_w 231, 3) := by decide +kernel
theorem dX8_addAskings_21 : decode cX8_addAskings 21 = .ok (.lmul, 1) := by decide +kernel
theorem dX8_addAskings_22 : decode cX8_addAskings 22 = .ok (.aload_n 0, 1) := by decide +kernel
theorem dX8_addAskings_23 : decode cX8_addAskings 23 = .ok (.getfield 19, 3) := by decide +kernel
theorem dX8_addAskings_26 : decode cX8_addAskings 26 = .ok (.iload 5, 2) := by decide +kernel
theorem dX8_addAskings_28 : decode cX8_addAskings 28 = .ok (.invokevirtual 64, 3) := by decide +kernel
theorem dX8_addAskings_31 : decode cX8_addAskings 31 = .ok (.checkcast 168, 3) := by decide +kernel
theorem dX8_addAskings_34 : decode cX8_addAskings 34 = .ok (.invokevirtual 170, 3) := by decide +kernel
theorem dX8_addAskings_37 : decode cX8_addAskings 37 = .ok (.i2l, 1) := by decide +kernel
theorem dX8_addAskings_38 : decode cX8_addAskings 38 = .ok (.ladd, 1) := by decide +kernel
theorem dX8_addAskings_39 : decode cX8_addAskings 39 = .ok (.ldc2_w 231, 3) := by decide +kernel
theorem dX8_addAskings_42 : decode cX8_addAskings 42 = .ok (.lmul, 1) := by decide +kernel
theorem dX8_addAskings_43 : decode cX8_addAskings 43 = .ok (.aload_n 0, 1) := by decide +kernel
theorem dX8_addAskings_44 : decode cX8_addAskings 44 = .ok (.aload_n 0, 1) := by decide +kernel
theorem dX8_addAskings_45 : decode cX8_addAskings 45 = .ok (.getfield 19, 3) := by decide +kernel
theorem dX8_addAskings_48 : decode cX8_addAskings 48 = .ok (.iload 5, 2) := by decide +kernel
theorem dX8_addAskings_50 : decode cX8_addAskings 50 = .ok (.invokevirtual 64, 3) := by decide +kernel
theorem dX8_addAskings_53 : decode cX8_addAskings 53 = .ok (.checkcast 168, 3) := by decide +kernel
theorem dX8_addAskings_56 : decode cX8_addAskings 56 = .ok (.invokevirtual 170, 3) := by decide +kernel
theorem dX8_addAskings_59 : decode cX8_addAskings 59 = .ok (.iload 5, 2) := by decide +kernel
theorem dX8_addAskings_61 : decode cX8_addAskings 61 = .ok (.invokevirtual 179, 3) := by decide +kernel
theorem dX8_addAskings_64 : decode cX8_addAskings 64 = .ok (.i2l, 1) := by decide +kernel
theorem dX8_addAskings_65 : decode cX8_addAskings 65 = .ok (.ladd, 1) := by decide +kernel
theorem dX8_addAskings_66 : decode cX8_addAskings 66 = .ok (.lstore_n 3, 1) := by decide +kernel
theorem dX8_addAskings_67 : decode cX8_addAskings 67 = .ok (.iinc 5 1, 3) := by decide +kernel
theorem dX8_addAskings_70 : decode cX8_addAskings 70 = .ok (.goto (-65), 3) := by decide +kernel
theorem dX8_addAskings_73 : decode cX8_addAskings 73 = .ok (.aload_n 0, 1) := by decide +kernel
theorem dX8_addAskings_74 : decode cX8_addAskings 74 = .ok (.iconst 2, 1) := by decide +kernel
theorem dX8_addAskings_75 : decode cX8_addAskings 75 = .ok (.invokevirtual 228, 3) := by decide +kernel
theorem dX8_addAskings_78 : decode cX8_addAskings 78 = .ok (.istore 5, 2) := by decide +kernel
theorem dX8_addAskings_80 : decode cX8_addAskings 80 = .ok (.iload 5, 2) := by decide +kernel
theorem dX8_addAskings_82 : decode cX8_addAskings 82 = .ok (.ifCond .le 30, 3) := by decide +kernel
theorem dX8_addAskings_85 : decode cX8_addAskings 85 = .ok (.lload_n 3, 1) := by decide +kernel
theorem dX8_addAskings_86 : decode cX8_addAskings 86 = .ok (.ldc2_w 231, 3) := by decide +kernel
theorem dX8_addAskings_89 : decode cX8_addAskings 89 = .ok (.lmul, 1) := by decide +kernel
theorem dX8_addAskings_90 : decode cX8_addAskings 90 = .ok (.aload_n 0, 1) := by decide +kernel
theorem dX8_addAskings_91 : decode cX8_addAskings 91 = .ok (.iload 5, 2) := by decide +kernel
theorem dX8_addAskings_93 : decode cX8_addAskings 93 = .ok (.aload_n 0, 1) := by decide +kernel
theorem dX8_addAskings_94 : decode cX8_addAskings 94 = .ok (.getfield 19, 3) := by decide +kernel
theorem dX8_addAskings_97 : decode cX8_addAskings 97 = .ok (.invokevirtual 45, 3) := by decide +kernel
theorem dX8_addAskings_100 : decode cX8_addAskings 100 = .ok (.invokevirtual 192, 3) := by decide +kernel
theorem dX8_addAskings_103 : decode cX8_addAskings 103 = .ok (.i2l, 1) := by decide +kernel
theorem dX8_addAskings_104 : decode cX8_addAskings 104 = .ok (.ladd, 1) := by decide +kernel
theorem dX8_addAskings_105 : decode cX8_addAskings 105 = .ok (.lstore_n 3, 1) := by decide +kernel
theorem dX8_addAskings_106 : decode cX8_addAskings 106 = .ok (.iinc 5 (-1), 3) := by decide +kernel
theorem dX8_addAskings_109 : decode cX8_addAskings 109 = .ok (.goto (-29), 3) := by decide +kernel
theorem dX8_addAskings_112 : decode cX8_addAskings 112 = .ok (.iconst 1, 1) := by decide +kernel
theorem dX8_addAskings_113 : decode cX8_addAskings 113 = .ok (.istore 5, 2) := by decide +kernel
theorem dX8_addAskings_115 : decode cX8_addAskings 115 = .ok (.iload 5, 2) := by decide +kernel
theorem dX8_addAskings_117 : decode cX8_addAskings 117 = .ok (.bipush 6, 2) := by decide +kernel
theorem dX8_addAskings_119 : decode cX8_addAskings 119 = .ok (.if_icmp .gt 79, 3) := by decide +kernel
theorem dX8_addAskings_122 : decode cX8_addAskings 122 = .ok (.lload_n 3, 1) := by decide +kernel
theorem dX8_addAskings_123 : decode cX8_addAskings 123 = .ok (.ldc2_w 231, 3) := by decide +kernel
theorem dX8_addAskings_126 : decode cX8_addAskings 126 = .ok (.lmul, 1) := by decide +kernel
theorem dX8_addAskings_127 : decode cX8_addAskings 127 = .ok (.aload_n 0, 1) := by decide +kernel
theorem dX8_addAskings_128 : decode cX8_addAskings 128 = .ok (.iload 5, 2) := by decide +kernel
theorem dX8_addAskings_130 : decode cX8_addAskings 130 = .ok (.invokevirtual 216, 3) := by decide +kernel
theorem dX8_addAskings_133 : decode cX8_addAskings 133 = .ok (.i2l, 1) := by decide +kernel
theorem dX8_addAskings_134 : decode cX8_addAskings 134 = .ok (.ladd, 1) := by decide +kernel
theorem dX8_addAskings_135 : decode cX8_addAskings 135 = .ok (.ldc2_w 231, 3) := by decide +kernel
theorem dX8_addAskings_138 : decode cX8_addAskings 138 = .ok (.lmul, 1) := by decide +kernel
theorem dX8_addAskings_139 : decode cX8_addAskings 139 = .ok (.aload_n 0, 1) := by decide +kernel
theorem dX8_addAskings_140 : decode cX8_addAskings 140 = .ok (.iload 5, 2) := by decide +kernel
theorem dX8_addAskings_142 : decode cX8_addAskings 142 = .ok (.invokevirtual 222, 3) := by decide +kernel
theorem dX8_addAskings_145 : decode cX8_addAskings 145 = .ok (.i2l, 1) := by decide +kernel
theorem dX8_addAskings_146 : decode cX8_addAskings 146 = .ok (.ladd, 1) := by decide +kernel
theorem dX8_addAskings_147 : decode cX8_addAskings 147 = .ok (.ldc2_w 231, 3) := by decide +kernel
theorem dX8_addAskings_150 : decode cX8_addAskings 150 = .ok (.lmul, 1) := by decide +kernel
theorem dX8_addAskings_151 : decode cX8_addAskings 151 = .ok (.aload_n 0, 1) := by decide +kernel
theorem dX8_addAskings_152 : decode cX8_addAskings 152 = .ok (.iload 5, 2) := by decide +kernel
theorem dX8_addAskings_154 : decode cX8_addAskings 154 = .ok (.invokevirtual 219, 3) := by decide +kernel
theorem dX8_addAskings_157 : decode cX8_addAskings 157 = .ok (.i2l, 1) := by decide +kernel
theorem dX8_addAskings_158 : decode cX8_addAskings 158 = .ok (.ladd, 1) := by decide +kernel
theorem dX8_addAskings_159 : decode cX8_addAskings 159 = .ok (.lstore_n 3, 1) := by decide +kernel
theorem dX8_addAskings_160 : decode cX8_addAskings 160 = .ok (.iconst 0, 1) := by decide +kernel
theorem dX8_addAskings_161 : decode cX8_addAskings 161 = .ok (.istore 6, 2) := by decide +kernel
theorem dX8_addAskings_163 : decode cX8_addAskings 163 = .ok (.iload 6, 2) := by decide +kernel
theorem dX8_addAskings_165 : decode cX8_addAskings 165 = .ok (.bipush 20, 2) := by decide +kernel
theorem dX8_addAskings_167 : decode cX8_addAskings 167 = .ok (.if_icmp .ge 25, 3) := by decide +kernel
theorem dX8_addAskings_170 : decode cX8_addAskings 170 = .ok (.lload_n 3, 1) := by decide +kernel
theorem dX8_addAskings_171 : decode cX8_addAskings 171 = .ok (.ldc2_w 231, 3) := by decide +kernel
theorem dX8_addAskings_174 : decode cX8_addAskings 174 = .ok (.lmul, 1) := by decide +kernel
theorem dX8_addAskings_175 : decode cX8_addAskings 175 = .ok (.aload_n 0, 1) := by decide +kernel
theorem dX8_addAskings_176 : decode cX8_addAskings 176 = .ok (.iload 5, 2) := by decide +kernel
theorem dX8_addAskings_178 : decode cX8_addAskings 178 = .ok (.iload 6, 2) := by decide +kernel
theorem dX8_addAskings_180 : decode cX8_addAskings 180 = .ok (.invokevirtual 213, 3) := by decide +kernel
theorem dX8_addAskings_183 : decode cX8_addAskings 183 = .ok (.i2l, 1) := by decide +kernel
theorem dX8_addAskings_184 : decode cX8_addAskings 184 = .ok (.ladd, 1) := by decide +kernel
theorem dX8_addAskings_185 : decode cX8_addAskings 185 = .ok (.lstore_n 3, 1) := by decide +kernel
theorem dX8_addAskings_186 : decode cX8_addAskings 186 = .ok (.iinc 6 1, 3) := by decide +kernel
theorem dX8_addAskings_189 : decode cX8_addAskings 189 = .ok (.goto (-26), 3) := by decide +kernel
theorem dX8_addAskings_192 : decode cX8_addAskings 192 = .ok (.iinc 5 1, 3) := by decide +kernel
theorem dX8_addAskings_195 : decode cX8_addAskings 195 = .ok (.goto (-80), 3) := by decide +kernel
theorem dX8_addAskings_198 : decode cX8_addAskings 198 = .ok (.lload_n 3, 1) := by decide +kernel
theorem dX8_addAskings_199 : decode cX8_addAskings 199 = .ok (.lreturn, 1) := by decide +kernel
theorem dX8_digest_0 : decode cX8_digest 0 = .ok (.aload_n 0, 1) := by decide +kernel
theorem dX8_digest_1 : decode cX8_digest 1 = .ok (.iconst 0, 1) := by decide +kernel
theorem dX8_digest_2 : decode cX8_digest 2 = .ok (.putfield 23, 3) := by decide +kernel
theorem dX8_digest_5 : decode cX8_digest 5 = .ok (.ldc2_w 233, 3) := by decide +kernel
theorem dX8_digest_8 : decode cX8_digest 8 = .ok (.lstore_n 1, 1) := by decide +kernel
theorem dX8_digest_9 : decode cX8_digest 9 = .ok (.iconst 0, 1) := by decide +kernel
theorem dX8_digest_10 : decode cX8_digest 10 = .ok (.istore_n 3, 1) := by decide +kernel
theorem dX8_digest_11 : decode cX8_digest 11 = .ok (.iload_n 3, 1) := by decide +kernel
theorem dX8_digest_12 : decode cX8_digest 12 = .ok (.iconst 5, 1) := by decide +kernel
theorem dX8_digest_13 : decode cX8_digest 13 = .ok (.if_icmp .ge 22, 3) := by decide +kernel
theorem dX8_digest_16 : decode cX8_digest 16 = .ok (.lload_n 1, 1) := by decide +kernel
theorem dX8_digest_17 : decode cX8_digest 17 = .ok (.ldc2_w 231, 3) := by decide +kernel
theorem dX8_digest_20 : decode cX8_digest 20 = .ok (.lmul, 1) := by decide +kernel
theorem dX8_digest_21 : decode cX8_digest 21 = .ok (.aload_n 0, 1) := by decide +kernel
theorem dX8_digest_22 : decode cX8_digest 22 = .ok (.iload_n 3, 1) := by decide +kernel
theorem dX8_digest_23 : decode cX8_digest 23 = .ok (.invokevirtual 228, 3) := by decide +kernel
theorem dX8_digest_26 : decode cX8_digest 26 = .ok (.i2l, 1) := by decide +kernel
theorem dX8_digest_27 : decode cX8_digest 27 = .ok (.ladd, 1) := by decide +kernel
theorem dX8_digest_28 : decode cX8_digest 28 = .ok (.lstore_n 1, 1) := by decide +kernel
theorem dX8_digest_29 : decode cX8_digest 29 = .ok (.iinc 3 1, 3) := by decide +kernel
theorem dX8_digest_32 : decode cX8_digest 32 = .ok (.goto (-21), 3) := by decide +kernel
theorem dX8_digest_35 : decode cX8_digest 35 = .ok (.iconst 0, 1) := by decide +kernel
theorem dX8_digest_36 : decode cX8_digest 36 = .ok (.istore_n 3, 1) := by decide +kernel
theorem dX8_digest_37 : decode cX8_digest 37 = .ok (.iload_n 3, 1) := by decide +kernel
theorem dX8_digest_38 : decode cX8_digest 38 = .ok (.iconst 4, 1) := by decide +kernel
theorem dX8_digest_39 : decode cX8_digest 39 = .ok (.if_icmp .ge 115, 3) := by decide +kernel
theorem dX8_digest_42 : decode cX8_digest 42 = .ok (.iconst 0, 1) := by decide +kernel
theorem dX8_digest_43 : decode cX8_digest 43 = .ok (.istore 4, 2) := by decide +kernel
theorem dX8_digest_45 : decode cX8_digest 45 = .ok (.iload 4, 2) := by decide +kernel
theorem dX8_digest_47 : decode cX8_digest 47 = .ok (.iconst 5, 1) := by decide +kernel
theorem dX8_digest_48 : decode cX8_digest 48 = .ok (.if_icmp .ge 24, 3) := by decide +kernel
theorem dX8_digest_51 : decode cX8_digest 51 = .ok (.lload_n 1, 1) := by decide +kernel
theorem dX8_digest_52 : decode cX8_digest 52 = .ok (.ldc2_w 231, 3) := by decide +kernel
theorem dX8_digest_55 : decode cX8_digest 55 = .ok (.lmul, 1) := by decide +kernel
theorem dX8_digest_56 : decode cX8_digest 56 = .ok (.aload_n 0, 1) := by decide +kernel
theorem dX8_digest_57 : decode cX8_digest 57 = .ok (.iload_n 3, 1) := by decide +kernel
theorem dX8_digest_58 : decode cX8_digest 58 = .ok (.iload 4, 2) := by decide +kernel
theorem dX8_digest_60 : decode cX8_digest 60 = .ok (.invokevirtual 143, 3) := by decide +kernel
theorem dX8_digest_63 : decode cX8_digest 63 = .ok (.i2l, 1) := by decide +kernel
theorem dX8_digest_64 : decode cX8_digest 64 = .ok (.ladd, 1) := by decide +kernel
theorem dX8_digest_65 : decode cX8_digest 65 = .ok (.lstore_n 1, 1) := by decide +kernel
theorem dX8_digest_66 : decode cX8_digest 66 = .ok (.iinc 4 1, 3) := by decide +kernel
theorem dX8_digest_69 : decode cX8_digest 69 = .ok (.goto (-24), 3) := by decide +kernel
theorem dX8_digest_72 : decode cX8_digest 72 = .ok (.iconst 0, 1) := by decide +kernel
theorem dX8_digest_73 : decode cX8_digest 73 = .ok (.istore 4, 2) := by decide +kernel
theorem dX8_digest_75 : decode cX8_digest 75 = .ok (.iload 4, 2) := by decide +kernel
theorem dX8_digest_77 : decode cX8_digest 77 = .ok (.aload_n 0, 1) := by decide +kernel
theorem dX8_digest_78 : decode cX8_digest 78 = .ok (.getfield 10, 3) := by decide +kernel
theorem dX8_digest_81 : decode cX8_digest 81 = .ok (.iload_n 3, 1) := by decide +kernel
theorem dX8_digest_82 : decode cX8_digest 82 = .ok (.aaload, 1) := by decide +kernel
theorem dX8_digest_83 : decode cX8_digest 83 = .ok (.getfield 42, 3) := by decide +kernel
theorem dX8_digest_86 : decode cX8_digest 86 = .ok (.invokevirtual 45, 3) := by decide +kernel
theorem dX8_digest_89 : decode cX8_digest 89 = .ok (.if_icmp .ge 25, 3) := by decide +kernel
theorem dX8_digest_92 : decode cX8_digest 92 = .ok (.lload_n 1, 1) := by decide +kernel
theorem dX8_digest_93 : decode cX8_digest 93 = .ok (.ldc2_w 231, 3) := by decide +kernel
theorem dX8_digest_96 : decode cX8_digest 96 = .ok (.lmul, 1) := by decide +kernel
theorem dX8_digest_97 : decode cX8_digest 97 = .ok (.aload_n 0, 1) := by decide +kernel
theorem dX8_digest_98 : decode cX8_digest 98 = .ok (.iload_n 3, 1) := by decide +kernel
theorem dX8_digest_99 : decode cX8_digest 99 = .ok (.iload 4, 2) := by decide +kernel
theorem dX8_digest_101 : decode cX8_digest 101 = .ok (.iconst 2, 1) := by decide +kernel
theorem dX8_digest_102 : decode cX8_digest 102 = .ok (.invokevirtual 114, 3) := by decide +kernel
theorem dX8_digest_105 : decode cX8_digest 105 = .ok (.i2l, 1) := by decide +kernel
theorem dX8_digest_106 : decode cX8_digest 106 = .ok (.ladd, 1) := by decide +kernel
theorem dX8_digest_107 : decode cX8_digest 107 = .ok (.lstore_n 1, 1) := by decide +kernel
theorem dX8_digest_108 : decode cX8_digest 108 = .ok (.iinc 4 1, 3) := by decide +kernel
theorem dX8_digest_111 : decode cX8_digest 111 = .ok (.goto (-36), 3) := by decide +kernel
theorem dX8_digest_114 : decode cX8_digest 114 = .ok (.lload_n 1, 1) := by decide +kernel
theorem dX8_digest_115 : decode cX8_digest 115 = .ok (.ldc2_w 231, 3) := by decide +kernel
theorem dX8_digest_118 : decode cX8_digest 118 = .ok (.lmul, 1) := by decide +kernel
theorem dX8_digest_119 : decode cX8_digest 119 = .ok (.aload_n 0, 1) := by decide +kernel
theorem dX8_digest_120 : decode cX8_digest 120 = .ok (.getfield 10, 3) := by decide +kernel
theorem dX8_digest_123 : decode cX8_digest 123 = .ok (.iload_n 3, 1) := by decide +kernel
theorem dX8_digest_124 : decode cX8_digest 124 = .ok (.aaload, 1) := by decide +kernel
theorem dX8_digest_125 : decode cX8_digest 125 = .ok (.invokevirtual 159, 3) := by decide +kernel
theorem dX8_digest_128 : decode cX8_digest 128 = .ok (.invokestatic 139, 3) := by decide +kernel
theorem dX8_digest_131 : decode cX8_digest 131 = .ok (.i2l, 1) := by decide +kernel
theorem dX8_digest_132 : decode cX8_digest 132 = .ok (.ladd, 1) := by decide +kernel
theorem dX8_digest_133 : decode cX8_digest 133 = .ok (.ldc2_w 231, 3) := by decide +kernel
theorem dX8_digest_136 : decode cX8_digest 136 = .ok (.lmul, 1) := by decide +kernel
theorem dX8_digest_137 : decode cX8_digest 137 = .ok (.aload_n 0, 1) := by decide +kernel
theorem dX8_digest_138 : decode cX8_digest 138 = .ok (.iload_n 3, 1) := by decide +kernel
theorem dX8_digest_139 : decode cX8_digest 139 = .ok (.invokevirtual 165, 3) := by decide +kernel
theorem dX8_digest_142 : decode cX8_digest 142 = .ok (.invokestatic 139, 3) := by decide +kernel
theorem dX8_digest_145 : decode cX8_digest 145 = .ok (.i2l, 1) := by decide +kernel
theorem dX8_digest_146 : decode cX8_digest 146 = .ok (.ladd, 1) := by decide +kernel
theorem dX8_digest_147 : decode cX8_digest 147 = .ok (.lstore_n 1, 1) := by decide +kernel
theorem dX8_digest_148 : decode cX8_digest 148 = .ok (.iinc 3 1, 3) := by decide +kernel
theorem dX8_digest_151 : decode cX8_digest 151 = .ok (.goto (-114), 3) := by decide +kernel
theorem dX8_digest_154 : decode cX8_digest 154 = .ok (.aload_n 0, 1) := by decide +kernel
theorem dX8_digest_155 : decode cX8_digest 155 = .ok (.lload_n 1, 1) := by decide +kernel
theorem dX8_digest_156 : decode cX8_digest 156 = .ok (.invokevirtual 235, 3) := by decide +kernel
theorem dX8_digest_159 : decode cX8_digest 159 = .ok (.ldc2_w 231, 3) := by decide +kernel
theorem dX8_digest_162 : decode cX8_digest 162 = .ok (.lmul, 1) := by decide +kernel
theorem dX8_digest_163 : decode cX8_digest 163 = .ok (.lconst 1, 1) := by decide +kernel
theorem dX8_digest_164 : decode cX8_digest 164 = .ok (.ladd, 1) := by decide +kernel
theorem dX8_digest_165 : decode cX8_digest 165 = .ok (.lreturn, 1) := by decide +kernel
theorem dJ5_init_d00df_0 : decode cJ5_init_d00df 0 = .ok (.aload_n 0, 1) := by decide +kernel
theorem dJ5_init_d00df_1 : decode cJ5_init_d00df 1 = .ok (.invokespecial 3, 3) := by decide +kernel
theorem dJ5_init_d00df_4 : decode cJ5_init_d00df 4 = .ok (.getstatic 18, 3) := by decide +kernel
theorem dJ5_init_d00df_7 : decode cJ5_init_d00df 7 = .ok (.ifCond .eq 18, 3) := by decide +kernel
theorem dJ5_init_d00df_10 : decode cJ5_init_d00df 10 = .ok (.aload_n 0, 1) := by decide +kernel
theorem dJ5_init_d00df_11 : decode cJ5_init_d00df 11 = .ok (.iload_n 1, 1) := by decide +kernel
theorem dJ5_init_d00df_12 : decode cJ5_init_d00df 12 = .ok (.newarray .byte, 2) := by decide +kernel
theorem dJ5_init_d00df_14 : decode cJ5_init_d00df 14 = .ok (.putfield 15, 3) := by decide +kernel
theorem dJ5_init_d00df_17 : decode cJ5_init_d00df 17 = .ok (.aload_n 0, 1) := by decide +kernel
theorem dJ5_init_d00df_18 : decode cJ5_init_d00df 18 = .ok (.iconst 0, 1) := by decide +kernel
theorem dJ5_init_d00df_19 : decode cJ5_init_d00df 19 = .ok (.putfield 22, 3) := by decide +kernel
theorem dJ5_init_d00df_22 : decode cJ5_init_d00df 22 = .ok (.goto 16, 3) := by decide +kernel
theorem dJ5_init_d00df_25 : decode cJ5_init_d00df 25 = .ok (.aload_n 0, 1) := by decide +kernel
theorem dJ5_init_d00df_26 : decode cJ5_init_d00df 26 = .ok (.iload_n 1, 1) := by decide +kernel
theorem dJ5_init_d00df_27 : decode cJ5_init_d00df 27 = .ok (.invokestatic 26, 3) := by decide +kernel
theorem dJ5_init_d00df_30 : decode cJ5_init_d00df 30 = .ok (.putfield 15, 3) := by decide +kernel
theorem dJ5_init_d00df_33 : decode cJ5_init_d00df 33 = .ok (.aload_n 0, 1) := by decide +kernel
theorem dJ5_init_d00df_34 : decode cJ5_init_d00df 34 = .ok (.iconst 1, 1) := by decide +kernel
theorem dJ5_init_d00df_35 : decode cJ5_init_d00df 35 = .ok (.putfield 22, 3) := by decide +kernel
theorem dJ5_init_d00df_38 : decode cJ5_init_d00df 38 = .ok (.return_, 1) := by decide +kernel
theorem dJ5_length_8abf5_0 : decode cJ5_length_8abf5 0 = .ok (.aload_n 0, 1) := by decide +kernel
theorem dJ5_length_8abf5_1 : decode cJ5_length_8abf5 1 = .ok (.getfield 79, 3) := by decide +kernel
theorem dJ5_length_8abf5_4 : decode cJ5_length_8abf5 4 = .ok (.ireturn, 1) := by decide +kernel
theorem dJ5_ensureCapacityInternal_d00df_0 : decode cJ5_ensureCapacityInternal_d00df 0 = .ok (.aload_n 0, 1) := by decide +kernel
theorem dJ5_ensureCapacityInternal_d00df_1 : decode cJ5_ensureCapacityInternal_d00df 1 = .ok (.getfield 15, 3) := by decide +kernel
theorem dJ5_ensureCapacityInternal_d00df_4 : decode cJ5_ensureCapacityInternal_d00df 4 = .ok (.arraylength, 1) := by decide +kernel
theorem dJ5_ensureCapacityInternal_d00df_5 : decode cJ5_ensureCapacityInternal_d00df 5 = .ok (.aload_n 0, 1) := by decide +kernel
theorem dJ5_ensureCapacityInternal_d00df_6 : decode cJ5_ensureCapacityInternal_d00df 6 = .ok (.getfield 22, 3) := by decide +kernel
theorem dJ5_ensureCapacityInternal_d00df_9 : decode cJ5_ensureCapacityInternal_d00df 9 = .ok (.ishr, 1) := by decide +kernel
theorem dJ5_ensureCapacityInternal_d00df_10 : decode cJ5_ensureCapacityInternal_d00df 10 = .ok (.istore_n 2, 1) := by decide +kernel
theorem dJ5_ensureCapacityInternal_d00df_11 : decode cJ5_ensureCapacityInternal_d00df 11 = .ok (.iload_n 1, 1) := by decide +kernel
theorem dJ5_ensureCapacityInternal_d00df_12 : decode cJ5_ensureCapacityInternal_d00df 12 = .ok (.iload_n 2, 1) := by decide +kernel
theorem dJ5_ensureCapacityInternal_d00df_13 : decode cJ5_ensureCapacityInternal_d00df 13 = .ok (.isub, 1) := by decide +kernel
theorem dJ5_ensureCapacityInternal_d00df_14 : decode cJ5_ensureCapacityInternal_d00df 14 = .ok (.ifCond .le 24, 3) := by decide +kernel
theorem dJ5_ensureCapacityInternal_d00df_17 : decode cJ5_ensureCapacityInternal_d00df 17 = .ok (.aload_n 0, 1) := by decide +kernel
theorem dJ5_ensureCapacityInternal_d00df_18 : decode cJ5_ensureCapacityInternal_d00df 18 = .ok (.aload_n 0, 1) := by decide +kernel
theorem dJ5_ensureCapacityInternal_d00df_19 : decode cJ5_ensureCapacityInternal_d00df 19 = .ok (.getfield 15, 3) := by decide +kernel
theorem dJ5_ensureCapacityInternal_d00df_22 : decode cJ5_ensureCapacityInternal_d00df 22 = .ok (.aload_n 0, 1) := by decide +kernel
theorem dJ5_ensureCapacityInternal_d00df_23 : decode cJ5_ensureCapacityInternal_d00df 23 = .ok (.iload_n 1, 1) := by decide +kernel
theorem dJ5_ensureCapacityInternal_d00df_24 : decode cJ5_ensureCapacityInternal_d00df 24 = .ok (.invokevirtual 104, 3) := by decide +kernel
theorem dJ5_ensureCapacityInternal_d00df_27 : decode cJ5_ensureCapacityInternal_d00df 27 = .ok (.aload_n 0, 1) := by decide +kernel
theorem dJ5_ensureCapacityInternal_d00df_28 : decode cJ5_ensureCapacityInternal_d00df 28 = .ok (.getfield 22, 3) := by decide +kernel
theorem dJ5_ensureCapacityInternal_d00df_31 : decode cJ5_ensureCapacityInternal_d00df 31 = .ok (.ishl, 1) := by decide +kernel
theorem dJ5_ensureCapacityInternal_d00df_32 : decode cJ5_ensureCapacityInternal_d00df 32 = .ok (.invokestatic 108, 3) := by decide +kernel
theorem dJ5_ensureCapacityInternal_d00df_35 : decode cJ5_ensureCapacityInternal_d00df 35 = .ok (.putfield 15, 3) := by decide +kernel
theorem dJ5_ensureCapacityInternal_d00df_38 : decode cJ5_ensureCapacityInternal_d00df 38 = .ok (.return_, 1) := by decide +kernel
theorem dJ5_newCapacity_0f7a4_0 : decode cJ5_newCapacity_0f7a4 0 = .ok (.aload_n 0, 1) := by decide +kernel
theorem dJ5_newCapacity_0f7a4_1 : decode cJ5_newCapacity_0f7a4 1 = .ok (.getfield 15, 3) := by decide +kernel
theorem dJ5_newCapacity_0f7a4_4 : decode cJ5_newCapacity_0f7a4 4 = .ok (.arraylength, 1) := by decide +kernel
theorem dJ5_newCapacity_0f7a4_5 : decode cJ5_newCapacity_0f7a4 5 = .ok (.istore_n 2, 1) := by decide +kernel
theorem dJ5_newCapacity_0f7a4_6 : decode cJ5_newCapacity_0f7a4 6 = .ok (.iload_n 1, 1) := by decide +kernel
theorem dJ5_newCapacity_0f7a4_7 : decode cJ5_newCapacity_0f7a4 7 = .ok (.aload_n 0, 1) := by decide +kernel
theorem dJ5_newCapacity_0f7a4_8 : decode cJ5_newCapacity_0f7a4 8 = .ok (.getfield 22, 3) := by decide +kernel
theorem dJ5_newCapacity_0f7a4_11 : decode cJ5_newCapacity_0f7a4 11 = .ok (.ishl, 1) := by decide +kernel
theorem dJ5_newCapacity_0f7a4_12 : decode cJ5_newCapacity_0f7a4 12 = .ok (.istore_n 3, 1) := by decide +kernel
theorem dJ5_newCapacity_0f7a4_13 : decode cJ5_newCapacity_0f7a4 13 = .ok (.iload_n 3, 1) := by decide +kernel
theorem dJ5_newCapacity_0f7a4_14 : decode cJ5_newCapacity_0f7a4 14 = .ok (.iload_n 2, 1) := by decide +kernel
theorem dJ5_newCapacity_0f7a4_15 : decode cJ5_newCapacity_0f7a4 15 = .ok (.isub, 1) := by decide +kernel
theorem dJ5_newCapacity_0f7a4_16 : decode cJ5_newCapacity_0f7a4 16 = .ok (.istore 4, 2) := by decide +kernel
theorem dJ5_newCapacity_0f7a4_18 : decode cJ5_newCapacity_0f7a4 18 = .ok (.iload_n 2, 1) := by decide +kernel
theorem dJ5_newCapacity_0f7a4_19 : decode cJ5_newCapacity_0f7a4 19 = .ok (.iload 4, 2) := by decide +kernel
theorem dJ5_newCapacity_0f7a4_21 : decode cJ5_newCapacity_0f7a4 21 = .ok (.iload_n 2, 1) := by decide +kernel
theorem dJ5_newCapacity_0f7a4_22 : decode cJ5_newCapacity_0f7a4 22 = .ok (.iconst 2, 1) := by decide +kernel
theorem dJ5_newCapacity_0f7a4_23 : decode cJ5_newCapacity_0f7a4 23 = .ok (.aload_n 0, 1) := by decide +kernel
theorem dJ5_newCapacity_0f7a4_24 : decode cJ5_newCapacity_0f7a4 24 = .ok (.getfield 22, 3) := by decide +kernel
theorem dJ5_newCapacity_0f7a4_27 : decode cJ5_newCapacity_0f7a4 27 = .ok (.ishl, 1) := by decide +kernel
theorem dJ5_newCapacity_0f7a4_28 : decode cJ5_newCapacity_0f7a4 28 = .ok (.iadd, 1) := by decide +kernel
theorem dJ5_newCapacity_0f7a4_29 : decode cJ5_newCapacity_0f7a4 29 = .ok (.invokestatic 114, 3) := by decide +kernel
theorem dJ5_newCapacity_0f7a4_32 : decode cJ5_newCapacity_0f7a4 32 = .ok (.istore 5, 2) := by decide +kernel
theorem dJ5_newCapacity_0f7a4_34 : decode cJ5_newCapacity_0f7a4 34 = .ok (.iload 5, 2) := by decide +kernel
theorem dJ5_newCapacity_0f7a4_36 : decode cJ5_newCapacity_0f7a4 36 = .ok (.ldc 39, 2) := by decide +kernel
theorem dJ5_newCapacity_0f7a4_38 : decode cJ5_newCapacity_0f7a4 38 = .ok (.if_icmp .ne 13, 3) := by decide +kernel
theorem dJ5_newCapacity_0f7a4_41 : decode cJ5_newCapacity_0f7a4 41 = .ok (.new 120, 3) := by decide +kernel
theorem dJ5_newCapacity_0f7a4_44 : decode cJ5_newCapacity_0f7a4 44 = .ok (.dup, 1) := by decide +kernel
theorem dJ5_newCapacity_0f7a4_45 : decode cJ5_newCapacity_0f7a4 45 = .ok (.ldc 122, 2) := by decide +kernel
theorem dJ5_newCapacity_0f7a4_47 : decode cJ5_newCapacity_0f7a4 47 = .ok (.invokespecial 124, 3) := by decide +kernel
theorem dJ5_newCapacity_0f7a4_50 : decode cJ5_newCapacity_0f7a4 50 = .ok (.athrow, 1) := by decide +kernel
theorem dJ5_newCapacity_0f7a4_51 : decode cJ5_newCapacity_0f7a4 51 = .ok (.iload 5, 2) := by decide +kernel
theorem dJ5_newCapacity_0f7a4_53 : decode cJ5_newCapacity_0f7a4 53 = .ok (.aload_n 0, 1) := by decide +kernel
theorem dJ5_newCapacity_0f7a4_54 : decode cJ5_newCapacity_0f7a4 54 = .ok (.getfield 22, 3) := by decide +kernel
theorem dJ5_newCapacity_0f7a4_57 : decode cJ5_newCapacity_0f7a4 57 = .ok (.ishr, 1) := by decide +kernel
theorem dJ5_newCapacity_0f7a4_58 : decode cJ5_newCapacity_0f7a4 58 = .ok (.ireturn, 1) := by decide +kernel
theorem dJ5_inflate_da8c8_0 : decode cJ5_inflate_da8c8 0 = .ok (.aload_n 0, 1) := by decide +kernel
theorem dJ5_inflate_da8c8_1 : decode cJ5_inflate_da8c8 1 = .ok (.invokevirtual 83, 3) := by decide +kernel
theorem dJ5_inflate_da8c8_4 : decode cJ5_inflate_da8c8 4 = .ok (.ifCond .ne 4, 3) := by decide +kernel
theorem dJ5_inflate_da8c8_7 : decode cJ5_inflate_da8c8 7 = .ok (.return_, 1) := by decide +kernel
theorem dJ5_inflate_da8c8_8 : decode cJ5_inflate_da8c8 8 = .ok (.aload_n 0, 1) := by decide +kernel
theorem dJ5_inflate_da8c8_9 : decode cJ5_inflate_da8c8 9 = .ok (.getfield 15, 3) := by decide +kernel
theorem dJ5_inflate_da8c8_12 : decode cJ5_inflate_da8c8 12 = .ok (.arraylength, 1) := by decide +kernel
theorem dJ5_inflate_da8c8_13 : decode cJ5_inflate_da8c8 13 = .ok (.invokestatic 26, 3) := by decide +kernel
theorem dJ5_inflate_da8c8_16 : decode cJ5_inflate_da8c8 16 = .ok (.astore_n 1, 1) := by decide +kernel
theorem dJ5_inflate_da8c8_17 : decode cJ5_inflate_da8c8 17 = .ok (.aload_n 0, 1) := by decide +kernel
theorem dJ5_inflate_da8c8_18 : decode cJ5_inflate_da8c8 18 = .ok (.getfield 15, 3) := by decide +kernel
theorem dJ5_inflate_da8c8_21 : decode cJ5_inflate_da8c8 21 = .ok (.iconst 0, 1) := by decide +kernel
theorem dJ5_inflate_da8c8_22 : decode cJ5_inflate_da8c8 22 = .ok (.aload_n 1, 1) := by decide +kernel
theorem dJ5_inflate_da8c8_23 : decode cJ5_inflate_da8c8 23 = .ok (.iconst 0, 1) := by decide +kernel
theorem dJ5_inflate_da8c8_24 : decode cJ5_inflate_da8c8 24 = .ok (.aload_n 0, 1) := by decide +kernel
theorem dJ5_inflate_da8c8_25 : decode cJ5_inflate_da8c8 25 = .ok (.getfield 79, 3) := by decide +kernel
theorem dJ5_inflate_da8c8_28 : decode cJ5_inflate_da8c8 28 = .ok (.invokestatic 125, 3) := by decide +kernel
theorem dJ5_inflate_da8c8_31 : decode cJ5_inflate_da8c8 31 = .ok (.aload_n 0, 1) := by decide +kernel
theorem dJ5_inflate_da8c8_32 : decode cJ5_inflate_da8c8 32 = .ok (.aload_n 1, 1) := by decide +kernel
theorem dJ5_inflate_da8c8_33 : decode cJ5_inflate_da8c8 33 = .ok (.putfield 15, 3) := by decide +kernel
theorem dJ5_inflate_da8c8_36 : decode cJ5_inflate_da8c8 36 = .ok (.aload_n 0, 1) := by decide +kernel
theorem dJ5_inflate_da8c8_37 : decode cJ5_inflate_da8c8 37 = .ok (.iconst 1, 1) := by decide +kernel
theorem dJ5_inflate_da8c8_38 : decode cJ5_inflate_da8c8 38 = .ok (.putfield 22, 3) := by decide +kernel
theorem dJ5_inflate_da8c8_41 : decode cJ5_inflate_da8c8 41 = .ok (.return_, 1) := by decide +kernel
theorem dJ5_append_cf1ce_0 : decode cJ5_append_cf1ce 0 = .ok (.aload_n 1, 1) := by decide +kernel
theorem dJ5_append_cf1ce_1 : decode cJ5_append_cf1ce 1 = .ok (.ifnonnull 8, 3) := by decide +kernel
theorem dJ5_append_cf1ce_4 : decode cJ5_append_cf1ce 4 = .ok (.aload_n 0, 1) := by decide +kernel
theorem dJ5_append_cf1ce_5 : decode cJ5_append_cf1ce 5 = .ok (.invokevirtual 204, 3) := by decide +kernel
theorem dJ5_append_cf1ce_8 : decode cJ5_append_cf1ce 8 = .ok (.areturn, 1) := by decide +kernel
theorem dJ5_append_cf1ce_9 : decode cJ5_append_cf1ce 9 = .ok (.aload_n 1, 1) := by decide +kernel
theorem dJ5_append_cf1ce_10 : decode cJ5_append_cf1ce 10 = .ok (.invokevirtual 32, 3) := by decide +kernel
theorem dJ5_append_cf1ce_13 : decode cJ5_append_cf1ce 13 = .ok (.istore_n 2, 1) := by decide +kernel
theorem dJ5_append_cf1ce_14 : decode cJ5_append_cf1ce 14 = .ok (.aload_n 0, 1) := by decide +kernel
theorem dJ5_append_cf1ce_15 : decode cJ5_append_cf1ce 15 = .ok (.aload_n 0, 1) := by decide +kernel
theorem dJ5_append_cf1ce_16 : decode cJ5_append_cf1ce 16 = .ok (.getfield 79, 3) := by decide +kernel
theorem dJ5_append_cf1ce_19 : decode cJ5_append_cf1ce 19 = .ok (.iload_n 2, 1) := by decide +kernel
theorem dJ5_append_cf1ce_20 : decode cJ5_append_cf1ce 20 = .ok (.iadd, 1) := by decide +kernel
theorem dJ5_append_cf1ce_21 : decode cJ5_append_cf1ce 21 = .ok (.invokevirtual 100, 3) := by decide +kernel
theorem dJ5_append_cf1ce_24 : decode cJ5_append_cf1ce 24 = .ok (.aload_n 0, 1) := by decide +kernel
theorem dJ5_append_cf1ce_25 : decode cJ5_append_cf1ce 25 = .ok (.aload_n 0, 1) := by decide +kernel
theorem dJ5_append_cf1ce_26 : decode cJ5_append_cf1ce 26 = .ok (.getfield 79, 3) := by decide +kernel
theorem dJ5_append_cf1ce_29 : decode cJ5_append_cf1ce 29 = .ok (.aload_n 1, 1) := by decide +kernel
theorem dJ5_append_cf1ce_30 : decode cJ5_append_cf1ce 30 = .ok (.invokevirtual 208, 3) := by decide +kernel
theorem dJ5_append_cf1ce_33 : decode cJ5_append_cf1ce 33 = .ok (.aload_n 0, 1) := by decide +kernel
theorem dJ5_append_cf1ce_34 : decode cJ5_append_cf1ce 34 = .ok (.dup, 1) := by decide +kernel
theorem dJ5_append_cf1ce_35 : decode cJ5_append_cf1ce 35 = .ok (.getfield 79, 3) := by decide +kernel
theorem dJ5_append_cf1ce_38 : decode cJ5_append_cf1ce 38 = .ok (.iload_n 2, 1) := by decide +kernel
theorem dJ5_append_cf1ce_39 : decode cJ5_append_cf1ce 39 = .ok (.iadd, 1) := by decide +kernel
theorem dJ5_append_cf1ce_40 : decode cJ5_append_cf1ce 40 = .ok (.putfield 79, 3) := by decide +kernel
theorem dJ5_append_cf1ce_43 : decode cJ5_append_cf1ce 43 = .ok (.aload_n 0, 1) := by decide +kernel
theorem dJ5_append_cf1ce_44 : decode cJ5_append_cf1ce 44 = .ok (.areturn, 1) := by decide +kernel
theorem dJ5_appendNull_278bc_0 : decode cJ5_appendNull_278bc 0 = .ok (.aload_n 0, 1) := by decide +kernel
theorem dJ5_appendNull_278bc_1 : decode cJ5_appendNull_278bc 1 = .ok (.aload_n 0, 1) := by decide +kernel
theorem dJ5_appendNull_278bc_2 : decode cJ5_appendNull_278bc 2 = .ok (.getfield 79, 3) := by decide +kernel
theorem dJ5_appendNull_278bc_5 : decode cJ5_appendNull_278bc 5 = .ok (.iconst 4, 1) := by decide +kernel
theorem dJ5_appendNull_278bc_6 : decode cJ5_appendNull_278bc 6 = .ok (.iadd, 1) := by decide +kernel
theorem dJ5_appendNull_278bc_7 : decode cJ5_appendNull_278bc 7 = .ok (.invokevirtual 100, 3) := by decide +kernel
theorem dJ5_appendNull_278bc_10 : decode cJ5_appendNull_278bc 10 = .ok (.aload_n 0, 1) := by decide +kernel
theorem dJ5_appendNull_278bc_11 : decode cJ5_appendNull_278bc 11 = .ok (.getfield 79, 3) := by decide +kernel
theorem dJ5_appendNull_278bc_14 : decode cJ5_appendNull_278bc 14 = .ok (.istore_n 1, 1) := by decide +kernel
theorem dJ5_appendNull_278bc_15 : decode cJ5_appendNull_278bc 15 = .ok (.aload_n 0, 1) := by decide +kernel
theorem dJ5_appendNull_278bc_16 : decode cJ5_appendNull_278bc 16 = .ok (.getfield 15, 3) := by decide +kernel
theorem dJ5_appendNull_278bc_19 : decode cJ5_appendNull_278bc 19 = .ok (.astore_n 2, 1) := by decide +kernel
theorem dJ5_appendNull_278bc_20 : decode cJ5_appendNull_278bc 20 = .ok (.aload_n 0, 1) := by decide +kernel
theorem dJ5_appendNull_278bc_21 : decode cJ5_appendNull_278bc 21 = .ok (.invokevirtual 83, 3) := by decide +kernel
theorem dJ5_appendNull_278bc_24 : decode cJ5_appendNull_278bc 24 = .ok (.ifCond .eq 38, 3) := by decide +kernel
theorem dJ5_appendNull_278bc_27 : decode cJ5_appendNull_278bc 27 = .ok (.aload_n 2, 1) := by decide +kernel
theorem dJ5_appendNull_278bc_28 : decode cJ5_appendNull_278bc 28 = .ok (.iload_n 1, 1) := by decide +kernel
theorem dJ5_appendNull_278bc_29 : decode cJ5_appendNull_278bc 29 = .ok (.iinc 1 1, 3) := by decide +kernel
theorem dJ5_appendNull_278bc_32 : decode cJ5_appendNull_278bc 32 = .ok (.bipush 110, 2) := by decide +kernel
theorem dJ5_appendNull_278bc_34 : decode cJ5_appendNull_278bc 34 = .ok (.bastore, 1) := by decide +kernel
theorem dJ5_appendNull_278bc_35 : decode cJ5_appendNull_278bc 35 = .ok (.aload_n 2, 1) := by decide +kernel
theorem dJ5_appendNull_278bc_36 : decode cJ5_appendNull_278bc 36 = .ok (.iload_n 1, 1) := by decide +kernel
theorem dJ5_appendNull_278bc_37 : decode cJ5_appendNull_278bc 37 = .ok (.iinc 1 1, 3) := by decide +kernel
theorem dJ5_appendNull_278bc_40 : decode cJ5_appendNull_278bc 40 = .ok (.bipush 117, 2) := by decide +kernel
theorem dJ5_appendNull_278bc_42 : decode cJ5_appendNull_278bc 42 = .ok (.bastore, 1) := by decide +kernel
theorem dJ5_appendNull_278bc_43 : decode cJ5_appendNull_278bc 43 = .ok (.aload_n 2, 1) := by decide +kernel
theorem dJ5_appendNull_278bc_44 : decode cJ5_appendNull_278bc 44 = .ok (.iload_n 1, 1) := by decide +kernel
theorem dJ5_appendNull_278bc_45 : decode cJ5_appendNull_278bc 45 = .ok (.iinc 1 1, 3) := by decide +kernel
theorem dJ5_appendNull_278bc_48 : decode cJ5_appendNull_278bc 48 = .ok (.bipush 108, 2) := by decide +kernel
theorem dJ5_appendNull_278bc_50 : decode cJ5_appendNull_278bc 50 = .ok (.bastore, 1) := by decide +kernel
theorem dJ5_appendNull_278bc_51 : decode cJ5_appendNull_278bc 51 = .ok (.aload_n 2, 1) := by decide +kernel
theorem dJ5_appendNull_278bc_52 : decode cJ5_appendNull_278bc 52 = .ok (.iload_n 1, 1) := by decide +kernel
theorem dJ5_appendNull_278bc_53 : decode cJ5_appendNull_278bc 53 = .ok (.iinc 1 1, 3) := by decide +kernel
theorem dJ5_appendNull_278bc_56 : decode cJ5_appendNull_278bc 56 = .ok (.bipush 108, 2) := by decide +kernel
theorem dJ5_appendNull_278bc_58 : decode cJ5_appendNull_278bc 58 = .ok (.bastore, 1) := by decide +kernel
theorem dJ5_appendNull_278bc_59 : decode cJ5_appendNull_278bc 59 = .ok (.goto 17, 3) := by decide +kernel
theorem dJ5_appendNull_278bc_62 : decode cJ5_appendNull_278bc 62 = .ok (.aload_n 2, 1) := by decide +kernel
theorem dJ5_appendNull_278bc_63 : decode cJ5_appendNull_278bc 63 = .ok (.iload_n 1, 1) := by decide +kernel
theorem dJ5_appendNull_278bc_64 : decode cJ5_appendNull_278bc 64 = .ok (.bipush 110, 2) := by decide +kernel
theorem dJ5_appendNull_278bc_66 : decode cJ5_appendNull_278bc 66 = .ok (.bipush 117, 2) := by decide +kernel
theorem dJ5_appendNull_278bc_68 : decode cJ5_appendNull_278bc 68 = .ok (.bipush 108, 2) := by decide +kernel
theorem dJ5_appendNull_278bc_70 : decode cJ5_appendNull_278bc 70 = .ok (.bipush 108, 2) := by decide +kernel
theorem dJ5_appendNull_278bc_72 : decode cJ5_appendNull_278bc 72 = .ok (.invokestatic 226, 3) := by decide +kernel
theorem dJ5_appendNull_278bc_75 : decode cJ5_appendNull_278bc 75 = .ok (.istore_n 1, 1) := by decide +kernel
theorem dJ5_appendNull_278bc_76 : decode cJ5_appendNull_278bc 76 = .ok (.aload_n 0, 1) := by decide +kernel
theorem dJ5_appendNull_278bc_77 : decode cJ5_appendNull_278bc 77 = .ok (.iload_n 1, 1) := by decide +kernel
theorem dJ5_appendNull_278bc_78 : decode cJ5_appendNull_278bc 78 = .ok (.putfield 79, 3) := by decide +kernel
theorem dJ5_appendNull_278bc_81 : decode cJ5_appendNull_278bc 81 = .ok (.aload_n 0, 1) := by decide +kernel
theorem dJ5_appendNull_278bc_82 : decode cJ5_appendNull_278bc 82 = .ok (.areturn, 1) := by decide +kernel
theorem dJ5_append_3fe6f_0 : decode cJ5_append_3fe6f 0 = .ok (.aload_n 0, 1) := by decide +kernel
theorem dJ5_append_3fe6f_1 : decode cJ5_append_3fe6f 1 = .ok (.aload_n 0, 1) := by decide +kernel
theorem dJ5_append_3fe6f_2 : decode cJ5_append_3fe6f 2 = .ok (.getfield 79, 3) := by decide +kernel
theorem dJ5_append_3fe6f_5 : decode cJ5_append_3fe6f 5 = .ok (.iconst 1, 1) := by decide +kernel
theorem dJ5_append_3fe6f_6 : decode cJ5_append_3fe6f 6 = .ok (.iadd, 1) := by decide +kernel
theorem dJ5_append_3fe6f_7 : decode cJ5_append_3fe6f 7 = .ok (.invokevirtual 100, 3) := by decide +kernel
theorem dJ5_append_3fe6f_10 : decode cJ5_append_3fe6f 10 = .ok (.aload_n 0, 1) := by decide +kernel
theorem dJ5_append_3fe6f_11 : decode cJ5_append_3fe6f 11 = .ok (.invokevirtual 83, 3) := by decide +kernel
theorem dJ5_append_3fe6f_14 : decode cJ5_append_3fe6f 14 = .ok (.ifCond .eq 31, 3) := by decide +kernel
theorem dJ5_append_3fe6f_17 : decode cJ5_append_3fe6f 17 = .ok (.iload_n 1, 1) := by decide +kernel
theorem dJ5_append_3fe6f_18 : decode cJ5_append_3fe6f 18 = .ok (.invokestatic 191, 3) := by decide +kernel
theorem dJ5_append_3fe6f_21 : decode cJ5_append_3fe6f 21 = .ok (.ifCond .eq 24, 3) := by decide +kernel
theorem dJ5_append_3fe6f_24 : decode cJ5_append_3fe6f 24 = .ok (.aload_n 0, 1) := by decide +kernel
theorem dJ5_append_3fe6f_25 : decode cJ5_append_3fe6f 25 = .ok (.getfield 15, 3) := by decide +kernel
theorem dJ5_append_3fe6f_28 : decode cJ5_append_3fe6f 28 = .ok (.aload_n 0, 1) := by decide +kernel
theorem dJ5_append_3fe6f_29 : decode cJ5_append_3fe6f 29 = .ok (.dup, 1) := by decide +kernel
theorem dJ5_append_3fe6f_30 : decode cJ5_append_3fe6f 30 = .ok (.getfield 79, 3) := by decide +kernel
theorem dJ5_append_3fe6f_33 : decode cJ5_append_3fe6f 33 = .ok (.dup_x1, 1) := by decide +kernel
theorem dJ5_append_3fe6f_34 : decode cJ5_append_3fe6f 34 = .ok (.iconst 1, 1) := by decide +kernel
theorem dJ5_append_3fe6f_35 : decode cJ5_append_3fe6f 35 = .ok (.iadd, 1) := by decide +kernel
theorem dJ5_append_3fe6f_36 : decode cJ5_append_3fe6f 36 = .ok (.putfield 79, 3) := by decide +kernel
theorem dJ5_append_3fe6f_39 : decode cJ5_append_3fe6f 39 = .ok (.iload_n 1, 1) := by decide +kernel
theorem dJ5_append_3fe6f_40 : decode cJ5_append_3fe6f 40 = .ok (.i2b, 1) := by decide +kernel
theorem dJ5_append_3fe6f_41 : decode cJ5_append_3fe6f 41 = .ok (.bastore, 1) := by decide +kernel
theorem dJ5_append_3fe6f_42 : decode cJ5_append_3fe6f 42 = .ok (.goto 33, 3) := by decide +kernel
theorem dJ5_append_3fe6f_45 : decode cJ5_append_3fe6f 45 = .ok (.aload_n 0, 1) := by decide +kernel
theorem dJ5_append_3fe6f_46 : decode cJ5_append_3fe6f 46 = .ok (.invokevirtual 83, 3) := by decide +kernel
theorem dJ5_append_3fe6f_49 : decode cJ5_append_3fe6f 49 = .ok (.ifCond .eq 7, 3) := by decide +kernel
theorem dJ5_append_3fe6f_52 : decode cJ5_append_3fe6f 52 = .ok (.aload_n 0, 1) := by decide +kernel
theorem dJ5_append_3fe6f_53 : decode cJ5_append_3fe6f 53 = .ok (.invokevirtual 195, 3) := by decide +kernel
theorem dJ5_append_3fe6f_56 : decode cJ5_append_3fe6f 56 = .ok (.aload_n 0, 1) := by decide +kernel
theorem dJ5_append_3fe6f_57 : decode cJ5_append_3fe6f 57 = .ok (.getfield 15, 3) := by decide +kernel
theorem dJ5_append_3fe6f_60 : decode cJ5_append_3fe6f 60 = .ok (.aload_n 0, 1) := by decide +kernel
theorem dJ5_append_3fe6f_61 : decode cJ5_append_3fe6f 61 = .ok (.dup, 1) := by decide +kernel
theorem dJ5_append_3fe6f_62 : decode cJ5_append_3fe6f 62 = .ok (.getfield 79, 3) := by decide +kernel
theorem dJ5_append_3fe6f_65 : decode cJ5_append_3fe6f 65 = .ok (.dup_x1, 1) := by decide +kernel
theorem dJ5_append_3fe6f_66 : decode cJ5_append_3fe6f 66 = .ok (.iconst 1, 1) := by decide +kernel
theorem dJ5_append_3fe6f_67 : decode cJ5_append_3fe6f 67 = .ok (.iadd, 1) := by decide +kernel
theorem dJ5_append_3fe6f_68 : decode cJ5_append_3fe6f 68 = .ok (.putfield 79, 3) := by decide +kernel
theorem dJ5_append_3fe6f_71 : decode cJ5_append_3fe6f 71 = .ok (.iload_n 1, 1) := by decide +kernel
theorem dJ5_append_3fe6f_72 : decode cJ5_append_3fe6f 72 = .ok (.invokestatic 197, 3) := by decide +kernel
theorem dJ5_append_3fe6f_75 : decode cJ5_append_3fe6f 75 = .ok (.aload_n 0, 1) := by decide +kernel
theorem dJ5_append_3fe6f_76 : decode cJ5_append_3fe6f 76 = .ok (.areturn, 1) := by decide +kernel
theorem dJ5_append_c97b9_0 : decode cJ5_append_c97b9 0 = .ok (.aload_n 0, 1) := by decide +kernel
theorem dJ5_append_c97b9_1 : decode cJ5_append_c97b9 1 = .ok (.getfield 79, 3) := by decide +kernel
theorem dJ5_append_c97b9_4 : decode cJ5_append_c97b9 4 = .ok (.istore_n 2, 1) := by decide +kernel
theorem dJ5_append_c97b9_5 : decode cJ5_append_c97b9 5 = .ok (.iload_n 2, 1) := by decide +kernel
theorem dJ5_append_c97b9_6 : decode cJ5_append_c97b9 6 = .ok (.iload_n 1, 1) := by decide +kernel
theorem dJ5_append_c97b9_7 : decode cJ5_append_c97b9 7 = .ok (.invokestatic 245, 3) := by decide +kernel
theorem dJ5_append_c97b9_10 : decode cJ5_append_c97b9 10 = .ok (.iadd, 1) := by decide +kernel
theorem dJ5_append_c97b9_11 : decode cJ5_append_c97b9 11 = .ok (.istore_n 3, 1) := by decide +kernel
theorem dJ5_append_c97b9_12 : decode cJ5_append_c97b9 12 = .ok (.aload_n 0, 1) := by decide +kernel
theorem dJ5_append_c97b9_13 : decode cJ5_append_c97b9 13 = .ok (.iload_n 3, 1) := by decide +kernel
theorem dJ5_append_c97b9_14 : decode cJ5_append_c97b9 14 = .ok (.invokevirtual 100, 3) := by decide +kernel
theorem dJ5_append_c97b9_17 : decode cJ5_append_c97b9 17 = .ok (.aload_n 0, 1) := by decide +kernel
theorem dJ5_append_c97b9_18 : decode cJ5_append_c97b9 18 = .ok (.invokevirtual 83, 3) := by decide +kernel
theorem dJ5_append_c97b9_21 : decode cJ5_append_c97b9 21 = .ok (.ifCond .eq 16, 3) := by decide +kernel
theorem dJ5_append_c97b9_24 : decode cJ5_append_c97b9 24 = .ok (.iload_n 1, 1) := by decide +kernel
theorem dJ5_append_c97b9_25 : decode cJ5_append_c97b9 25 = .ok (.iload_n 3, 1) := by decide +kernel
theorem dJ5_append_c97b9_26 : decode cJ5_append_c97b9 26 = .ok (.aload_n 0, 1) := by decide +kernel
theorem dJ5_append_c97b9_27 : decode cJ5_append_c97b9 27 = .ok (.getfield 15, 3) := by decide +kernel
theorem dJ5_append_c97b9_30 : decode cJ5_append_c97b9 30 = .ok (.invokestatic 248, 3) := by decide +kernel
theorem dJ5_append_c97b9_33 : decode cJ5_append_c97b9 33 = .ok (.pop, 1) := by decide +kernel
theorem dJ5_append_c97b9_34 : decode cJ5_append_c97b9 34 = .ok (.goto 14, 3) := by decide +kernel
theorem dJ5_append_c97b9_37 : decode cJ5_append_c97b9 37 = .ok (.iload_n 1, 1) := by decide +kernel
theorem dJ5_append_c97b9_38 : decode cJ5_append_c97b9 38 = .ok (.iload_n 2, 1) := by decide +kernel
theorem dJ5_append_c97b9_39 : decode cJ5_append_c97b9 39 = .ok (.iload_n 3, 1) := by decide +kernel
theorem dJ5_append_c97b9_40 : decode cJ5_append_c97b9 40 = .ok (.aload_n 0, 1) := by decide +kernel
theorem dJ5_append_c97b9_41 : decode cJ5_append_c97b9 41 = .ok (.getfield 15, 3) := by decide +kernel
theorem dJ5_append_c97b9_44 : decode cJ5_append_c97b9 44 = .ok (.invokestatic 251, 3) := by decide +kernel
theorem dJ5_append_c97b9_47 : decode cJ5_append_c97b9 47 = .ok (.pop, 1) := by decide +kernel
theorem dJ5_append_c97b9_48 : decode cJ5_append_c97b9 48 = .ok (.aload_n 0, 1) := by decide +kernel
theorem dJ5_append_c97b9_49 : decode cJ5_append_c97b9 49 = .ok (.iload_n 3, 1) := by decide +kernel
theorem dJ5_append_c97b9_50 : decode cJ5_append_c97b9 50 = .ok (.putfield 79, 3) := by decide +kernel
theorem dJ5_append_c97b9_53 : decode cJ5_append_c97b9 53 = .ok (.aload_n 0, 1) := by decide +kernel
theorem dJ5_append_c97b9_54 : decode cJ5_append_c97b9 54 = .ok (.areturn, 1) := by decide +kernel
theorem dJ5_getValue_6d5f1_0 : decode cJ5_getValue_6d5f1 0 = .ok (.aload_n 0, 1) := by decide +kernel
theorem dJ5_getValue_6d5f1_1 : decode cJ5_getValue_6d5f1 1 = .ok (.getfield 15, 3) := by decide +kernel
theorem dJ5_getValue_6d5f1_4 : decode cJ5_getValue_6d5f1 4 = .ok (.areturn, 1) := by decide +kernel
theorem dJ5_isLatin1_aae02_0 : decode cJ5_isLatin1_aae02 0 = .ok (.getstatic 18, 3) := by decide +kernel
theorem dJ5_isLatin1_aae02_3 : decode cJ5_isLatin1_aae02 3 = .ok (.ifCond .eq 14, 3) := by decide +kernel
theorem dJ5_isLatin1_aae02_6 : decode cJ5_isLatin1_aae02 6 = .ok (.aload_n 0, 1) := by decide +kernel
theorem dJ5_isLatin1_aae02_7 : decode cJ5_isLatin1_aae02 7 = .ok (.getfield 22, 3) := by decide +kernel
theorem dJ5_isLatin1_aae02_10 : decode cJ5_isLatin1_aae02 10 = .ok (.ifCond .ne 7, 3) := by decide +kernel
theorem dJ5_isLatin1_aae02_13 : decode cJ5_isLatin1_aae02 13 = .ok (.iconst 1, 1) := by decide +kernel
theorem dJ5_isLatin1_aae02_14 : decode cJ5_isLatin1_aae02 14 = .ok (.goto 4, 3) := by decide +kernel
theorem dJ5_isLatin1_aae02_17 : decode cJ5_isLatin1_aae02 17 = .ok (.iconst 0, 1) := by decide +kernel
theorem dJ5_isLatin1_aae02_18 : decode cJ5_isLatin1_aae02 18 = .ok (.ireturn, 1) := by decide +kernel
theorem dJ5_inflateIfNeededFor_a7421_0 : decode cJ5_inflateIfNeededFor_a7421 0 = .ok (.getstatic 18, 3) := by decide +kernel
theorem dJ5_inflateIfNeededFor_a7421_3 : decode cJ5_inflateIfNeededFor_a7421 3 = .ok (.ifCond .eq 18, 3) := by decide +kernel
theorem dJ5_inflateIfNeededFor_a7421_6 : decode cJ5_inflateIfNeededFor_a7421 6 = .ok (.aload_n 0, 1) := by decide +kernel
theorem dJ5_inflateIfNeededFor_a7421_7 : decode cJ5_inflateIfNeededFor_a7421 7 = .ok (.getfield 22, 3) := by decide +kernel
theorem dJ5_inflateIfNeededFor_a7421_10 : decode cJ5_inflateIfNeededFor_a7421 10 = .ok (.aload_n 1, 1) := by decide +kernel
theorem dJ5_inflateIfNeededFor_a7421_11 : decode cJ5_inflateIfNeededFor_a7421 11 = .ok (.invokevirtual 40, 3) := by decide +kernel
theorem dJ5_inflateIfNeededFor_a7421_14 : decode cJ5_inflateIfNeededFor_a7421 14 = .ok (.if_icmp .eq 7, 3) := by decide +kernel
theorem dJ5_inflateIfNeededFor_a7421_17 : decode cJ5_inflateIfNeededFor_a7421 17 = .ok (.aload_n 0, 1) := by decide +kernel
theorem dJ5_inflateIfNeededFor_a7421_18 : decode cJ5_inflateIfNeededFor_a7421 18 = .ok (.invokevirtual 195, 3) := by decide +kernel
theorem dJ5_inflateIfNeededFor_a7421_21 : decode cJ5_inflateIfNeededFor_a7421 21 = .ok (.return_, 1) := by decide +kernel
theorem dJ5_putStringAt_47b60_0 : decode cJ5_putStringAt_47b60 0 = .ok (.aload_n 0, 1) := by decide +kernel
theorem dJ5_putStringAt_47b60_1 : decode cJ5_putStringAt_47b60 1 = .ok (.aload_n 2, 1) := by decide +kernel
theorem dJ5_putStringAt_47b60_2 : decode cJ5_putStringAt_47b60 2 = .ok (.invokevirtual 397, 3) := by decide +kernel
theorem dJ5_putStringAt_47b60_5 : decode cJ5_putStringAt_47b60 5 = .ok (.aload_n 2, 1) := by decide +kernel
theorem dJ5_putStringAt_47b60_6 : decode cJ5_putStringAt_47b60 6 = .ok (.aload_n 0, 1) := by decide +kernel
theorem dJ5_putStringAt_47b60_7 : decode cJ5_putStringAt_47b60 7 = .ok (.getfield 15, 3) := by decide +kernel
theorem dJ5_putStringAt_47b60_10 : decode cJ5_putStringAt_47b60 10 = .ok (.iload_n 1, 1) := by decide +kernel
theorem dJ5_putStringAt_47b60_11 : decode cJ5_putStringAt_47b60 11 = .ok (.aload_n 0, 1) := by decide +kernel
theorem dJ5_putStringAt_47b60_12 : decode cJ5_putStringAt_47b60 12 = .ok (.getfield 22, 3) := by decide +kernel
theorem dJ5_putStringAt_47b60_15 : decode cJ5_putStringAt_47b60 15 = .ok (.invokevirtual 399, 3) := by decide +kernel
theorem dJ5_putStringAt_47b60_18 : decode cJ5_putStringAt_47b60 18 = .ok (.return_, 1) := by decide +kernel
theorem dJ6_getChars_ba4f3_0 : decode cJ6_getChars_ba4f3 0 = .ok (.iload_n 1, 1) := by decide +kernel
theorem dJ6_getChars_ba4f3_1 : decode cJ6_getChars_ba4f3 1 = .ok (.istore 5, 2) := by decide +kernel
theorem dJ6_getChars_ba4f3_3 : decode cJ6_getChars_ba4f3 3 = .ok (.iload_n 0, 1) := by decide +kernel
theorem dJ6_getChars_ba4f3_4 : decode cJ6_getChars_ba4f3 4 = .ok (.ifCond .ge 7, 3) := by decide +kernel
theorem dJ6_getChars_ba4f3_7 : decode cJ6_getChars_ba4f3 7 = .ok (.iconst 1, 1) := by decide +kernel
theorem dJ6_getChars_ba4f3_8 : decode cJ6_getChars_ba4f3 8 = .ok (.goto 4, 3) := by decide +kernel
theorem dJ6_getChars_ba4f3_11 : decode cJ6_getChars_ba4f3 11 = .ok (.iconst 0, 1) := by decide +kernel
theorem dJ6_getChars_ba4f3_12 : decode cJ6_getChars_ba4f3 12 = .ok (.istore 6, 2) := by decide +kernel
theorem dJ6_getChars_ba4f3_14 : decode cJ6_getChars_ba4f3 14 = .ok (.iload 6, 2) := by decide +kernel
theorem dJ6_getChars_ba4f3_16 : decode cJ6_getChars_ba4f3 16 = .ok (.ifCond .ne 6, 3) := by decide +kernel
theorem dJ6_getChars_ba4f3_19 : decode cJ6_getChars_ba4f3 19 = .ok (.iload_n 0, 1) := by decide +kernel
theorem dJ6_getChars_ba4f3_20 : decode cJ6_getChars_ba4f3 20 = .ok (.ineg, 1) := by decide +kernel
theorem dJ6_getChars_ba4f3_21 : decode cJ6_getChars_ba4f3 21 = .ok (.istore_n 0, 1) := by decide +kernel
theorem dJ6_getChars_ba4f3_22 : decode cJ6_getChars_ba4f3 22 = .ok (.iload_n 0, 1) := by decide +kernel
theorem dJ6_getChars_ba4f3_23 : decode cJ6_getChars_ba4f3 23 = .ok (.bipush (-100), 2) := by decide +kernel
theorem dJ6_getChars_ba4f3_25 : decode cJ6_getChars_ba4f3 25 = .ok (.if_icmp .gt 47, 3) := by decide +kernel
theorem dJ6_getChars_ba4f3_28 : decode cJ6_getChars_ba4f3 28 = .ok (.iload_n 0, 1) := by decide +kernel
theorem dJ6_getChars_ba4f3_29 : decode cJ6_getChars_ba4f3 29 = .ok (.bipush 100, 2) := by decide +kernel
theorem dJ6_getChars_ba4f3_31 : decode cJ6_getChars_ba4f3 31 = .ok (.idiv, 1) := by decide +kernel
theorem dJ6_getChars_ba4f3_32 : decode cJ6_getChars_ba4f3 32 = .ok (.istore_n 3, 1) := by decide +kernel
theorem dJ6_getChars_ba4f3_33 : decode cJ6_getChars_ba4f3 33 = .ok (.iload_n 3, 1) := by decide +kernel
theorem dJ6_getChars_ba4f3_34 : decode cJ6_getChars_ba4f3 34 = .ok (.bipush 100, 2) := by decide +kernel
theorem dJ6_getChars_ba4f3_36 : decode cJ6_getChars_ba4f3 36 = .ok (.imul, 1) := by decide +kernel
theorem dJ6_getChars_ba4f3_37 : decode cJ6_getChars_ba4f3 37 = .ok (.iload_n 0, 1) := by decide +kernel
theorem dJ6_getChars_ba4f3_38 : decode cJ6_getChars_ba4f3 38 = .ok (.isub, 1) := by decide +kernel
theorem dJ6_getChars_ba4f3_39 : decode cJ6_getChars_ba4f3 39 = .ok (.istore 4, 2) := by decide +kernel
theorem dJ6_getChars_ba4f3_41 : decode cJ6_getChars_ba4f3 41 = .ok (.iload_n 3, 1) := by decide +kernel
theorem dJ6_getChars_ba4f3_42 : decode cJ6_getChars_ba4f3 42 = .ok (.istore_n 0, 1) := by decide +kernel
theorem dJ6_getChars_ba4f3_43 : decode cJ6_getChars_ba4f3 43 = .ok (.aload_n 2, 1) := by decide +kernel
theorem dJ6_getChars_ba4f3_44 : decode cJ6_getChars_ba4f3 44 = .ok (.iinc 5 (-1), 3) := by decide +kernel
theorem dJ6_getChars_ba4f3_47 : decode cJ6_getChars_ba4f3 47 = .ok (.iload 5, 2) := by decide +kernel
theorem dJ6_getChars_ba4f3_49 : decode cJ6_getChars_ba4f3 49 = .ok (.getstatic 83, 3) := by decide +kernel
theorem dJ6_getChars_ba4f3_52 : decode cJ6_getChars_ba4f3 52 = .ok (.iload 4, 2) := by decide +kernel
theorem dJ6_getChars_ba4f3_54 : decode cJ6_getChars_ba4f3 54 = .ok (.baload, 1) := by decide +kernel
theorem dJ6_getChars_ba4f3_55 : decode cJ6_getChars_ba4f3 55 = .ok (.bastore, 1) := by decide +kernel
theorem dJ6_getChars_ba4f3_56 : decode cJ6_getChars_ba4f3 56 = .ok (.aload_n 2, 1) := by decide +kernel
theorem dJ6_getChars_ba4f3_57 : decode cJ6_getChars_ba4f3 57 = .ok (.iinc 5 (-1), 3) := by decide +kernel
theorem dJ6_getChars_ba4f3_60 : decode cJ6_getChars_ba4f3 60 = .ok (.iload 5, 2) := by decide +kernel
theorem dJ6_getChars_ba4f3_62 : decode cJ6_getChars_ba4f3 62 = .ok (.getstatic 87, 3) := by decide +kernel
theorem dJ6_getChars_ba4f3_65 : decode cJ6_getChars_ba4f3 65 = .ok (.iload 4, 2) := by decide +kernel
theorem dJ6_getChars_ba4f3_67 : decode cJ6_getChars_ba4f3 67 = .ok (.baload, 1) := by decide +kernel
theorem dJ6_getChars_ba4f3_68 : decode cJ6_getChars_ba4f3 68 = .ok (.bastore, 1) := by decide +kernel
theorem dJ6_getChars_ba4f3_69 : decode cJ6_getChars_ba4f3 69 = .ok (.goto (-47), 3) := by decide +kernel
theorem dJ6_getChars_ba4f3_72 : decode cJ6_getChars_ba4f3 72 = .ok (.aload_n 2, 1) := by decide +kernel
theorem dJ6_getChars_ba4f3_73 : decode cJ6_getChars_ba4f3 73 = .ok (.iinc 5 (-1), 3) := by decide +kernel
theorem dJ6_getChars_ba4f3_76 : decode cJ6_getChars_ba4f3 76 = .ok (.iload 5, 2) := by decide +kernel
theorem dJ6_getChars_ba4f3_78 : decode cJ6_getChars_ba4f3 78 = .ok (.getstatic 83, 3) := by decide +kernel
theorem dJ6_getChars_ba4f3_81 : decode cJ6_getChars_ba4f3 81 = .ok (.iload_n 0, 1) := by decide +kernel
theorem dJ6_getChars_ba4f3_82 : decode cJ6_getChars_ba4f3 82 = .ok (.ineg, 1) := by decide +kernel
theorem dJ6_getChars_ba4f3_83 : decode cJ6_getChars_ba4f3 83 = .ok (.baload, 1) := by decide +kernel
theorem dJ6_getChars_ba4f3_84 : decode cJ6_getChars_ba4f3 84 = .ok (.bastore, 1) := by decide +kernel
theorem dJ6_getChars_ba4f3_85 : decode cJ6_getChars_ba4f3 85 = .ok (.iload_n 0, 1) := by decide +kernel
theorem dJ6_getChars_ba4f3_86 : decode cJ6_getChars_ba4f3 86 = .ok (.bipush (-9), 2) := by decide +kernel
theorem dJ6_getChars_ba4f3_88 : decode cJ6_getChars_ba4f3 88 = .ok (.if_icmp .ge 16, 3) := by decide +kernel
theorem dJ6_getChars_ba4f3_91 : decode cJ6_getChars_ba4f3 91 = .ok (.aload_n 2, 1) := by decide +kernel
theorem dJ6_getChars_ba4f3_92 : decode cJ6_getChars_ba4f3 92 = .ok (.iinc 5 (-1), 3) := by decide +kernel
theorem dJ6_getChars_ba4f3_95 : decode cJ6_getChars_ba4f3 95 = .ok (.iload 5, 2) := by decide +kernel
theorem dJ6_getChars_ba4f3_97 : decode cJ6_getChars_ba4f3 97 = .ok (.getstatic 87, 3) := by decide +kernel
theorem dJ6_getChars_ba4f3_100 : decode cJ6_getChars_ba4f3 100 = .ok (.iload_n 0, 1) := by decide +kernel
theorem dJ6_getChars_ba4f3_101 : decode cJ6_getChars_ba4f3 101 = .ok (.ineg, 1) := by decide +kernel
theorem dJ6_getChars_ba4f3_102 : decode cJ6_getChars_ba4f3 102 = .ok (.baload, 1) := by decide +kernel
theorem dJ6_getChars_ba4f3_103 : decode cJ6_getChars_ba4f3 103 = .ok (.bastore, 1) := by decide +kernel
theorem dJ6_getChars_ba4f3_104 : decode cJ6_getChars_ba4f3 104 = .ok (.iload 6, 2) := by decide +kernel
theorem dJ6_getChars_ba4f3_106 : decode cJ6_getChars_ba4f3 106 = .ok (.ifCond .eq 12, 3) := by decide +kernel
theorem dJ6_getChars_ba4f3_109 : decode cJ6_getChars_ba4f3 109 = .ok (.aload_n 2, 1) := by decide +kernel
theorem dJ6_getChars_ba4f3_110 : decode cJ6_getChars_ba4f3 110 = .ok (.iinc 5 (-1), 3) := by decide +kernel
theorem dJ6_getChars_ba4f3_113 : decode cJ6_getChars_ba4f3 113 = .ok (.iload 5, 2) := by decide +kernel
theorem dJ6_getChars_ba4f3_115 : decode cJ6_getChars_ba4f3 115 = .ok (.bipush 45, 2) := by decide +kernel
theorem dJ6_getChars_ba4f3_117 : decode cJ6_getChars_ba4f3 117 = .ok (.bastore, 1) := by decide +kernel
theorem dJ6_getChars_ba4f3_118 : decode cJ6_getChars_ba4f3 118 = .ok (.iload 5, 2) := by decide +kernel
theorem dJ6_getChars_ba4f3_120 : decode cJ6_getChars_ba4f3 120 = .ok (.ireturn, 1) := by decide +kernel
theorem dJ6_stringSize_0f7a4_0 : decode cJ6_stringSize_0f7a4 0 = .ok (.iconst 1, 1) := by decide +kernel
theorem dJ6_stringSize_0f7a4_1 : decode cJ6_stringSize_0f7a4 1 = .ok (.istore_n 1, 1) := by decide +kernel
theorem dJ6_stringSize_0f7a4_2 : decode cJ6_stringSize_0f7a4 2 = .ok (.iload_n 0, 1) := by decide +kernel
theorem dJ6_stringSize_0f7a4_3 : decode cJ6_stringSize_0f7a4 3 = .ok (.ifCond .lt 8, 3) := by decide +kernel
theorem dJ6_stringSize_0f7a4_6 : decode cJ6_stringSize_0f7a4 6 = .ok (.iconst 0, 1) := by decide +kernel
theorem dJ6_stringSize_0f7a4_7 : decode cJ6_stringSize_0f7a4 7 = .ok (.istore_n 1, 1) := by decide +kernel
theorem dJ6_stringSize_0f7a4_8 : decode cJ6_stringSize_0f7a4 8 = .ok (.iload_n 0, 1) := by decide +kernel
theorem dJ6_stringSize_0f7a4_9 : decode cJ6_stringSize_0f7a4 9 = .ok (.ineg, 1) := by decide +kernel
theorem dJ6_stringSize_0f7a4_10 : decode cJ6_stringSize_0f7a4 10 = .ok (.istore_n 0, 1) := by decide +kernel
theorem dJ6_stringSize_0f7a4_11 : decode cJ6_stringSize_0f7a4 11 = .ok (.bipush (-10), 2) := by decide +kernel
theorem dJ6_stringSize_0f7a4_13 : decode cJ6_stringSize_0f7a4 13 = .ok (.istore_n 2, 1) := by decide +kernel
theorem dJ6_stringSize_0f7a4_14 : decode cJ6_stringSize_0f7a4 14 = .ok (.iconst 1, 1) := by decide +kernel
theorem dJ6_stringSize_0f7a4_15 : decode cJ6_stringSize_0f7a4 15 = .ok (.istore_n 3, 1) := by decide +kernel
theorem dJ6_stringSize_0f7a4_16 : decode cJ6_stringSize_0f7a4 16 = .ok (.iload_n 3, 1) := by decide +kernel
theorem dJ6_stringSize_0f7a4_17 : decode cJ6_stringSize_0f7a4 17 = .ok (.bipush 10, 2) := by decide +kernel
theorem dJ6_stringSize_0f7a4_19 : decode cJ6_stringSize_0f7a4 19 = .ok (.if_icmp .ge 23, 3) := by decide +kernel
theorem dJ6_stringSize_0f7a4_22 : decode cJ6_stringSize_0f7a4 22 = .ok (.iload_n 0, 1) := by decide +kernel
theorem dJ6_stringSize_0f7a4_23 : decode cJ6_stringSize_0f7a4 23 = .ok (.iload_n 2, 1) := by decide +kernel
theorem dJ6_stringSize_0f7a4_24 : decode cJ6_stringSize_0f7a4 24 = .ok (.if_icmp .le 7, 3) := by decide +kernel
theorem dJ6_stringSize_0f7a4_27 : decode cJ6_stringSize_0f7a4 27 = .ok (.iload_n 3, 1) := by decide +kernel
theorem dJ6_stringSize_0f7a4_28 : decode cJ6_stringSize_0f7a4 28 = .ok (.iload_n 1, 1) := by decide +kernel
theorem dJ6_stringSize_0f7a4_29 : decode cJ6_stringSize_0f7a4 29 = .ok (.iadd, 1) := by decide +kernel
theorem dJ6_stringSize_0f7a4_30 : decode cJ6_stringSize_0f7a4 30 = .ok (.ireturn, 1) := by decide +kernel
theorem dJ6_stringSize_0f7a4_31 : decode cJ6_stringSize_0f7a4 31 = .ok (.bipush 10, 2) := by decide +kernel
theorem dJ6_stringSize_0f7a4_33 : decode cJ6_stringSize_0f7a4 33 = .ok (.iload_n 2, 1) := by decide +kernel
theorem dJ6_stringSize_0f7a4_34 : decode cJ6_stringSize_0f7a4 34 = .ok (.imul, 1) := by decide +kernel
theorem dJ6_stringSize_0f7a4_35 : decode cJ6_stringSize_0f7a4 35 = .ok (.istore_n 2, 1) := by decide +kernel
theorem dJ6_stringSize_0f7a4_36 : decode cJ6_stringSize_0f7a4 36 = .ok (.iinc 3 1, 3) := by decide +kernel
theorem dJ6_stringSize_0f7a4_39 : decode cJ6_stringSize_0f7a4 39 = .ok (.goto (-23), 3) := by decide +kernel
theorem dJ6_stringSize_0f7a4_42 : decode cJ6_stringSize_0f7a4 42 = .ok (.bipush 10, 2) := by decide +kernel
theorem dJ6_stringSize_0f7a4_44 : decode cJ6_stringSize_0f7a4 44 = .ok (.iload_n 1, 1) := by decide +kernel
theorem dJ6_stringSize_0f7a4_45 : decode cJ6_stringSize_0f7a4 45 = .ok (.iadd, 1) := by decide +kernel
theorem dJ6_stringSize_0f7a4_46 : decode cJ6_stringSize_0f7a4 46 = .ok (.ireturn, 1) := by decide +kernel
theorem dJ6_valueOf_2dffe_0 : decode cJ6_valueOf_2dffe 0 = .ok (.iload_n 0, 1) := by decide +kernel
theorem dJ6_valueOf_2dffe_1 : decode cJ6_valueOf_2dffe 1 = .ok (.bipush (-128), 2) := by decide +kernel
theorem dJ6_valueOf_2dffe_3 : decode cJ6_valueOf_2dffe 3 = .ok (.if_icmp .lt 20, 3) := by decide +kernel
theorem dJ6_valueOf_2dffe_6 : decode cJ6_valueOf_2dffe 6 = .ok (.iload_n 0, 1) := by decide +kernel
theorem dJ6_valueOf_2dffe_7 : decode cJ6_valueOf_2dffe 7 = .ok (.getstatic 191, 3) := by decide +kernel
theorem dJ6_valueOf_2dffe_10 : decode cJ6_valueOf_2dffe 10 = .ok (.if_icmp .gt 13, 3) := by decide +kernel
theorem dJ6_valueOf_2dffe_13 : decode cJ6_valueOf_2dffe 13 = .ok (.getstatic 195, 3) := by decide +kernel
theorem dJ6_valueOf_2dffe_16 : decode cJ6_valueOf_2dffe 16 = .ok (.iload_n 0, 1) := by decide +kernel
theorem dJ6_valueOf_2dffe_17 : decode cJ6_valueOf_2dffe 17 = .ok (.sipush 128, 3) := by decide +kernel
theorem dJ6_valueOf_2dffe_20 : decode cJ6_valueOf_2dffe 20 = .ok (.iadd, 1) := by decide +kernel
theorem dJ6_valueOf_2dffe_21 : decode cJ6_valueOf_2dffe 21 = .ok (.aaload, 1) := by decide +kernel
theorem dJ6_valueOf_2dffe_22 : decode cJ6_valueOf_2dffe 22 = .ok (.areturn, 1) := by decide +kernel
theorem dJ6_valueOf_2dffe_23 : decode cJ6_valueOf_2dffe 23 = .ok (.new 1, 3) := by decide +kernel
theorem dJ6_valueOf_2dffe_26 : decode cJ6_valueOf_2dffe 26 = .ok (.dup, 1) := by decide +kernel
theorem dJ6_valueOf_2dffe_27 : decode cJ6_valueOf_2dffe 27 = .ok (.iload_n 0, 1) := by decide +kernel
theorem dJ6_valueOf_2dffe_28 : decode cJ6_valueOf_2dffe 28 = .ok (.invokespecial 199, 3) := by decide +kernel
theorem dJ6_valueOf_2dffe_31 : decode cJ6_valueOf_2dffe 31 = .ok (.areturn, 1) := by decide +kernel
theorem dJ6_init_d00df_0 : decode cJ6_init_d00df 0 = .ok (.aload_n 0, 1) := by decide +kernel
theorem dJ6_init_d00df_1 : decode cJ6_init_d00df 1 = .ok (.invokespecial 202, 3) := by decide +kernel
theorem dJ6_init_d00df_4 : decode cJ6_init_d00df 4 = .ok (.aload_n 0, 1) := by decide +kernel
theorem dJ6_init_d00df_5 : decode cJ6_init_d00df 5 = .ok (.iload_n 1, 1) := by decide +kernel
theorem dJ6_init_d00df_6 : decode cJ6_init_d00df 6 = .ok (.putfield 205, 3) := by decide +kernel
theorem dJ6_init_d00df_9 : decode cJ6_init_d00df 9 = .ok (.return_, 1) := by decide +kernel
theorem dJ6_intValue_8abf5_0 : decode cJ6_intValue_8abf5 0 = .ok (.aload_n 0, 1) := by decide +kernel
theorem dJ6_intValue_8abf5_1 : decode cJ6_intValue_8abf5 1 = .ok (.getfield 205, 3) := by decide +kernel
theorem dJ6_intValue_8abf5_4 : decode cJ6_intValue_8abf5 4 = .ok (.ireturn, 1) := by decide +kernel
theorem dJ9_max_7cf53_0 : decode cJ9_max_7cf53 0 = .ok (.iload_n 0, 1) := by decide +kernel
theorem dJ9_max_7cf53_1 : decode cJ9_max_7cf53 1 = .ok (.iload_n 1, 1) := by decide +kernel
theorem dJ9_max_7cf53_2 : decode cJ9_max_7cf53 2 = .ok (.if_icmp .lt 7, 3) := by decide +kernel
theorem dJ9_max_7cf53_5 : decode cJ9_max_7cf53 5 = .ok (.iload_n 0, 1) := by decide +kernel
theorem dJ9_max_7cf53_6 : decode cJ9_max_7cf53 6 = .ok (.goto 4, 3) := by decide +kernel
theorem dJ9_max_7cf53_9 : decode cJ9_max_7cf53 9 = .ok (.iload_n 1, 1) := by decide +kernel
theorem dJ9_max_7cf53_10 : decode cJ9_max_7cf53 10 = .ok (.ireturn, 1) := by decide +kernel
theorem dJ9_min_7cf53_0 : decode cJ9_min_7cf53 0 = .ok (.iload_n 0, 1) := by decide +kernel
theorem dJ9_min_7cf53_1 : decode cJ9_min_7cf53 1 = .ok (.iload_n 1, 1) := by decide +kernel
theorem dJ9_min_7cf53_2 : decode cJ9_min_7cf53 2 = .ok (.if_icmp .gt 7, 3) := by decide +kernel
theorem dJ9_min_7cf53_5 : decode cJ9_min_7cf53 5 = .ok (.iload_n 0, 1) := by decide +kernel
theorem dJ9_min_7cf53_6 : decode cJ9_min_7cf53 6 = .ok (.goto 4, 3) := by decide +kernel
theorem dJ9_min_7cf53_9 : decode cJ9_min_7cf53 9 = .ok (.iload_n 1, 1) := by decide +kernel
theorem dJ9_min_7cf53_10 : decode cJ9_min_7cf53 10 = .ok (.ireturn, 1) := by decide +kernel
theorem dJxd2413_init_da8c8_0 : decode cJxd2413_init_da8c8 0 = .ok (.aload_n 0, 1) := by decide +kernel
theorem dJxd2413_init_da8c8_1 : decode cJxd2413_init_da8c8 1 = .ok (.invokespecial 1, 3) := by decide +kernel
theorem dJxd2413_init_da8c8_4 : decode cJxd2413_init_da8c8 4 = .ok (.return_, 1) := by decide +kernel
theorem dJ0_init_81219_0 : decode cJ0_init_81219 0 = .ok (.aload_n 0, 1) := by decide +kernel
theorem dJ0_init_81219_1 : decode cJ0_init_81219 1 = .ok (.aload_n 1, 1) := by decide +kernel
theorem dJ0_init_81219_2 : decode cJ0_init_81219 2 = .ok (.aconst_null, 1) := by decide +kernel
theorem dJ0_init_81219_3 : decode cJ0_init_81219 3 = .ok (.invokespecial 489, 3) := by decide +kernel
theorem dJ0_init_81219_6 : decode cJ0_init_81219 6 = .ok (.return_, 1) := by decide +kernel
theorem dJ0_length_8abf5_0 : decode cJ0_length_8abf5 0 = .ok (.aload_n 0, 1) := by decide +kernel
theorem dJ0_length_8abf5_1 : decode cJ0_length_8abf5 1 = .ok (.getfield 9, 3) := by decide +kernel
theorem dJ0_length_8abf5_4 : decode cJ0_length_8abf5 4 = .ok (.arraylength, 1) := by decide +kernel
theorem dJ0_length_8abf5_5 : decode cJ0_length_8abf5 5 = .ok (.aload_n 0, 1) := by decide +kernel
theorem dJ0_length_8abf5_6 : decode cJ0_length_8abf5 6 = .ok (.invokevirtual 335, 3) := by decide +kernel
theorem dJ0_length_8abf5_9 : decode cJ0_length_8abf5 9 = .ok (.ishr, 1) := by decide +kernel
theorem dJ0_length_8abf5_10 : decode cJ0_length_8abf5 10 = .ok (.ireturn, 1) := by decide +kernel
theorem dJ0_getBytes_840e7_0 : decode cJ0_getBytes_840e7 0 = .ok (.aload_n 0, 1) := by decide +kernel
theorem dJ0_getBytes_840e7_1 : decode cJ0_getBytes_840e7 1 = .ok (.invokevirtual 335, 3) := by decide +kernel
theorem dJ0_getBytes_840e7_4 : decode cJ0_getBytes_840e7 4 = .ok (.iload_n 3, 1) := by decide +kernel
theorem dJ0_getBytes_840e7_5 : decode cJ0_getBytes_840e7 5 = .ok (.if_icmp .ne 23, 3) := by decide +kernel
theorem dJ0_getBytes_840e7_8 : decode cJ0_getBytes_840e7 8 = .ok (.aload_n 0, 1) := by decide +kernel
theorem dJ0_getBytes_840e7_9 : decode cJ0_getBytes_840e7 9 = .ok (.getfield 9, 3) := by decide +kernel
theorem dJ0_getBytes_840e7_12 : decode cJ0_getBytes_840e7 12 = .ok (.iconst 0, 1) := by decide +kernel
theorem dJ0_getBytes_840e7_13 : decode cJ0_getBytes_840e7 13 = .ok (.aload_n 1, 1) := by decide +kernel
theorem dJ0_getBytes_840e7_14 : decode cJ0_getBytes_840e7 14 = .ok (.iload_n 2, 1) := by decide +kernel
theorem dJ0_getBytes_840e7_15 : decode cJ0_getBytes_840e7 15 = .ok (.iload_n 3, 1) := by decide +kernel
theorem dJ0_getBytes_840e7_16 : decode cJ0_getBytes_840e7 16 = .ok (.ishl, 1) := by decide +kernel
theorem dJ0_getBytes_840e7_17 : decode cJ0_getBytes_840e7 17 = .ok (.aload_n 0, 1) := by decide +kernel
theorem dJ0_getBytes_840e7_18 : decode cJ0_getBytes_840e7 18 = .ok (.getfield 9, 3) := by decide +kernel
theorem dJ0_getBytes_840e7_21 : decode cJ0_getBytes_840e7 21 = .ok (.arraylength, 1) := by decide +kernel
theorem dJ0_getBytes_840e7_22 : decode cJ0_getBytes_840e7 22 = .ok (.invokestatic 212, 3) := by decide +kernel
theorem dJ0_getBytes_840e7_25 : decode cJ0_getBytes_840e7 25 = .ok (.goto 18, 3) := by decide +kernel
theorem dJ0_getBytes_840e7_28 : decode cJ0_getBytes_840e7 28 = .ok (.aload_n 0, 1) := by decide +kernel
theorem dJ0_getBytes_840e7_29 : decode cJ0_getBytes_840e7 29 = .ok (.getfield 9, 3) := by decide +kernel
theorem dJ0_getBytes_840e7_32 : decode cJ0_getBytes_840e7 32 = .ok (.iconst 0, 1) := by decide +kernel
theorem dJ0_getBytes_840e7_33 : decode cJ0_getBytes_840e7 33 = .ok (.aload_n 1, 1) := by decide +kernel
theorem dJ0_getBytes_840e7_34 : decode cJ0_getBytes_840e7 34 = .ok (.iload_n 2, 1) := by decide +kernel
theorem dJ0_getBytes_840e7_35 : decode cJ0_getBytes_840e7 35 = .ok (.aload_n 0, 1) := by decide +kernel
theorem dJ0_getBytes_840e7_36 : decode cJ0_getBytes_840e7 36 = .ok (.getfield 9, 3) := by decide +kernel
theorem dJ0_getBytes_840e7_39 : decode cJ0_getBytes_840e7 39 = .ok (.arraylength, 1) := by decide +kernel
theorem dJ0_getBytes_840e7_40 : decode cJ0_getBytes_840e7 40 = .ok (.invokestatic 106, 3) := by decide +kernel
theorem dJ0_getBytes_840e7_43 : decode cJ0_getBytes_840e7 43 = .ok (.return_, 1) := by decide +kernel
theorem dJ0_init_db425_0 : decode cJ0_init_db425 0 = .ok (.aload_n 0, 1) := by decide +kernel
theorem dJ0_init_db425_1 : decode cJ0_init_db425 1 = .ok (.invokespecial 1, 3) := by decide +kernel
theorem dJ0_init_db425_4 : decode cJ0_init_db425 4 = .ok (.aload_n 1, 1) := by decide +kernel
theorem dJ0_init_db425_5 : decode cJ0_init_db425 5 = .ok (.invokevirtual 552, 3) := by decide +kernel
theorem dJ0_init_db425_8 : decode cJ0_init_db425 8 = .ok (.astore_n 3, 1) := by decide +kernel
theorem dJ0_init_db425_9 : decode cJ0_init_db425 9 = .ok (.aload_n 1, 1) := by decide +kernel
theorem dJ0_init_db425_10 : decode cJ0_init_db425 10 = .ok (.invokevirtual 549, 3) := by decide +kernel
theorem dJ0_init_db425_13 : decode cJ0_init_db425 13 = .ok (.istore 4, 2) := by decide +kernel
theorem dJ0_init_db425_15 : decode cJ0_init_db425 15 = .ok (.aload_n 1, 1) := by decide +kernel
theorem dJ0_init_db425_16 : decode cJ0_init_db425 16 = .ok (.invokevirtual 1047, 3) := by decide +kernel
theorem dJ0_init_db425_19 : decode cJ0_init_db425 19 = .ok (.ifCond .eq 22, 3) := by decide +kernel
theorem dJ0_init_db425_22 : decode cJ0_init_db425 22 = .ok (.aload_n 0, 1) := by decide +kernel
theorem dJ0_init_db425_23 : decode cJ0_init_db425 23 = .ok (.iconst 0, 1) := by decide +kernel
theorem dJ0_init_db425_24 : decode cJ0_init_db425 24 = .ok (.putfield 15, 3) := by decide +kernel
theorem dJ0_init_db425_27 : decode cJ0_init_db425 27 = .ok (.aload_n 0, 1) := by decide +kernel
theorem dJ0_init_db425_28 : decode cJ0_init_db425 28 = .ok (.aload_n 3, 1) := by decide +kernel
theorem dJ0_init_db425_29 : decode cJ0_init_db425 29 = .ok (.iconst 0, 1) := by decide +kernel
theorem dJ0_init_db425_30 : decode cJ0_init_db425 30 = .ok (.iload 4, 2) := by decide +kernel
theorem dJ0_init_db425_32 : decode cJ0_init_db425 32 = .ok (.invokestatic 54, 3) := by decide +kernel
theorem dJ0_init_db425_35 : decode cJ0_init_db425 35 = .ok (.putfield 9, 3) := by decide +kernel
theorem dJ0_init_db425_38 : decode cJ0_init_db425 38 = .ok (.goto 59, 3) := by decide +kernel
theorem dJ0_init_db425_41 : decode cJ0_init_db425 41 = .ok (.getstatic 38, 3) := by decide +kernel
theorem dJ0_init_db425_44 : decode cJ0_init_db425 44 = .ok (.ifCond .eq 35, 3) := by decide +kernel
theorem dJ0_init_db425_47 : decode cJ0_init_db425 47 = .ok (.aload_n 1, 1) := by decide +kernel
theorem dJ0_init_db425_48 : decode cJ0_init_db425 48 = .ok (.getfield 1048, 3) := by decide +kernel
theorem dJ0_init_db425_51 : decode cJ0_init_db425 51 = .ok (.ifCond .eq 28, 3) := by decide +kernel
theorem dJ0_init_db425_54 : decode cJ0_init_db425 54 = .ok (.aload_n 0, 1) := by decide +kernel
theorem dJ0_init_db425_55 : decode cJ0_init_db425 55 = .ok (.aload_n 3, 1) := by decide +kernel
theorem dJ0_init_db425_56 : decode cJ0_init_db425 56 = .ok (.iconst 0, 1) := by decide +kernel
theorem dJ0_init_db425_57 : decode cJ0_init_db425 57 = .ok (.iload 4, 2) := by decide +kernel
theorem dJ0_init_db425_59 : decode cJ0_init_db425 59 = .ok (.invokestatic 1051, 3) := by decide +kernel
theorem dJ0_init_db425_62 : decode cJ0_init_db425 62 = .ok (.putfield 9, 3) := by decide +kernel
theorem dJ0_init_db425_65 : decode cJ0_init_db425 65 = .ok (.aload_n 0, 1) := by decide +kernel
theorem dJ0_init_db425_66 : decode cJ0_init_db425 66 = .ok (.aload_n 0, 1) := by decide +kernel
theorem dJ0_init_db425_67 : decode cJ0_init_db425 67 = .ok (.getfield 9, 3) := by decide +kernel
theorem dJ0_init_db425_70 : decode cJ0_init_db425 70 = .ok (.iload 4, 2) := by decide +kernel
theorem dJ0_init_db425_72 : decode cJ0_init_db425 72 = .ok (.invokestatic 47, 3) := by decide +kernel
theorem dJ0_init_db425_75 : decode cJ0_init_db425 75 = .ok (.putfield 15, 3) := by decide +kernel
theorem dJ0_init_db425_78 : decode cJ0_init_db425 78 = .ok (.return_, 1) := by decide +kernel
theorem dJ0_init_db425_79 : decode cJ0_init_db425 79 = .ok (.aload_n 0, 1) := by decide +kernel
theorem dJ0_init_db425_80 : decode cJ0_init_db425 80 = .ok (.iconst 1, 1) := by decide +kernel
theorem dJ0_init_db425_81 : decode cJ0_init_db425 81 = .ok (.putfield 15, 3) := by decide +kernel
theorem dJ0_init_db425_84 : decode cJ0_init_db425 84 = .ok (.aload_n 0, 1) := by decide +kernel
theorem dJ0_init_db425_85 : decode cJ0_init_db425 85 = .ok (.aload_n 3, 1) := by decide +kernel
theorem dJ0_init_db425_86 : decode cJ0_init_db425 86 = .ok (.iconst 0, 1) := by decide +kernel
theorem dJ0_init_db425_87 : decode cJ0_init_db425 87 = .ok (.iload 4, 2) := by decide +kernel
theorem dJ0_init_db425_89 : decode cJ0_init_db425 89 = .ok (.iconst 1, 1) := by decide +kernel
theorem dJ0_init_db425_90 : decode cJ0_init_db425 90 = .ok (.ishl, 1) := by decide +kernel
theorem dJ0_init_db425_91 : decode cJ0_init_db425 91 = .ok (.invokestatic 54, 3) := by decide +kernel
theorem dJ0_init_db425_94 : decode cJ0_init_db425 94 = .ok (.putfield 9, 3) := by decide +kernel
theorem dJ0_init_db425_97 : decode cJ0_init_db425 97 = .ok (.return_, 1) := by decide +kernel
theorem dJ0_coder_7d493_0 : decode cJ0_coder_7d493 0 = .ok (.getstatic 38, 3) := by decide +kernel
theorem dJ0_coder_7d493_3 : decode cJ0_coder_7d493 3 = .ok (.ifCond .eq 10, 3) := by decide +kernel
theorem dJ0_coder_7d493_6 : decode cJ0_coder_7d493 6 = .ok (.aload_n 0, 1) := by decide +kernel
theorem dJ0_coder_7d493_7 : decode cJ0_coder_7d493 7 = .ok (.getfield 15, 3) := by decide +kernel
theorem dJ0_coder_7d493_10 : decode cJ0_coder_7d493 10 = .ok (.goto 4, 3) := by decide +kernel
theorem dJ0_coder_7d493_13 : decode cJ0_coder_7d493 13 = .ok (.iconst 1, 1) := by decide +kernel
theorem dJ0_coder_7d493_14 : decode cJ0_coder_7d493 14 = .ok (.ireturn, 1) := by decide +kernel
theorem dJ0_checkIndex_df160_0 : decode cJ0_checkIndex_df160 0 = .ok (.iload_n 0, 1) := by decide +kernel
theorem dJ0_checkIndex_df160_1 : decode cJ0_checkIndex_df160 1 = .ok (.iload_n 1, 1) := by decide +kernel
theorem dJ0_checkIndex_df160_2 : decode cJ0_checkIndex_df160 2 = .ok (.getstatic 1053, 3) := by decide +kernel
theorem dJ0_checkIndex_df160_5 : decode cJ0_checkIndex_df160 5 = .ok (.invokestatic 1059, 3) := by decide +kernel
theorem dJ0_checkIndex_df160_8 : decode cJ0_checkIndex_df160 8 = .ok (.pop, 1) := by decide +kernel
theorem dJ0_checkIndex_df160_9 : decode cJ0_checkIndex_df160 9 = .ok (.return_, 1) := by decide +kernel
theorem dJ0_checkBoundsOffCount_cabcc_0 : decode cJ0_checkBoundsOffCount_cabcc 0 = .ok (.iload_n 0, 1) := by decide +kernel
theorem dJ0_checkBoundsOffCount_cabcc_1 : decode cJ0_checkBoundsOffCount_cabcc 1 = .ok (.iload_n 1, 1) := by decide +kernel
theorem dJ0_checkBoundsOffCount_cabcc_2 : decode cJ0_checkBoundsOffCount_cabcc 2 = .ok (.iload_n 2, 1) := by decide +kernel
theorem dJ0_checkBoundsOffCount_cabcc_3 : decode cJ0_checkBoundsOffCount_cabcc 3 = .ok (.getstatic 1053, 3) := by decide +kernel
theorem dJ0_checkBoundsOffCount_cabcc_6 : decode cJ0_checkBoundsOffCount_cabcc 6 = .ok (.invokestatic 1065, 3) := by decide +kernel
theorem dJ0_checkBoundsOffCount_cabcc_9 : decode cJ0_checkBoundsOffCount_cabcc 9 = .ok (.ireturn, 1) := by decide +kernel
theorem dJ0_checkBoundsBeginEnd_23922_0 : decode cJ0_checkBoundsBeginEnd_23922 0 = .ok (.iload_n 0, 1) := by decide +kernel
theorem dJ0_checkBoundsBeginEnd_23922_1 : decode cJ0_checkBoundsBeginEnd_23922 1 = .ok (.iload_n 1, 1) := by decide +kernel
theorem dJ0_checkBoundsBeginEnd_23922_2 : decode cJ0_checkBoundsBeginEnd_23922 2 = .ok (.iload_n 2, 1) := by decide +kernel
theorem dJ0_checkBoundsBeginEnd_23922_3 : decode cJ0_checkBoundsBeginEnd_23922 3 = .ok (.getstatic 1053, 3) := by decide +kernel
theorem dJ0_checkBoundsBeginEnd_23922_6 : decode cJ0_checkBoundsBeginEnd_23922 6 = .ok (.invokestatic 1062, 3) := by decide +kernel
theorem dJ0_checkBoundsBeginEnd_23922_9 : decode cJ0_checkBoundsBeginEnd_23922 9 = .ok (.pop, 1) := by decide +kernel
theorem dJ0_checkBoundsBeginEnd_23922_10 : decode cJ0_checkBoundsBeginEnd_23922 10 = .ok (.return_, 1) := by decide +kernel
theorem dJ4_init_da8c8_0 : decode cJ4_init_da8c8 0 = .ok (.aload_n 0, 1) := by decide +kernel
theorem dJ4_init_da8c8_1 : decode cJ4_init_da8c8 1 = .ok (.bipush 16, 2) := by decide +kernel
theorem dJ4_init_da8c8_3 : decode cJ4_init_da8c8 3 = .ok (.invokespecial 1, 3) := by decide +kernel
theorem dJ4_init_da8c8_6 : decode cJ4_init_da8c8 6 = .ok (.return_, 1) := by decide +kernel
theorem dJ4_append_15ec4_0 : decode cJ4_append_15ec4 0 = .ok (.aload_n 0, 1) := by decide +kernel
theorem dJ4_append_15ec4_1 : decode cJ4_append_15ec4 1 = .ok (.aload_n 1, 1) := by decide +kernel
theorem dJ4_append_15ec4_2 : decode cJ4_append_15ec4 2 = .ok (.invokespecial 29, 3) := by decide +kernel
theorem dJ4_append_15ec4_5 : decode cJ4_append_15ec4 5 = .ok (.pop, 1) := by decide +kernel
theorem dJ4_append_15ec4_6 : decode cJ4_append_15ec4 6 = .ok (.aload_n 0, 1) := by decide +kernel
theorem dJ4_append_15ec4_7 : decode cJ4_append_15ec4 7 = .ok (.areturn, 1) := by decide +kernel
theorem dJ4_append_cf468_0 : decode cJ4_append_cf468 0 = .ok (.aload_n 0, 1) := by decide +kernel
theorem dJ4_append_cf468_1 : decode cJ4_append_cf468 1 = .ok (.iload_n 1, 1) := by decide +kernel
theorem dJ4_append_cf468_2 : decode cJ4_append_cf468 2 = .ok (.invokespecial 50, 3) := by decide +kernel
theorem dJ4_append_cf468_5 : decode cJ4_append_cf468 5 = .ok (.pop, 1) := by decide +kernel
theorem dJ4_append_cf468_6 : decode cJ4_append_cf468 6 = .ok (.aload_n 0, 1) := by decide +kernel
theorem dJ4_append_cf468_7 : decode cJ4_append_cf468 7 = .ok (.areturn, 1) := by decide +kernel
theorem dJ4_append_bf812_0 : decode cJ4_append_bf812 0 = .ok (.aload_n 0, 1) := by decide +kernel
theorem dJ4_append_bf812_1 : decode cJ4_append_bf812 1 = .ok (.iload_n 1, 1) := by decide +kernel
theorem dJ4_append_bf812_2 : decode cJ4_append_bf812 2 = .ok (.invokespecial 53, 3) := by decide +kernel
theorem dJ4_append_bf812_5 : decode cJ4_append_bf812 5 = .ok (.pop, 1) := by decide +kernel
theorem dJ4_append_bf812_6 : decode cJ4_append_bf812 6 = .ok (.aload_n 0, 1) := by decide +kernel
theorem dJ4_append_bf812_7 : decode cJ4_append_bf812 7 = .ok (.areturn, 1) := by decide +kernel
theorem dJ4_toString_0e30d_0 : decode cJ4_toString_0e30d 0 = .ok (.new 18, 3) := by decide +kernel
theorem dJ4_toString_0e30d_3 : decode cJ4_toString_0e30d 3 = .ok (.dup, 1) := by decide +kernel
theorem dJ4_toString_0e30d_4 : decode cJ4_toString_0e30d 4 = .ok (.aload_n 0, 1) := by decide +kernel
theorem dJ4_toString_0e30d_5 : decode cJ4_toString_0e30d 5 = .ok (.invokespecial 137, 3) := by decide +kernel
theorem dJ4_toString_0e30d_8 : decode cJ4_toString_0e30d 8 = .ok (.areturn, 1) := by decide +kernel
theorem dJ4_length_8abf5_0 : decode cJ4_length_8abf5 0 = .ok (.aload_n 0, 1) := by decide +kernel
theorem dJ4_length_8abf5_1 : decode cJ4_length_8abf5 1 = .ok (.invokespecial 343, 3) := by decide +kernel
theorem dJ4_length_8abf5_4 : decode cJ4_length_8abf5 4 = .ok (.ireturn, 1) := by decide +kernel
theorem dJ1_canEncode_fc78d_0 : decode cJ1_canEncode_fc78d 0 = .ok (.iload_n 0, 1) := by decide +kernel
theorem dJ1_canEncode_fc78d_1 : decode cJ1_canEncode_fc78d 1 = .ok (.sipush 255, 3) := by decide +kernel
theorem dJ1_canEncode_fc78d_4 : decode cJ1_canEncode_fc78d 4 = .ok (.if_icmp .gt 7, 3) := by decide +kernel
theorem dJ1_canEncode_fc78d_7 : decode cJ1_canEncode_fc78d 7 = .ok (.iconst 1, 1) := by decide +kernel
theorem dJ1_canEncode_fc78d_8 : decode cJ1_canEncode_fc78d 8 = .ok (.goto 4, 3) := by decide +kernel
theorem dJ1_canEncode_fc78d_11 : decode cJ1_canEncode_fc78d 11 = .ok (.iconst 0, 1) := by decide +kernel
theorem dJ1_canEncode_fc78d_12 : decode cJ1_canEncode_fc78d 12 = .ok (.ireturn, 1) := by decide +kernel
theorem dJ1_inflate_0e8fd_0 : decode cJ1_inflate_0e8fd 0 = .ok (.aload_n 0, 1) := by decide +kernel
theorem dJ1_inflate_0e8fd_1 : decode cJ1_inflate_0e8fd 1 = .ok (.iload_n 1, 1) := by decide +kernel
theorem dJ1_inflate_0e8fd_2 : decode cJ1_inflate_0e8fd 2 = .ok (.aload_n 2, 1) := by decide +kernel
theorem dJ1_inflate_0e8fd_3 : decode cJ1_inflate_0e8fd 3 = .ok (.iload_n 3, 1) := by decide +kernel
theorem dJ1_inflate_0e8fd_4 : decode cJ1_inflate_0e8fd 4 = .ok (.iload 4, 2) := by decide +kernel
theorem dJ1_inflate_0e8fd_6 : decode cJ1_inflate_0e8fd 6 = .ok (.invokestatic 240, 3) := by decide +kernel
theorem dJ1_inflate_0e8fd_9 : decode cJ1_inflate_0e8fd 9 = .ok (.return_, 1) := by decide +kernel
theorem dJ2_newBytesFor_77867_0 : decode cJ2_newBytesFor_77867 0 = .ok (.iload_n 0, 1) := by decide +kernel
theorem dJ2_newBytesFor_77867_1 : decode cJ2_newBytesFor_77867 1 = .ok (.invokestatic 11, 3) := by decide +kernel
theorem dJ2_newBytesFor_77867_4 : decode cJ2_newBytesFor_77867 4 = .ok (.newarray .byte, 2) := by decide +kernel
theorem dJ2_newBytesFor_77867_6 : decode cJ2_newBytesFor_77867 6 = .ok (.areturn, 1) := by decide +kernel
theorem dJ2_newBytesLength_0f7a4_0 : decode cJ2_newBytesLength_0f7a4 0 = .ok (.iload_n 0, 1) := by decide +kernel
theorem dJ2_newBytesLength_0f7a4_1 : decode cJ2_newBytesLength_0f7a4 1 = .ok (.ifCond .ge 11, 3) := by decide +kernel
theorem dJ2_newBytesLength_0f7a4_4 : decode cJ2_newBytesLength_0f7a4 4 = .ok (.new 17, 3) := by decide +kernel
theorem dJ2_newBytesLength_0f7a4_7 : decode cJ2_newBytesLength_0f7a4 7 = .ok (.dup, 1) := by decide +kernel
theorem dJ2_newBytesLength_0f7a4_8 : decode cJ2_newBytesLength_0f7a4 8 = .ok (.invokespecial 19, 3) := by decide +kernel
theorem dJ2_newBytesLength_0f7a4_11 : decode cJ2_newBytesLength_0f7a4 11 = .ok (.athrow, 1) := by decide +kernel
theorem dJ2_newBytesLength_0f7a4_12 : decode cJ2_newBytesLength_0f7a4 12 = .ok (.iload_n 0, 1) := by decide +kernel
theorem dJ2_newBytesLength_0f7a4_13 : decode cJ2_newBytesLength_0f7a4 13 = .ok (.ldc 20, 2) := by decide +kernel
theorem dJ2_newBytesLength_0f7a4_15 : decode cJ2_newBytesLength_0f7a4 15 = .ok (.if_icmp .lt 40, 3) := by decide +kernel
theorem dJ2_newBytesLength_0f7a4_18 : decode cJ2_newBytesLength_0f7a4 18 = .ok (.new 21, 3) := by decide +kernel
theorem dJ2_newBytesLength_0f7a4_21 : decode cJ2_newBytesLength_0f7a4 21 = .ok (.dup, 1) := by decide +kernel
theorem dJ2_newBytesLength_0f7a4_22 : decode cJ2_newBytesLength_0f7a4 22 = .ok (.new 23, 3) := by decide +kernel
theorem dJ2_newBytesLength_0f7a4_25 : decode cJ2_newBytesLength_0f7a4 25 = .ok (.dup, 1) := by decide +kernel
theorem dJ2_newBytesLength_0f7a4_26 : decode cJ2_newBytesLength_0f7a4 26 = .ok (.invokespecial 25, 3) := by decide +kernel
theorem dJ2_newBytesLength_0f7a4_29 : decode cJ2_newBytesLength_0f7a4 29 = .ok (.ldc 26, 2) := by decide +kernel
theorem dJ2_newBytesLength_0f7a4_31 : decode cJ2_newBytesLength_0f7a4 31 = .ok (.invokevirtual 28, 3) := by decide +kernel
theorem dJ2_newBytesLength_0f7a4_34 : decode cJ2_newBytesLength_0f7a4 34 = .ok (.iload_n 0, 1) := by decide +kernel
theorem dJ2_newBytesLength_0f7a4_35 : decode cJ2_newBytesLength_0f7a4 35 = .ok (.invokevirtual 32, 3) := by decide +kernel
theorem dJ2_newBytesLength_0f7a4_38 : decode cJ2_newBytesLength_0f7a4 38 = .ok (.ldc 35, 2) := by decide +kernel
theorem dJ2_newBytesLength_0f7a4_40 : decode cJ2_newBytesLength_0f7a4 40 = .ok (.invokevirtual 28, 3) := by decide +kernel
theorem dJ2_newBytesLength_0f7a4_43 : decode cJ2_newBytesLength_0f7a4 43 = .ok (.ldc 20, 2) := by decide +kernel
theorem dJ2_newBytesLength_0f7a4_45 : decode cJ2_newBytesLength_0f7a4 45 = .ok (.invokevirtual 32, 3) := by decide +kernel
theorem dJ2_newBytesLength_0f7a4_48 : decode cJ2_newBytesLength_0f7a4 48 = .ok (.invokevirtual 37, 3) := by decide +kernel
theorem dJ2_newBytesLength_0f7a4_51 : decode cJ2_newBytesLength_0f7a4 51 = .ok (.invokespecial 41, 3) := by decide +kernel
theorem dJ2_newBytesLength_0f7a4_54 : decode cJ2_newBytesLength_0f7a4 54 = .ok (.athrow, 1) := by decide +kernel
theorem dJ2_newBytesLength_0f7a4_55 : decode cJ2_newBytesLength_0f7a4 55 = .ok (.iload_n 0, 1) := by decide +kernel
theorem dJ2_newBytesLength_0f7a4_56 : decode cJ2_newBytesLength_0f7a4 56 = .ok (.iconst 1, 1) := by decide +kernel
theorem dJ2_newBytesLength_0f7a4_57 : decode cJ2_newBytesLength_0f7a4 57 = .ok (.ishl, 1) := by decide +kernel
theorem dJ2_newBytesLength_0f7a4_58 : decode cJ2_newBytesLength_0f7a4 58 = .ok (.ireturn, 1) := by decide +kernel
theorem dJ2_putChar_b72d1_0 : decode cJ2_putChar_b72d1 0 = .ok (.getstatic 44, 3) := by decide +kernel
theorem dJ2_putChar_b72d1_3 : decode cJ2_putChar_b72d1 3 = .ok (.ifCond .ne 25, 3) := by decide +kernel
theorem dJ2_putChar_b72d1_6 : decode cJ2_putChar_b72d1 6 = .ok (.iload_n 1, 1) := by decide +kernel
theorem dJ2_putChar_b72d1_7 : decode cJ2_putChar_b72d1 7 = .ok (.ifCond .lt 11, 3) := by decide +kernel
theorem dJ2_putChar_b72d1_10 : decode cJ2_putChar_b72d1 10 = .ok (.iload_n 1, 1) := by decide +kernel
theorem dJ2_putChar_b72d1_11 : decode cJ2_putChar_b72d1 11 = .ok (.aload_n 0, 1) := by decide +kernel
theorem dJ2_putChar_b72d1_12 : decode cJ2_putChar_b72d1 12 = .ok (.invokestatic 48, 3) := by decide +kernel
theorem dJ2_putChar_b72d1_15 : decode cJ2_putChar_b72d1 15 = .ok (.if_icmp .lt 13, 3) := by decide +kernel
theorem dJ2_putChar_b72d1_18 : decode cJ2_putChar_b72d1 18 = .ok (.new 52, 3) := by decide +kernel
theorem dJ2_putChar_b72d1_21 : decode cJ2_putChar_b72d1 21 = .ok (.dup, 1) := by decide +kernel
theorem dJ2_putChar_b72d1_22 : decode cJ2_putChar_b72d1 22 = .ok (.ldc 54, 2) := by decide +kernel
theorem dJ2_putChar_b72d1_24 : decode cJ2_putChar_b72d1 24 = .ok (.invokespecial 56, 3) := by decide +kernel
theorem dJ2_putChar_b72d1_27 : decode cJ2_putChar_b72d1 27 = .ok (.athrow, 1) := by decide +kernel
theorem dJ2_putChar_b72d1_28 : decode cJ2_putChar_b72d1 28 = .ok (.iload_n 1, 1) := by decide +kernel
theorem dJ2_putChar_b72d1_29 : decode cJ2_putChar_b72d1 29 = .ok (.iconst 1, 1) := by decide +kernel
theorem dJ2_putChar_b72d1_30 : decode cJ2_putChar_b72d1 30 = .ok (.ishl, 1) := by decide +kernel
theorem dJ2_putChar_b72d1_31 : decode cJ2_putChar_b72d1 31 = .ok (.istore_n 1, 1) := by decide +kernel
theorem dJ2_putChar_b72d1_32 : decode cJ2_putChar_b72d1 32 = .ok (.aload_n 0, 1) := by decide +kernel
theorem dJ2_putChar_b72d1_33 : decode cJ2_putChar_b72d1 33 = .ok (.iload_n 1, 1) := by decide +kernel
theorem dJ2_putChar_b72d1_34 : decode cJ2_putChar_b72d1 34 = .ok (.iinc 1 1, 3) := by decide +kernel
theorem dJ2_putChar_b72d1_37 : decode cJ2_putChar_b72d1 37 = .ok (.iload_n 2, 1) := by decide +kernel
theorem dJ2_putChar_b72d1_38 : decode cJ2_putChar_b72d1 38 = .ok (.getstatic 59, 3) := by decide +kernel
theorem dJ2_putChar_b72d1_41 : decode cJ2_putChar_b72d1 41 = .ok (.ishr, 1) := by decide +kernel
theorem dJ2_putChar_b72d1_42 : decode cJ2_putChar_b72d1 42 = .ok (.i2b, 1) := by decide +kernel
theorem dJ2_putChar_b72d1_43 : decode cJ2_putChar_b72d1 43 = .ok (.bastore, 1) := by decide +kernel
theorem dJ2_putChar_b72d1_44 : decode cJ2_putChar_b72d1 44 = .ok (.aload_n 0, 1) := by decide +kernel
theorem dJ2_putChar_b72d1_45 : decode cJ2_putChar_b72d1 45 = .ok (.iload_n 1, 1) := by decide +kernel
theorem dJ2_putChar_b72d1_46 : decode cJ2_putChar_b72d1 46 = .ok (.iload_n 2, 1) := by decide +kernel
theorem dJ2_putChar_b72d1_47 : decode cJ2_putChar_b72d1 47 = .ok (.getstatic 63, 3) := by decide +kernel
theorem dJ2_putChar_b72d1_50 : decode cJ2_putChar_b72d1 50 = .ok (.ishr, 1) := by decide +kernel
theorem dJ2_putChar_b72d1_51 : decode cJ2_putChar_b72d1 51 = .ok (.i2b, 1) := by decide +kernel
theorem dJ2_putChar_b72d1_52 : decode cJ2_putChar_b72d1 52 = .ok (.bastore, 1) := by decide +kernel
theorem dJ2_putChar_b72d1_53 : decode cJ2_putChar_b72d1 53 = .ok (.return_, 1) := by decide +kernel
theorem dJ2_getChar_3b067_0 : decode cJ2_getChar_3b067 0 = .ok (.getstatic 44, 3) := by decide +kernel
theorem dJ2_getChar_3b067_3 : decode cJ2_getChar_3b067 3 = .ok (.ifCond .ne 25, 3) := by decide +kernel
theorem dJ2_getChar_3b067_6 : decode cJ2_getChar_3b067 6 = .ok (.iload_n 1, 1) := by decide +kernel
theorem dJ2_getChar_3b067_7 : decode cJ2_getChar_3b067 7 = .ok (.ifCond .lt 11, 3) := by decide +kernel
theorem dJ2_getChar_3b067_10 : decode cJ2_getChar_3b067 10 = .ok (.iload_n 1, 1) := by decide +kernel
theorem dJ2_getChar_3b067_11 : decode cJ2_getChar_3b067 11 = .ok (.aload_n 0, 1) := by decide +kernel
theorem dJ2_getChar_3b067_12 : decode cJ2_getChar_3b067 12 = .ok (.invokestatic 48, 3) := by decide +kernel
theorem dJ2_getChar_3b067_15 : decode cJ2_getChar_3b067 15 = .ok (.if_icmp .lt 13, 3) := by decide +kernel
theorem dJ2_getChar_3b067_18 : decode cJ2_getChar_3b067 18 = .ok (.new 52, 3) := by decide +kernel
theorem dJ2_getChar_3b067_21 : decode cJ2_getChar_3b067 21 = .ok (.dup, 1) := by decide +kernel
theorem dJ2_getChar_3b067_22 : decode cJ2_getChar_3b067 22 = .ok (.ldc 54, 2) := by decide +kernel
theorem dJ2_getChar_3b067_24 : decode cJ2_getChar_3b067 24 = .ok (.invokespecial 56, 3) := by decide +kernel
theorem dJ2_getChar_3b067_27 : decode cJ2_getChar_3b067 27 = .ok (.athrow, 1) := by decide +kernel
theorem dJ2_getChar_3b067_28 : decode cJ2_getChar_3b067 28 = .ok (.iload_n 1, 1) := by decide +kernel
theorem dJ2_getChar_3b067_29 : decode cJ2_getChar_3b067 29 = .ok (.iconst 1, 1) := by decide +kernel
theorem dJ2_getChar_3b067_30 : decode cJ2_getChar_3b067 30 = .ok (.ishl, 1) := by decide +kernel
theorem dJ2_getChar_3b067_31 : decode cJ2_getChar_3b067 31 = .ok (.istore_n 1, 1) := by decide +kernel
theorem dJ2_getChar_3b067_32 : decode cJ2_getChar_3b067 32 = .ok (.aload_n 0, 1) := by decide +kernel
theorem dJ2_getChar_3b067_33 : decode cJ2_getChar_3b067 33 = .ok (.iload_n 1, 1) := by decide +kernel
theorem dJ2_getChar_3b067_34 : decode cJ2_getChar_3b067 34 = .ok (.iinc 1 1, 3) := by decide +kernel
theorem dJ2_getChar_3b067_37 : decode cJ2_getChar_3b067 37 = .ok (.baload, 1) := by decide +kernel
theorem dJ2_getChar_3b067_38 : decode cJ2_getChar_3b067 38 = .ok (.sipush 255, 3) := by decide +kernel
theorem dJ2_getChar_3b067_41 : decode cJ2_getChar_3b067 41 = .ok (.iand, 1) := by decide +kernel
theorem dJ2_getChar_3b067_42 : decode cJ2_getChar_3b067 42 = .ok (.getstatic 59, 3) := by decide +kernel
theorem dJ2_getChar_3b067_45 : decode cJ2_getChar_3b067 45 = .ok (.ishl, 1) := by decide +kernel
theorem dJ2_getChar_3b067_46 : decode cJ2_getChar_3b067 46 = .ok (.aload_n 0, 1) := by decide +kernel
theorem dJ2_getChar_3b067_47 : decode cJ2_getChar_3b067 47 = .ok (.iload_n 1, 1) := by decide +kernel
theorem dJ2_getChar_3b067_48 : decode cJ2_getChar_3b067 48 = .ok (.baload, 1) := by decide +kernel
theorem dJ2_getChar_3b067_49 : decode cJ2_getChar_3b067 49 = .ok (.sipush 255, 3) := by decide +kernel
theorem dJ2_getChar_3b067_52 : decode cJ2_getChar_3b067 52 = .ok (.iand, 1) := by decide +kernel
theorem dJ2_getChar_3b067_53 : decode cJ2_getChar_3b067 53 = .ok (.getstatic 63, 3) := by decide +kernel
theorem dJ2_getChar_3b067_56 : decode cJ2_getChar_3b067 56 = .ok (.ishl, 1) := by decide +kernel
theorem dJ2_getChar_3b067_57 : decode cJ2_getChar_3b067 57 = .ok (.ior, 1) := by decide +kernel
theorem dJ2_getChar_3b067_58 : decode cJ2_getChar_3b067 58 = .ok (.i2c, 1) := by decide +kernel
theorem dJ2_getChar_3b067_59 : decode cJ2_getChar_3b067 59 = .ok (.ireturn, 1) := by decide +kernel
theorem dJ2_length_9d52b_0 : decode cJ2_length_9d52b 0 = .ok (.aload_n 0, 1) := by decide +kernel
theorem dJ2_length_9d52b_1 : decode cJ2_length_9d52b 1 = .ok (.arraylength, 1) := by decide +kernel
theorem dJ2_length_9d52b_2 : decode cJ2_length_9d52b 2 = .ok (.iconst 1, 1) := by decide +kernel
theorem dJ2_length_9d52b_3 : decode cJ2_length_9d52b 3 = .ok (.ishr, 1) := by decide +kernel
theorem dJ2_length_9d52b_4 : decode cJ2_length_9d52b 4 = .ok (.ireturn, 1) := by decide +kernel
theorem dJ2_coderFromArrayLen_85cad_0 : decode cJ2_coderFromArrayLen_85cad 0 = .ok (.iload_n 1, 1) := by decide +kernel
theorem dJ2_coderFromArrayLen_85cad_1 : decode cJ2_coderFromArrayLen_85cad 1 = .ok (.aload_n 0, 1) := by decide +kernel
theorem dJ2_coderFromArrayLen_85cad_2 : decode cJ2_coderFromArrayLen_85cad 2 = .ok (.arraylength, 1) := by decide +kernel
theorem dJ2_coderFromArrayLen_85cad_3 : decode cJ2_coderFromArrayLen_85cad 3 = .ok (.isub, 1) := by decide +kernel
theorem dJ2_coderFromArrayLen_85cad_4 : decode cJ2_coderFromArrayLen_85cad 4 = .ok (.bipush 31, 2) := by decide +kernel
theorem dJ2_coderFromArrayLen_85cad_6 : decode cJ2_coderFromArrayLen_85cad 6 = .ok (.iushr, 1) := by decide +kernel
theorem dJ2_coderFromArrayLen_85cad_7 : decode cJ2_coderFromArrayLen_85cad 7 = .ok (.i2b, 1) := by decide +kernel
theorem dJ2_coderFromArrayLen_85cad_8 : decode cJ2_coderFromArrayLen_85cad 8 = .ok (.ireturn, 1) := by decide +kernel
theorem dJ2_compress_39247_0 : decode cJ2_compress_39247 0 = .ok (.iload_n 2, 1) := by decide +kernel
theorem dJ2_compress_39247_1 : decode cJ2_compress_39247 1 = .ok (.newarray .byte, 2) := by decide +kernel
theorem dJ2_compress_39247_3 : decode cJ2_compress_39247 3 = .ok (.astore_n 3, 1) := by decide +kernel
theorem dJ2_compress_39247_4 : decode cJ2_compress_39247 4 = .ok (.aload_n 0, 1) := by decide +kernel
theorem dJ2_compress_39247_5 : decode cJ2_compress_39247 5 = .ok (.iload_n 1, 1) := by decide +kernel
theorem dJ2_compress_39247_6 : decode cJ2_compress_39247 6 = .ok (.aload_n 3, 1) := by decide +kernel
theorem dJ2_compress_39247_7 : decode cJ2_compress_39247 7 = .ok (.iconst 0, 1) := by decide +kernel
theorem dJ2_compress_39247_8 : decode cJ2_compress_39247 8 = .ok (.iload_n 2, 1) := by decide +kernel
theorem dJ2_compress_39247_9 : decode cJ2_compress_39247 9 = .ok (.invokestatic 123, 3) := by decide +kernel
theorem dJ2_compress_39247_12 : decode cJ2_compress_39247 12 = .ok (.istore 4, 2) := by decide +kernel
theorem dJ2_compress_39247_14 : decode cJ2_compress_39247 14 = .ok (.iload 4, 2) := by decide +kernel
theorem dJ2_compress_39247_16 : decode cJ2_compress_39247 16 = .ok (.iload_n 2, 1) := by decide +kernel
theorem dJ2_compress_39247_17 : decode cJ2_compress_39247 17 = .ok (.if_icmp .eq 47, 3) := by decide +kernel
theorem dJ2_compress_39247_20 : decode cJ2_compress_39247 20 = .ok (.aload_n 0, 1) := by decide +kernel
theorem dJ2_compress_39247_21 : decode cJ2_compress_39247 21 = .ok (.iload_n 1, 1) := by decide +kernel
theorem dJ2_compress_39247_22 : decode cJ2_compress_39247 22 = .ok (.iconst 1, 1) := by decide +kernel
theorem dJ2_compress_39247_23 : decode cJ2_compress_39247 23 = .ok (.ishl, 1) := by decide +kernel
theorem dJ2_compress_39247_24 : decode cJ2_compress_39247 24 = .ok (.iload_n 1, 1) := by decide +kernel
theorem dJ2_compress_39247_25 : decode cJ2_compress_39247 25 = .ok (.iload_n 2, 1) := by decide +kernel
theorem dJ2_compress_39247_26 : decode cJ2_compress_39247 26 = .ok (.iadd, 1) := by decide +kernel
theorem dJ2_compress_39247_27 : decode cJ2_compress_39247 27 = .ok (.invokestatic 11, 3) := by decide +kernel
theorem dJ2_compress_39247_30 : decode cJ2_compress_39247 30 = .ok (.invokestatic 126, 3) := by decide +kernel
theorem dJ2_compress_39247_33 : decode cJ2_compress_39247 33 = .ok (.astore 5, 2) := by decide +kernel
theorem dJ2_compress_39247_35 : decode cJ2_compress_39247 35 = .ok (.aload 5, 2) := by decide +kernel
theorem dJ2_compress_39247_37 : decode cJ2_compress_39247 37 = .ok (.iload 4, 2) := by decide +kernel
theorem dJ2_compress_39247_39 : decode cJ2_compress_39247 39 = .ok (.invokestatic 71, 3) := by decide +kernel
theorem dJ2_compress_39247_42 : decode cJ2_compress_39247 42 = .ok (.sipush 255, 3) := by decide +kernel
theorem dJ2_compress_39247_45 : decode cJ2_compress_39247 45 = .ok (.if_icmp .gt 16, 3) := by decide +kernel
theorem dJ2_compress_39247_48 : decode cJ2_compress_39247 48 = .ok (.aload 5, 2) := by decide +kernel
theorem dJ2_compress_39247_50 : decode cJ2_compress_39247 50 = .ok (.iconst 0, 1) := by decide +kernel
theorem dJ2_compress_39247_51 : decode cJ2_compress_39247 51 = .ok (.aload_n 3, 1) := by decide +kernel
theorem dJ2_compress_39247_52 : decode cJ2_compress_39247 52 = .ok (.iconst 0, 1) := by decide +kernel
theorem dJ2_compress_39247_53 : decode cJ2_compress_39247 53 = .ok (.iload_n 2, 1) := by decide +kernel
theorem dJ2_compress_39247_54 : decode cJ2_compress_39247 54 = .ok (.invokestatic 123, 3) := by decide +kernel
theorem dJ2_compress_39247_57 : decode cJ2_compress_39247 57 = .ok (.iload_n 2, 1) := by decide +kernel
theorem dJ2_compress_39247_58 : decode cJ2_compress_39247 58 = .ok (.if_icmp .eq 6, 3) := by decide +kernel
theorem dJ2_compress_39247_61 : decode cJ2_compress_39247 61 = .ok (.aload 5, 2) := by decide +kernel
theorem dJ2_compress_39247_63 : decode cJ2_compress_39247 63 = .ok (.areturn, 1) := by decide +kernel
theorem dJ2_compress_39247_64 : decode cJ2_compress_39247 64 = .ok (.aload_n 3, 1) := by decide +kernel
theorem dJ2_compress_39247_65 : decode cJ2_compress_39247 65 = .ok (.areturn, 1) := by decide +kernel
theorem dJ2_compress_5af95_0 : decode cJ2_compress_5af95 0 = .ok (.iload_n 1, 1) := by decide +kernel
theorem dJ2_compress_5af95_1 : decode cJ2_compress_5af95 1 = .ok (.iload 4, 2) := by decide +kernel
theorem dJ2_compress_5af95_3 : decode cJ2_compress_5af95 3 = .ok (.aload_n 0, 1) := by decide +kernel
theorem dJ2_compress_5af95_4 : decode cJ2_compress_5af95 4 = .ok (.invokestatic 173, 3) := by decide +kernel
theorem dJ2_compress_5af95_7 : decode cJ2_compress_5af95 7 = .ok (.iconst 0, 1) := by decide +kernel
theorem dJ2_compress_5af95_8 : decode cJ2_compress_5af95 8 = .ok (.istore 5, 2) := by decide +kernel
theorem dJ2_compress_5af95_10 : decode cJ2_compress_5af95 10 = .ok (.iload 5, 2) := by decide +kernel
theorem dJ2_compress_5af95_12 : decode cJ2_compress_5af95 12 = .ok (.iload 4, 2) := by decide +kernel
theorem dJ2_compress_5af95_14 : decode cJ2_compress_5af95 14 = .ok (.if_icmp .ge 39, 3) := by decide +kernel
theorem dJ2_compress_5af95_17 : decode cJ2_compress_5af95 17 = .ok (.aload_n 0, 1) := by decide +kernel
theorem dJ2_compress_5af95_18 : decode cJ2_compress_5af95 18 = .ok (.iload_n 1, 1) := by decide +kernel
theorem dJ2_compress_5af95_19 : decode cJ2_compress_5af95 19 = .ok (.invokestatic 71, 3) := by decide +kernel
theorem dJ2_compress_5af95_22 : decode cJ2_compress_5af95 22 = .ok (.istore 6, 2) := by decide +kernel
theorem dJ2_compress_5af95_24 : decode cJ2_compress_5af95 24 = .ok (.iload 6, 2) := by decide +kernel
theorem dJ2_compress_5af95_26 : decode cJ2_compress_5af95 26 = .ok (.sipush 255, 3) := by decide +kernel
theorem dJ2_compress_5af95_29 : decode cJ2_compress_5af95 29 = .ok (.if_icmp .le 6, 3) := by decide +kernel
theorem dJ2_compress_5af95_32 : decode cJ2_compress_5af95 32 = .ok (.iload 5, 2) := by decide +kernel
theorem dJ2_compress_5af95_34 : decode cJ2_compress_5af95 34 = .ok (.ireturn, 1) := by decide +kernel
theorem dJ2_compress_5af95_35 : decode cJ2_compress_5af95 35 = .ok (.aload_n 2, 1) := by decide +kernel
theorem dJ2_compress_5af95_36 : decode cJ2_compress_5af95 36 = .ok (.iload_n 3, 1) := by decide +kernel
theorem dJ2_compress_5af95_37 : decode cJ2_compress_5af95 37 = .ok (.iload 6, 2) := by decide +kernel
theorem dJ2_compress_5af95_39 : decode cJ2_compress_5af95 39 = .ok (.i2b, 1) := by decide +kernel
theorem dJ2_compress_5af95_40 : decode cJ2_compress_5af95 40 = .ok (.bastore, 1) := by decide +kernel
theorem dJ2_compress_5af95_41 : decode cJ2_compress_5af95 41 = .ok (.iinc 1 1, 3) := by decide +kernel
theorem dJ2_compress_5af95_44 : decode cJ2_compress_5af95 44 = .ok (.iinc 3 1, 3) := by decide +kernel
theorem dJ2_compress_5af95_47 : decode cJ2_compress_5af95 47 = .ok (.iinc 5 1, 3) := by decide +kernel
theorem dJ2_compress_5af95_50 : decode cJ2_compress_5af95 50 = .ok (.goto (-40), 3) := by decide +kernel
theorem dJ2_compress_5af95_53 : decode cJ2_compress_5af95 53 = .ok (.iload 4, 2) := by decide +kernel
theorem dJ2_compress_5af95_55 : decode cJ2_compress_5af95 55 = .ok (.ireturn, 1) := by decide +kernel
theorem dJ2_putCharSB_b72d1_0 : decode cJ2_putCharSB_b72d1 0 = .ok (.iload_n 1, 1) := by decide +kernel
theorem dJ2_putCharSB_b72d1_1 : decode cJ2_putCharSB_b72d1 1 = .ok (.aload_n 0, 1) := by decide +kernel
theorem dJ2_putCharSB_b72d1_2 : decode cJ2_putCharSB_b72d1 2 = .ok (.invokestatic 67, 3) := by decide +kernel
theorem dJ2_putCharSB_b72d1_5 : decode cJ2_putCharSB_b72d1 5 = .ok (.aload_n 0, 1) := by decide +kernel
theorem dJ2_putCharSB_b72d1_6 : decode cJ2_putCharSB_b72d1 6 = .ok (.iload_n 1, 1) := by decide +kernel
theorem dJ2_putCharSB_b72d1_7 : decode cJ2_putCharSB_b72d1 7 = .ok (.iload_n 2, 1) := by decide +kernel
theorem dJ2_putCharSB_b72d1_8 : decode cJ2_putCharSB_b72d1 8 = .ok (.invokestatic 111, 3) := by decide +kernel
theorem dJ2_putCharSB_b72d1_11 : decode cJ2_putCharSB_b72d1 11 = .ok (.return_, 1) := by decide +kernel
theorem dJ2_getChars_46870_0 : decode cJ2_getChars_46870 0 = .ok (.iload_n 1, 1) := by decide +kernel
theorem dJ2_getChars_46870_1 : decode cJ2_getChars_46870 1 = .ok (.iload_n 2, 1) := by decide +kernel
theorem dJ2_getChars_46870_2 : decode cJ2_getChars_46870 2 = .ok (.aload_n 3, 1) := by decide +kernel
theorem dJ2_getChars_46870_3 : decode cJ2_getChars_46870 3 = .ok (.invokestatic 96, 3) := by decide +kernel
theorem dJ2_getChars_46870_6 : decode cJ2_getChars_46870 6 = .ok (.iload_n 0, 1) := by decide +kernel
theorem dJ2_getChars_46870_7 : decode cJ2_getChars_46870 7 = .ok (.iload_n 2, 1) := by decide +kernel
theorem dJ2_getChars_46870_8 : decode cJ2_getChars_46870 8 = .ok (.aload_n 3, 1) := by decide +kernel
theorem dJ2_getChars_46870_9 : decode cJ2_getChars_46870 9 = .ok (.invokestatic 393, 3) := by decide +kernel
theorem dJ2_getChars_46870_12 : decode cJ2_getChars_46870 12 = .ok (.istore 4, 2) := by decide +kernel
theorem dJ2_getChars_46870_14 : decode cJ2_getChars_46870 14 = .ok (.getstatic 44, 3) := by decide +kernel
theorem dJ2_getChars_46870_17 : decode cJ2_getChars_46870 17 = .ok (.ifCond .ne 17, 3) := by decide +kernel
theorem dJ2_getChars_46870_20 : decode cJ2_getChars_46870 20 = .ok (.iload_n 1, 1) := by decide +kernel
theorem dJ2_getChars_46870_21 : decode cJ2_getChars_46870 21 = .ok (.iload 4, 2) := by decide +kernel
theorem dJ2_getChars_46870_23 : decode cJ2_getChars_46870 23 = .ok (.if_icmp .eq 11, 3) := by decide +kernel
theorem dJ2_getChars_46870_26 : decode cJ2_getChars_46870 26 = .ok (.new 52, 3) := by decide +kernel
theorem dJ2_getChars_46870_29 : decode cJ2_getChars_46870 29 = .ok (.dup, 1) := by decide +kernel
theorem dJ2_getChars_46870_30 : decode cJ2_getChars_46870 30 = .ok (.invokespecial 66, 3) := by decide +kernel
theorem dJ2_getChars_46870_33 : decode cJ2_getChars_46870 33 = .ok (.athrow, 1) := by decide +kernel
theorem dJ2_getChars_46870_34 : decode cJ2_getChars_46870 34 = .ok (.iload 4, 2) := by decide +kernel
theorem dJ2_getChars_46870_36 : decode cJ2_getChars_46870 36 = .ok (.ireturn, 1) := by decide +kernel
theorem dJ2_putCharsAt_cd4e5_0 : decode cJ2_putCharsAt_cd4e5 0 = .ok (.iload_n 1, 1) := by decide +kernel
theorem dJ2_putCharsAt_cd4e5_1 : decode cJ2_putCharsAt_cd4e5 1 = .ok (.iconst 4, 1) := by decide +kernel
theorem dJ2_putCharsAt_cd4e5_2 : decode cJ2_putCharsAt_cd4e5 2 = .ok (.iadd, 1) := by decide +kernel
theorem dJ2_putCharsAt_cd4e5_3 : decode cJ2_putCharsAt_cd4e5 3 = .ok (.istore 6, 2) := by decide +kernel
theorem dJ2_putCharsAt_cd4e5_5 : decode cJ2_putCharsAt_cd4e5 5 = .ok (.iload_n 1, 1) := by decide +kernel
theorem dJ2_putCharsAt_cd4e5_6 : decode cJ2_putCharsAt_cd4e5 6 = .ok (.iload 6, 2) := by decide +kernel
theorem dJ2_putCharsAt_cd4e5_8 : decode cJ2_putCharsAt_cd4e5 8 = .ok (.aload_n 0, 1) := by decide +kernel
theorem dJ2_putCharsAt_cd4e5_9 : decode cJ2_putCharsAt_cd4e5 9 = .ok (.invokestatic 96, 3) := by decide +kernel
theorem dJ2_putCharsAt_cd4e5_12 : decode cJ2_putCharsAt_cd4e5 12 = .ok (.aload_n 0, 1) := by decide +kernel
theorem dJ2_putCharsAt_cd4e5_13 : decode cJ2_putCharsAt_cd4e5 13 = .ok (.iload_n 1, 1) := by decide +kernel
theorem dJ2_putCharsAt_cd4e5_14 : decode cJ2_putCharsAt_cd4e5 14 = .ok (.iinc 1 1, 3) := by decide +kernel
theorem dJ2_putCharsAt_cd4e5_17 : decode cJ2_putCharsAt_cd4e5 17 = .ok (.iload_n 2, 1) := by decide +kernel
theorem dJ2_putCharsAt_cd4e5_18 : decode cJ2_putCharsAt_cd4e5 18 = .ok (.invokestatic 111, 3) := by decide +kernel
theorem dJ2_putCharsAt_cd4e5_21 : decode cJ2_putCharsAt_cd4e5 21 = .ok (.aload_n 0, 1) := by decide +kernel
theorem dJ2_putCharsAt_cd4e5_22 : decode cJ2_putCharsAt_cd4e5 22 = .ok (.iload_n 1, 1) := by decide +kernel
theorem dJ2_putCharsAt_cd4e5_23 : decode cJ2_putCharsAt_cd4e5 23 = .ok (.iinc 1 1, 3) := by decide +kernel
theorem dJ2_putCharsAt_cd4e5_26 : decode cJ2_putCharsAt_cd4e5 26 = .ok (.iload_n 3, 1) := by decide +kernel
theorem dJ2_putCharsAt_cd4e5_27 : decode cJ2_putCharsAt_cd4e5 27 = .ok (.invokestatic 111, 3) := by decide +kernel
theorem dJ2_putCharsAt_cd4e5_30 : decode cJ2_putCharsAt_cd4e5 30 = .ok (.aload_n 0, 1) := by decide +kernel
theorem dJ2_putCharsAt_cd4e5_31 : decode cJ2_putCharsAt_cd4e5 31 = .ok (.iload_n 1, 1) := by decide +kernel
theorem dJ2_putCharsAt_cd4e5_32 : decode cJ2_putCharsAt_cd4e5 32 = .ok (.iinc 1 1, 3) := by decide +kernel
theorem dJ2_putCharsAt_cd4e5_35 : decode cJ2_putCharsAt_cd4e5 35 = .ok (.iload 4, 2) := by decide +kernel
theorem dJ2_putCharsAt_cd4e5_37 : decode cJ2_putCharsAt_cd4e5 37 = .ok (.invokestatic 111, 3) := by decide +kernel
theorem dJ2_putCharsAt_cd4e5_40 : decode cJ2_putCharsAt_cd4e5 40 = .ok (.aload_n 0, 1) := by decide +kernel
theorem dJ2_putCharsAt_cd4e5_41 : decode cJ2_putCharsAt_cd4e5 41 = .ok (.iload_n 1, 1) := by decide +kernel
theorem dJ2_putCharsAt_cd4e5_42 : decode cJ2_putCharsAt_cd4e5 42 = .ok (.iinc 1 1, 3) := by decide +kernel
theorem dJ2_putCharsAt_cd4e5_45 : decode cJ2_putCharsAt_cd4e5 45 = .ok (.iload 5, 2) := by decide +kernel
theorem dJ2_putCharsAt_cd4e5_47 : decode cJ2_putCharsAt_cd4e5 47 = .ok (.invokestatic 111, 3) := by decide +kernel
theorem dJ2_putCharsAt_cd4e5_50 : decode cJ2_putCharsAt_cd4e5 50 = .ok (.getstatic 44, 3) := by decide +kernel
theorem dJ2_putCharsAt_cd4e5_53 : decode cJ2_putCharsAt_cd4e5 53 = .ok (.ifCond .ne 17, 3) := by decide +kernel
theorem dJ2_putCharsAt_cd4e5_56 : decode cJ2_putCharsAt_cd4e5 56 = .ok (.iload_n 1, 1) := by decide +kernel
theorem dJ2_putCharsAt_cd4e5_57 : decode cJ2_putCharsAt_cd4e5 57 = .ok (.iload 6, 2) := by decide +kernel
theorem dJ2_putCharsAt_cd4e5_59 : decode cJ2_putCharsAt_cd4e5 59 = .ok (.if_icmp .eq 11, 3) := by decide +kernel
theorem dJ2_putCharsAt_cd4e5_62 : decode cJ2_putCharsAt_cd4e5 62 = .ok (.new 52, 3) := by decide +kernel
theorem dJ2_putCharsAt_cd4e5_65 : decode cJ2_putCharsAt_cd4e5 65 = .ok (.dup, 1) := by decide +kernel
theorem dJ2_putCharsAt_cd4e5_66 : decode cJ2_putCharsAt_cd4e5 66 = .ok (.invokespecial 66, 3) := by decide +kernel
theorem dJ2_putCharsAt_cd4e5_69 : decode cJ2_putCharsAt_cd4e5 69 = .ok (.athrow, 1) := by decide +kernel
theorem dJ2_putCharsAt_cd4e5_70 : decode cJ2_putCharsAt_cd4e5 70 = .ok (.iload 6, 2) := by decide +kernel
theorem dJ2_putCharsAt_cd4e5_72 : decode cJ2_putCharsAt_cd4e5 72 = .ok (.ireturn, 1) := by decide +kernel
theorem dJ2_inflate_0e8fd_0 : decode cJ2_inflate_0e8fd 0 = .ok (.iload_n 3, 1) := by decide +kernel
theorem dJ2_inflate_0e8fd_1 : decode cJ2_inflate_0e8fd 1 = .ok (.iload 4, 2) := by decide +kernel
theorem dJ2_inflate_0e8fd_3 : decode cJ2_inflate_0e8fd 3 = .ok (.aload_n 2, 1) := by decide +kernel
theorem dJ2_inflate_0e8fd_4 : decode cJ2_inflate_0e8fd 4 = .ok (.invokestatic 173, 3) := by decide +kernel
theorem dJ2_inflate_0e8fd_7 : decode cJ2_inflate_0e8fd 7 = .ok (.iconst 0, 1) := by decide +kernel
theorem dJ2_inflate_0e8fd_8 : decode cJ2_inflate_0e8fd 8 = .ok (.istore 5, 2) := by decide +kernel
theorem dJ2_inflate_0e8fd_10 : decode cJ2_inflate_0e8fd 10 = .ok (.iload 5, 2) := by decide +kernel
theorem dJ2_inflate_0e8fd_12 : decode cJ2_inflate_0e8fd 12 = .ok (.iload 4, 2) := by decide +kernel
theorem dJ2_inflate_0e8fd_14 : decode cJ2_inflate_0e8fd 14 = .ok (.if_icmp .ge 27, 3) := by decide +kernel
theorem dJ2_inflate_0e8fd_17 : decode cJ2_inflate_0e8fd 17 = .ok (.aload_n 2, 1) := by decide +kernel
theorem dJ2_inflate_0e8fd_18 : decode cJ2_inflate_0e8fd 18 = .ok (.iload_n 3, 1) := by decide +kernel
theorem dJ2_inflate_0e8fd_19 : decode cJ2_inflate_0e8fd 19 = .ok (.iinc 3 1, 3) := by decide +kernel
theorem dJ2_inflate_0e8fd_22 : decode cJ2_inflate_0e8fd 22 = .ok (.aload_n 0, 1) := by decide +kernel
theorem dJ2_inflate_0e8fd_23 : decode cJ2_inflate_0e8fd 23 = .ok (.iload_n 1, 1) := by decide +kernel
theorem dJ2_inflate_0e8fd_24 : decode cJ2_inflate_0e8fd 24 = .ok (.iinc 1 1, 3) := by decide +kernel
theorem dJ2_inflate_0e8fd_27 : decode cJ2_inflate_0e8fd 27 = .ok (.baload, 1) := by decide +kernel
theorem dJ2_inflate_0e8fd_28 : decode cJ2_inflate_0e8fd 28 = .ok (.sipush 255, 3) := by decide +kernel
theorem dJ2_inflate_0e8fd_31 : decode cJ2_inflate_0e8fd 31 = .ok (.iand, 1) := by decide +kernel
theorem dJ2_inflate_0e8fd_32 : decode cJ2_inflate_0e8fd 32 = .ok (.invokestatic 111, 3) := by decide +kernel
theorem dJ2_inflate_0e8fd_35 : decode cJ2_inflate_0e8fd 35 = .ok (.iinc 5 1, 3) := by decide +kernel
theorem dJ2_inflate_0e8fd_38 : decode cJ2_inflate_0e8fd 38 = .ok (.goto (-28), 3) := by decide +kernel
theorem dJ2_inflate_0e8fd_41 : decode cJ2_inflate_0e8fd 41 = .ok (.return_, 1) := by decide +kernel
theorem dJ2_getChars_ba4f3_0 : decode cJ2_getChars_ba4f3 0 = .ok (.iload_n 1, 1) := by decide +kernel
theorem dJ2_getChars_ba4f3_1 : decode cJ2_getChars_ba4f3 1 = .ok (.istore 5, 2) := by decide +kernel
theorem dJ2_getChars_ba4f3_3 : decode cJ2_getChars_ba4f3 3 = .ok (.iload_n 0, 1) := by decide +kernel
theorem dJ2_getChars_ba4f3_4 : decode cJ2_getChars_ba4f3 4 = .ok (.ifCond .ge 7, 3) := by decide +kernel
theorem dJ2_getChars_ba4f3_7 : decode cJ2_getChars_ba4f3 7 = .ok (.iconst 1, 1) := by decide +kernel
theorem dJ2_getChars_ba4f3_8 : decode cJ2_getChars_ba4f3 8 = .ok (.goto 4, 3) := by decide +kernel
theorem dJ2_getChars_ba4f3_11 : decode cJ2_getChars_ba4f3 11 = .ok (.iconst 0, 1) := by decide +kernel
theorem dJ2_getChars_ba4f3_12 : decode cJ2_getChars_ba4f3 12 = .ok (.istore 6, 2) := by decide +kernel
theorem dJ2_getChars_ba4f3_14 : decode cJ2_getChars_ba4f3 14 = .ok (.iload 6, 2) := by decide +kernel
theorem dJ2_getChars_ba4f3_16 : decode cJ2_getChars_ba4f3 16 = .ok (.ifCond .ne 6, 3) := by decide +kernel
theorem dJ2_getChars_ba4f3_19 : decode cJ2_getChars_ba4f3 19 = .ok (.iload_n 0, 1) := by decide +kernel
theorem dJ2_getChars_ba4f3_20 : decode cJ2_getChars_ba4f3 20 = .ok (.ineg, 1) := by decide +kernel
theorem dJ2_getChars_ba4f3_21 : decode cJ2_getChars_ba4f3 21 = .ok (.istore_n 0, 1) := by decide +kernel
theorem dJ2_getChars_ba4f3_22 : decode cJ2_getChars_ba4f3 22 = .ok (.iload_n 0, 1) := by decide +kernel
theorem dJ2_getChars_ba4f3_23 : decode cJ2_getChars_ba4f3 23 = .ok (.bipush (-100), 2) := by decide +kernel
theorem dJ2_getChars_ba4f3_25 : decode cJ2_getChars_ba4f3 25 = .ok (.if_icmp .gt 51, 3) := by decide +kernel
theorem dJ2_getChars_ba4f3_28 : decode cJ2_getChars_ba4f3 28 = .ok (.iload_n 0, 1) := by decide +kernel
theorem dJ2_getChars_ba4f3_29 : decode cJ2_getChars_ba4f3 29 = .ok (.bipush 100, 2) := by decide +kernel
theorem dJ2_getChars_ba4f3_31 : decode cJ2_getChars_ba4f3 31 = .ok (.idiv, 1) := by decide +kernel
theorem dJ2_getChars_ba4f3_32 : decode cJ2_getChars_ba4f3 32 = .ok (.istore_n 3, 1) := by decide +kernel
theorem dJ2_getChars_ba4f3_33 : decode cJ2_getChars_ba4f3 33 = .ok (.iload_n 3, 1) := by decide +kernel
theorem dJ2_getChars_ba4f3_34 : decode cJ2_getChars_ba4f3 34 = .ok (.bipush 100, 2) := by decide +kernel
theorem dJ2_getChars_ba4f3_36 : decode cJ2_getChars_ba4f3 36 = .ok (.imul, 1) := by decide +kernel
theorem dJ2_getChars_ba4f3_37 : decode cJ2_getChars_ba4f3 37 = .ok (.iload_n 0, 1) := by decide +kernel
theorem dJ2_getChars_ba4f3_38 : decode cJ2_getChars_ba4f3 38 = .ok (.isub, 1) := by decide +kernel
theorem dJ2_getChars_ba4f3_39 : decode cJ2_getChars_ba4f3 39 = .ok (.istore 4, 2) := by decide +kernel
theorem dJ2_getChars_ba4f3_41 : decode cJ2_getChars_ba4f3 41 = .ok (.iload_n 3, 1) := by decide +kernel
theorem dJ2_getChars_ba4f3_42 : decode cJ2_getChars_ba4f3 42 = .ok (.istore_n 0, 1) := by decide +kernel
theorem dJ2_getChars_ba4f3_43 : decode cJ2_getChars_ba4f3 43 = .ok (.aload_n 2, 1) := by decide +kernel
theorem dJ2_getChars_ba4f3_44 : decode cJ2_getChars_ba4f3 44 = .ok (.iinc 5 (-1), 3) := by decide +kernel
theorem dJ2_getChars_ba4f3_47 : decode cJ2_getChars_ba4f3 47 = .ok (.iload 5, 2) := by decide +kernel
theorem dJ2_getChars_ba4f3_49 : decode cJ2_getChars_ba4f3 49 = .ok (.getstatic 403, 3) := by decide +kernel
theorem dJ2_getChars_ba4f3_52 : decode cJ2_getChars_ba4f3 52 = .ok (.iload 4, 2) := by decide +kernel
theorem dJ2_getChars_ba4f3_54 : decode cJ2_getChars_ba4f3 54 = .ok (.baload, 1) := by decide +kernel
theorem dJ2_getChars_ba4f3_55 : decode cJ2_getChars_ba4f3 55 = .ok (.invokestatic 111, 3) := by decide +kernel
theorem dJ2_getChars_ba4f3_58 : decode cJ2_getChars_ba4f3 58 = .ok (.aload_n 2, 1) := by decide +kernel
theorem dJ2_getChars_ba4f3_59 : decode cJ2_getChars_ba4f3 59 = .ok (.iinc 5 (-1), 3) := by decide +kernel
theorem dJ2_getChars_ba4f3_62 : decode cJ2_getChars_ba4f3 62 = .ok (.iload 5, 2) := by decide +kernel
theorem dJ2_getChars_ba4f3_64 : decode cJ2_getChars_ba4f3 64 = .ok (.getstatic 407, 3) := by decide +kernel
theorem dJ2_getChars_ba4f3_67 : decode cJ2_getChars_ba4f3 67 = .ok (.iload 4, 2) := by decide +kernel
theorem dJ2_getChars_ba4f3_69 : decode cJ2_getChars_ba4f3 69 = .ok (.baload, 1) := by decide +kernel
theorem dJ2_getChars_ba4f3_70 : decode cJ2_getChars_ba4f3 70 = .ok (.invokestatic 111, 3) := by decide +kernel
theorem dJ2_getChars_ba4f3_73 : decode cJ2_getChars_ba4f3 73 = .ok (.goto (-51), 3) := by decide +kernel
theorem dJ2_getChars_ba4f3_76 : decode cJ2_getChars_ba4f3 76 = .ok (.aload_n 2, 1) := by decide +kernel
theorem dJ2_getChars_ba4f3_77 : decode cJ2_getChars_ba4f3 77 = .ok (.iinc 5 (-1), 3) := by decide +kernel
theorem dJ2_getChars_ba4f3_80 : decode cJ2_getChars_ba4f3 80 = .ok (.iload 5, 2) := by decide +kernel
theorem dJ2_getChars_ba4f3_82 : decode cJ2_getChars_ba4f3 82 = .ok (.getstatic 403, 3) := by decide +kernel
theorem dJ2_getChars_ba4f3_85 : decode cJ2_getChars_ba4f3 85 = .ok (.iload_n 0, 1) := by decide +kernel
theorem dJ2_getChars_ba4f3_86 : decode cJ2_getChars_ba4f3 86 = .ok (.ineg, 1) := by decide +kernel
theorem dJ2_getChars_ba4f3_87 : decode cJ2_getChars_ba4f3 87 = .ok (.baload, 1) := by decide +kernel
theorem dJ2_getChars_ba4f3_88 : decode cJ2_getChars_ba4f3 88 = .ok (.invokestatic 111, 3) := by decide +kernel
theorem dJ2_getChars_ba4f3_91 : decode cJ2_getChars_ba4f3 91 = .ok (.iload_n 0, 1) := by decide +kernel
theorem dJ2_getChars_ba4f3_92 : decode cJ2_getChars_ba4f3 92 = .ok (.bipush (-9), 2) := by decide +kernel
theorem dJ2_getChars_ba4f3_94 : decode cJ2_getChars_ba4f3 94 = .ok (.if_icmp .ge 18, 3) := by decide +kernel
theorem dJ2_getChars_ba4f3_97 : decode cJ2_getChars_ba4f3 97 = .ok (.aload_n 2, 1) := by decide +kernel
theorem dJ2_getChars_ba4f3_98 : decode cJ2_getChars_ba4f3 98 = .ok (.iinc 5 (-1), 3) := by decide +kernel
theorem dJ2_getChars_ba4f3_101 : decode cJ2_getChars_ba4f3 101 = .ok (.iload 5, 2) := by decide +kernel
theorem dJ2_getChars_ba4f3_103 : decode cJ2_getChars_ba4f3 103 = .ok (.getstatic 407, 3) := by decide +kernel
theorem dJ2_getChars_ba4f3_106 : decode cJ2_getChars_ba4f3 106 = .ok (.iload_n 0, 1) := by decide +kernel
theorem dJ2_getChars_ba4f3_107 : decode cJ2_getChars_ba4f3 107 = .ok (.ineg, 1) := by decide +kernel
theorem dJ2_getChars_ba4f3_108 : decode cJ2_getChars_ba4f3 108 = .ok (.baload, 1) := by decide +kernel
theorem dJ2_getChars_ba4f3_109 : decode cJ2_getChars_ba4f3 109 = .ok (.invokestatic 111, 3) := by decide +kernel
theorem dJ2_getChars_ba4f3_112 : decode cJ2_getChars_ba4f3 112 = .ok (.iload 6, 2) := by decide +kernel
theorem dJ2_getChars_ba4f3_114 : decode cJ2_getChars_ba4f3 114 = .ok (.ifCond .eq 14, 3) := by decide +kernel
theorem dJ2_getChars_ba4f3_117 : decode cJ2_getChars_ba4f3 117 = .ok (.aload_n 2, 1) := by decide +kernel
theorem dJ2_getChars_ba4f3_118 : decode cJ2_getChars_ba4f3 118 = .ok (.iinc 5 (-1), 3) := by decide +kernel
theorem dJ2_getChars_ba4f3_121 : decode cJ2_getChars_ba4f3 121 = .ok (.iload 5, 2) := by decide +kernel
theorem dJ2_getChars_ba4f3_123 : decode cJ2_getChars_ba4f3 123 = .ok (.bipush 45, 2) := by decide +kernel
theorem dJ2_getChars_ba4f3_125 : decode cJ2_getChars_ba4f3 125 = .ok (.invokestatic 111, 3) := by decide +kernel
theorem dJ2_getChars_ba4f3_128 : decode cJ2_getChars_ba4f3 128 = .ok (.iload 5, 2) := by decide +kernel
theorem dJ2_getChars_ba4f3_130 : decode cJ2_getChars_ba4f3 130 = .ok (.ireturn, 1) := by decide +kernel
theorem dJ2_checkIndex_2214a_0 : decode cJ2_checkIndex_2214a 0 = .ok (.iload_n 0, 1) := by decide +kernel
theorem dJ2_checkIndex_2214a_1 : decode cJ2_checkIndex_2214a 1 = .ok (.aload_n 1, 1) := by decide +kernel
theorem dJ2_checkIndex_2214a_2 : decode cJ2_checkIndex_2214a 2 = .ok (.invokestatic 48, 3) := by decide +kernel
theorem dJ2_checkIndex_2214a_5 : decode cJ2_checkIndex_2214a 5 = .ok (.invokestatic 414, 3) := by decide +kernel
theorem dJ2_checkIndex_2214a_8 : decode cJ2_checkIndex_2214a 8 = .ok (.return_, 1) := by decide +kernel
theorem dJ2_checkBoundsBeginEnd_d044e_0 : decode cJ2_checkBoundsBeginEnd_d044e 0 = .ok (.iload_n 0, 1) := by decide +kernel
theorem dJ2_checkBoundsBeginEnd_d044e_1 : decode cJ2_checkBoundsBeginEnd_d044e 1 = .ok (.iload_n 1, 1) := by decide +kernel
theorem dJ2_checkBoundsBeginEnd_d044e_2 : decode cJ2_checkBoundsBeginEnd_d044e 2 = .ok (.aload_n 2, 1) := by decide +kernel
theorem dJ2_checkBoundsBeginEnd_d044e_3 : decode cJ2_checkBoundsBeginEnd_d044e 3 = .ok (.invokestatic 48, 3) := by decide +kernel
theorem dJ2_checkBoundsBeginEnd_d044e_6 : decode cJ2_checkBoundsBeginEnd_d044e 6 = .ok (.invokestatic 241, 3) := by decide +kernel
theorem dJ2_checkBoundsBeginEnd_d044e_9 : decode cJ2_checkBoundsBeginEnd_d044e 9 = .ok (.return_, 1) := by decide +kernel
theorem dJ2_checkBoundsOffCount_d044e_0 : decode cJ2_checkBoundsOffCount_d044e 0 = .ok (.iload_n 0, 1) := by decide +kernel
theorem dJ2_checkBoundsOffCount_d044e_1 : decode cJ2_checkBoundsOffCount_d044e 1 = .ok (.iload_n 1, 1) := by decide +kernel
theorem dJ2_checkBoundsOffCount_d044e_2 : decode cJ2_checkBoundsOffCount_d044e 2 = .ok (.aload_n 2, 1) := by decide +kernel
theorem dJ2_checkBoundsOffCount_d044e_3 : decode cJ2_checkBoundsOffCount_d044e 3 = .ok (.invokestatic 48, 3) := by decide +kernel
theorem dJ2_checkBoundsOffCount_d044e_6 : decode cJ2_checkBoundsOffCount_d044e 6 = .ok (.invokestatic 419, 3) := by decide +kernel
theorem dJ2_checkBoundsOffCount_d044e_9 : decode cJ2_checkBoundsOffCount_d044e 9 = .ok (.pop, 1) := by decide +kernel
theorem dJ2_checkBoundsOffCount_d044e_10 : decode cJ2_checkBoundsOffCount_d044e 10 = .ok (.return_, 1) := by decide +kernel
theorem dJxa1e45_init_da8c8_0 : decode cJxa1e45_init_da8c8 0 = .ok (.aload_n 0, 1) := by decide +kernel
theorem dJxa1e45_init_da8c8_1 : decode cJxa1e45_init_da8c8 1 = .ok (.invokespecial 1, 3) := by decide +kernel
theorem dJxa1e45_init_da8c8_4 : decode cJxa1e45_init_da8c8 4 = .ok (.return_, 1) := by decide +kernel
theorem dJxc12de_init_da8c8_0 : decode cJxc12de_init_da8c8 0 = .ok (.aload_n 0, 1) := by decide +kernel
theorem dJxc12de_init_da8c8_1 : decode cJxc12de_init_da8c8 1 = .ok (.invokespecial 1, 3) := by decide +kernel
theorem dJxc12de_init_da8c8_4 : decode cJxc12de_init_da8c8 4 = .ok (.aload_n 0, 1) := by decide +kernel
theorem dJxc12de_init_da8c8_5 : decode cJxc12de_init_da8c8 5 = .ok (.iconst 0, 1) := by decide +kernel
theorem dJxc12de_init_da8c8_6 : decode cJxc12de_init_da8c8 6 = .ok (.putfield 7, 3) := by decide +kernel
theorem dJxc12de_init_da8c8_9 : decode cJxc12de_init_da8c8 9 = .ok (.return_, 1) := by decide +kernel
theorem dJx35411_init_45d68_0 : decode cJx35411_init_45d68 0 = .ok (.aload_n 0, 1) := by decide +kernel
theorem dJx35411_init_45d68_1 : decode cJx35411_init_45d68 1 = .ok (.aload_n 1, 1) := by decide +kernel
theorem dJx35411_init_45d68_2 : decode cJx35411_init_45d68 2 = .ok (.putfield 1, 3) := by decide +kernel
theorem dJx35411_init_45d68_5 : decode cJx35411_init_45d68 5 = .ok (.aload_n 0, 1) := by decide +kernel
theorem dJx35411_init_45d68_6 : decode cJx35411_init_45d68 6 = .ok (.invokespecial 7, 3) := by decide +kernel
theorem dJx35411_init_45d68_9 : decode cJx35411_init_45d68 9 = .ok (.aload_n 0, 1) := by decide +kernel
theorem dJx35411_init_45d68_10 : decode cJx35411_init_45d68 10 = .ok (.iconst (-1), 1) := by decide +kernel
theorem dJx35411_init_45d68_11 : decode cJx35411_init_45d68 11 = .ok (.putfield 13, 3) := by decide +kernel
theorem dJx35411_init_45d68_14 : decode cJx35411_init_45d68 14 = .ok (.aload_n 0, 1) := by decide +kernel
theorem dJx35411_init_45d68_15 : decode cJx35411_init_45d68 15 = .ok (.aload_n 0, 1) := by decide +kernel
theorem dJx35411_init_45d68_16 : decode cJx35411_init_45d68 16 = .ok (.getfield 1, 3) := by decide +kernel
theorem dJx35411_init_45d68_19 : decode cJx35411_init_45d68 19 = .ok (.getfield 17, 3) := by decide +kernel
theorem dJx35411_init_45d68_22 : decode cJx35411_init_45d68 22 = .ok (.putfield 22, 3) := by decide +kernel
theorem dJx35411_init_45d68_25 : decode cJx35411_init_45d68 25 = .ok (.return_, 1) := by decide +kernel
theorem dJx35411_hasNext_aae02_0 : decode cJx35411_hasNext_aae02 0 = .ok (.aload_n 0, 1) := by decide +kernel
theorem dJx35411_hasNext_aae02_1 : decode cJx35411_hasNext_aae02 1 = .ok (.getfield 25, 3) := by decide +kernel
theorem dJx35411_hasNext_aae02_4 : decode cJx35411_hasNext_aae02 4 = .ok (.aload_n 0, 1) := by decide +kernel
theorem dJx35411_hasNext_aae02_5 : decode cJx35411_hasNext_aae02 5 = .ok (.getfield 1, 3) := by decide +kernel
theorem dJx35411_hasNext_aae02_8 : decode cJx35411_hasNext_aae02 8 = .ok (.getfield 28, 3) := by decide +kernel
theorem dJx35411_hasNext_aae02_11 : decode cJx35411_hasNext_aae02 11 = .ok (.if_icmp .eq 7, 3) := by decide +kernel
theorem dJx35411_hasNext_aae02_14 : decode cJx35411_hasNext_aae02 14 = .ok (.iconst 1, 1) := by decide +kernel
theorem dJx35411_hasNext_aae02_15 : decode cJx35411_hasNext_aae02 15 = .ok (.goto 4, 3) := by decide +kernel
theorem dJx35411_hasNext_aae02_18 : decode cJx35411_hasNext_aae02 18 = .ok (.iconst 0, 1) := by decide +kernel
theorem dJx35411_hasNext_aae02_19 : decode cJx35411_hasNext_aae02 19 = .ok (.ireturn, 1) := by decide +kernel
theorem dJx35411_next_0502b_0 : decode cJx35411_next_0502b 0 = .ok (.aload_n 0, 1) := by decide +kernel
theorem dJx35411_next_0502b_1 : decode cJx35411_next_0502b 1 = .ok (.invokevirtual 31, 3) := by decide +kernel
theorem dJx35411_next_0502b_4 : decode cJx35411_next_0502b 4 = .ok (.aload_n 0, 1) := by decide +kernel
theorem dJx35411_next_0502b_5 : decode cJx35411_next_0502b 5 = .ok (.getfield 25, 3) := by decide +kernel
theorem dJx35411_next_0502b_8 : decode cJx35411_next_0502b 8 = .ok (.istore_n 1, 1) := by decide +kernel
theorem dJx35411_next_0502b_9 : decode cJx35411_next_0502b 9 = .ok (.iload_n 1, 1) := by decide +kernel
theorem dJx35411_next_0502b_10 : decode cJx35411_next_0502b 10 = .ok (.aload_n 0, 1) := by decide +kernel
theorem dJx35411_next_0502b_11 : decode cJx35411_next_0502b 11 = .ok (.getfield 1, 3) := by decide +kernel
theorem dJx35411_next_0502b_14 : decode cJx35411_next_0502b 14 = .ok (.getfield 28, 3) := by decide +kernel
theorem dJx35411_next_0502b_17 : decode cJx35411_next_0502b 17 = .ok (.if_icmp .lt 11, 3) := by decide +kernel
theorem dJx35411_next_0502b_20 : decode cJx35411_next_0502b 20 = .ok (.new 34, 3) := by decide +kernel
theorem dJx35411_next_0502b_23 : decode cJx35411_next_0502b 23 = .ok (.dup, 1) := by decide +kernel
theorem dJx35411_next_0502b_24 : decode cJx35411_next_0502b 24 = .ok (.invokespecial 36, 3) := by decide +kernel
theorem dJx35411_next_0502b_27 : decode cJx35411_next_0502b 27 = .ok (.athrow, 1) := by decide +kernel
theorem dJx35411_next_0502b_28 : decode cJx35411_next_0502b 28 = .ok (.aload_n 0, 1) := by decide +kernel
theorem dJx35411_next_0502b_29 : decode cJx35411_next_0502b 29 = .ok (.getfield 1, 3) := by decide +kernel
theorem dJx35411_next_0502b_32 : decode cJx35411_next_0502b 32 = .ok (.getfield 37, 3) := by decide +kernel
theorem dJx35411_next_0502b_35 : decode cJx35411_next_0502b 35 = .ok (.astore_n 2, 1) := by decide +kernel
theorem dJx35411_next_0502b_36 : decode cJx35411_next_0502b 36 = .ok (.iload_n 1, 1) := by decide +kernel
theorem dJx35411_next_0502b_37 : decode cJx35411_next_0502b 37 = .ok (.aload_n 2, 1) := by decide +kernel
theorem dJx35411_next_0502b_38 : decode cJx35411_next_0502b 38 = .ok (.arraylength, 1) := by decide +kernel
theorem dJx35411_next_0502b_39 : decode cJx35411_next_0502b 39 = .ok (.if_icmp .lt 11, 3) := by decide +kernel
theorem dJx35411_next_0502b_42 : decode cJx35411_next_0502b 42 = .ok (.new 41, 3) := by decide +kernel
theorem dJx35411_next_0502b_45 : decode cJx35411_next_0502b 45 = .ok (.dup, 1) := by decide +kernel
theorem dJx35411_next_0502b_46 : decode cJx35411_next_0502b 46 = .ok (.invokespecial 43, 3) := by decide +kernel
theorem dJx35411_next_0502b_49 : decode cJx35411_next_0502b 49 = .ok (.athrow, 1) := by decide +kernel
theorem dJx35411_next_0502b_50 : decode cJx35411_next_0502b 50 = .ok (.aload_n 0, 1) := by decide +kernel
theorem dJx35411_next_0502b_51 : decode cJx35411_next_0502b 51 = .ok (.iload_n 1, 1) := by decide +kernel
theorem dJx35411_next_0502b_52 : decode cJx35411_next_0502b 52 = .ok (.iconst 1, 1) := by decide +kernel
theorem dJx35411_next_0502b_53 : decode cJx35411_next_0502b 53 = .ok (.iadd, 1) := by decide +kernel
theorem dJx35411_next_0502b_54 : decode cJx35411_next_0502b 54 = .ok (.putfield 25, 3) := by decide +kernel
theorem dJx35411_next_0502b_57 : decode cJx35411_next_0502b 57 = .ok (.aload_n 2, 1) := by decide +kernel
theorem dJx35411_next_0502b_58 : decode cJx35411_next_0502b 58 = .ok (.aload_n 0, 1) := by decide +kernel
theorem dJx35411_next_0502b_59 : decode cJx35411_next_0502b 59 = .ok (.iload_n 1, 1) := by decide +kernel
theorem dJx35411_next_0502b_60 : decode cJx35411_next_0502b 60 = .ok (.dup_x1, 1) := by decide +kernel
theorem dJx35411_next_0502b_61 : decode cJx35411_next_0502b 61 = .ok (.putfield 13, 3) := by decide +kernel
theorem dJx35411_next_0502b_64 : decode cJx35411_next_0502b 64 = .ok (.aaload, 1) := by decide +kernel
theorem dJx35411_next_0502b_65 : decode cJx35411_next_0502b 65 = .ok (.areturn, 1) := by decide +kernel
theorem dJx35411_checkForComodification_da8c8_0 : decode cJx35411_checkForComodification_da8c8 0 = .ok (.aload_n 0, 1) := by decide +kernel
theorem dJx35411_checkForComodification_da8c8_1 : decode cJx35411_checkForComodification_da8c8 1 = .ok (.getfield 1, 3) := by decide +kernel
theorem dJx35411_checkForComodification_da8c8_4 : decode cJx35411_checkForComodification_da8c8 4 = .ok (.getfield 17, 3) := by decide +kernel
theorem dJx35411_checkForComodification_da8c8_7 : decode cJx35411_checkForComodification_da8c8 7 = .ok (.aload_n 0, 1) := by decide +kernel
theorem dJx35411_checkForComodification_da8c8_8 : decode cJx35411_checkForComodification_da8c8 8 = .ok (.getfield 22, 3) := by decide +kernel
theorem dJx35411_checkForComodification_da8c8_11 : decode cJx35411_checkForComodification_da8c8 11 = .ok (.if_icmp .eq 11, 3) := by decide +kernel
theorem dJx35411_checkForComodification_da8c8_14 : decode cJx35411_checkForComodification_da8c8 14 = .ok (.new 41, 3) := by decide +kernel
theorem dJx35411_checkForComodification_da8c8_17 : decode cJx35411_checkForComodification_da8c8 17 = .ok (.dup, 1) := by decide +kernel
theorem dJx35411_checkForComodification_da8c8_18 : decode cJx35411_checkForComodification_da8c8 18 = .ok (.invokespecial 43, 3) := by decide +kernel
theorem dJx35411_checkForComodification_da8c8_21 : decode cJx35411_checkForComodification_da8c8 21 = .ok (.athrow, 1) := by decide +kernel
theorem dJx35411_checkForComodification_da8c8_22 : decode cJx35411_checkForComodification_da8c8 22 = .ok (.return_, 1) := by decide +kernel
theorem dJx4a65c_init_da8c8_0 : decode cJx4a65c_init_da8c8 0 = .ok (.aload_n 0, 1) := by decide +kernel
theorem dJx4a65c_init_da8c8_1 : decode cJx4a65c_init_da8c8 1 = .ok (.invokespecial 1, 3) := by decide +kernel
theorem dJx4a65c_init_da8c8_4 : decode cJx4a65c_init_da8c8 4 = .ok (.aload_n 0, 1) := by decide +kernel
theorem dJx4a65c_init_da8c8_5 : decode cJx4a65c_init_da8c8 5 = .ok (.getstatic 39, 3) := by decide +kernel
theorem dJx4a65c_init_da8c8_8 : decode cJx4a65c_init_da8c8 8 = .ok (.putfield 9, 3) := by decide +kernel
theorem dJx4a65c_init_da8c8_11 : decode cJx4a65c_init_da8c8 11 = .ok (.return_, 1) := by decide +kernel
theorem dJx4a65c_grow_92f84_0 : decode cJx4a65c_grow_92f84 0 = .ok (.aload_n 0, 1) := by decide +kernel
theorem dJx4a65c_grow_92f84_1 : decode cJx4a65c_grow_92f84 1 = .ok (.getfield 9, 3) := by decide +kernel
theorem dJx4a65c_grow_92f84_4 : decode cJx4a65c_grow_92f84 4 = .ok (.arraylength, 1) := by decide +kernel
theorem dJx4a65c_grow_92f84_5 : decode cJx4a65c_grow_92f84 5 = .ok (.istore_n 2, 1) := by decide +kernel
theorem dJx4a65c_grow_92f84_6 : decode cJx4a65c_grow_92f84 6 = .ok (.iload_n 2, 1) := by decide +kernel
theorem dJx4a65c_grow_92f84_7 : decode cJx4a65c_grow_92f84 7 = .ok (.ifCond .gt 13, 3) := by decide +kernel
theorem dJx4a65c_grow_92f84_10 : decode cJx4a65c_grow_92f84 10 = .ok (.aload_n 0, 1) := by decide +kernel
theorem dJx4a65c_grow_92f84_11 : decode cJx4a65c_grow_92f84 11 = .ok (.getfield 9, 3) := by decide +kernel
theorem dJx4a65c_grow_92f84_14 : decode cJx4a65c_grow_92f84 14 = .ok (.getstatic 39, 3) := by decide +kernel
theorem dJx4a65c_grow_92f84_17 : decode cJx4a65c_grow_92f84 17 = .ok (.if_acmp .eq 28, 3) := by decide +kernel
theorem dJx4a65c_grow_92f84_20 : decode cJx4a65c_grow_92f84 20 = .ok (.iload_n 2, 1) := by decide +kernel
theorem dJx4a65c_grow_92f84_21 : decode cJx4a65c_grow_92f84 21 = .ok (.iload_n 1, 1) := by decide +kernel
theorem dJx4a65c_grow_92f84_22 : decode cJx4a65c_grow_92f84 22 = .ok (.iload_n 2, 1) := by decide +kernel
theorem dJx4a65c_grow_92f84_23 : decode cJx4a65c_grow_92f84 23 = .ok (.isub, 1) := by decide +kernel
theorem dJx4a65c_grow_92f84_24 : decode cJx4a65c_grow_92f84 24 = .ok (.iload_n 2, 1) := by decide +kernel
theorem dJx4a65c_grow_92f84_25 : decode cJx4a65c_grow_92f84 25 = .ok (.iconst 1, 1) := by decide +kernel
theorem dJx4a65c_grow_92f84_26 : decode cJx4a65c_grow_92f84 26 = .ok (.ishr, 1) := by decide +kernel
theorem dJx4a65c_grow_92f84_27 : decode cJx4a65c_grow_92f84 27 = .ok (.invokestatic 73, 3) := by decide +kernel
theorem dJx4a65c_grow_92f84_30 : decode cJx4a65c_grow_92f84 30 = .ok (.istore_n 3, 1) := by decide +kernel
theorem dJx4a65c_grow_92f84_31 : decode cJx4a65c_grow_92f84 31 = .ok (.aload_n 0, 1) := by decide +kernel
theorem dJx4a65c_grow_92f84_32 : decode cJx4a65c_grow_92f84 32 = .ok (.aload_n 0, 1) := by decide +kernel
theorem dJx4a65c_grow_92f84_33 : decode cJx4a65c_grow_92f84 33 = .ok (.getfield 9, 3) := by decide +kernel
theorem dJx4a65c_grow_92f84_36 : decode cJx4a65c_grow_92f84 36 = .ok (.iload_n 3, 1) := by decide +kernel
theorem dJx4a65c_grow_92f84_37 : decode cJx4a65c_grow_92f84 37 = .ok (.invokestatic 66, 3) := by decide +kernel
theorem dJx4a65c_grow_92f84_40 : decode cJx4a65c_grow_92f84 40 = .ok (.dup_x1, 1) := by decide +kernel
theorem dJx4a65c_grow_92f84_41 : decode cJx4a65c_grow_92f84 41 = .ok (.putfield 9, 3) := by decide +kernel
theorem dJx4a65c_grow_92f84_44 : decode cJx4a65c_grow_92f84 44 = .ok (.areturn, 1) := by decide +kernel
theorem dJx4a65c_grow_92f84_45 : decode cJx4a65c_grow_92f84 45 = .ok (.aload_n 0, 1) := by decide +kernel
theorem dJx4a65c_grow_92f84_46 : decode cJx4a65c_grow_92f84 46 = .ok (.bipush 10, 2) := by decide +kernel
theorem dJx4a65c_grow_92f84_48 : decode cJx4a65c_grow_92f84 48 = .ok (.iload_n 1, 1) := by decide +kernel
theorem dJx4a65c_grow_92f84_49 : decode cJx4a65c_grow_92f84 49 = .ok (.invokestatic 79, 3) := by decide +kernel
theorem dJx4a65c_grow_92f84_52 : decode cJx4a65c_grow_92f84 52 = .ok (.anewarray 7, 3) := by decide +kernel
theorem dJx4a65c_grow_92f84_55 : decode cJx4a65c_grow_92f84 55 = .ok (.dup_x1, 1) := by decide +kernel
theorem dJx4a65c_grow_92f84_56 : decode cJx4a65c_grow_92f84 56 = .ok (.putfield 9, 3) := by decide +kernel
theorem dJx4a65c_grow_92f84_59 : decode cJx4a65c_grow_92f84 59 = .ok (.areturn, 1) := by decide +kernel
theorem dJx4a65c_grow_d5877_0 : decode cJx4a65c_grow_d5877 0 = .ok (.aload_n 0, 1) := by decide +kernel
theorem dJx4a65c_grow_d5877_1 : decode cJx4a65c_grow_d5877 1 = .ok (.aload_n 0, 1) := by decide +kernel
theorem dJx4a65c_grow_d5877_2 : decode cJx4a65c_grow_d5877 2 = .ok (.getfield 48, 3) := by decide +kernel
theorem dJx4a65c_grow_d5877_5 : decode cJx4a65c_grow_d5877 5 = .ok (.iconst 1, 1) := by decide +kernel
theorem dJx4a65c_grow_d5877_6 : decode cJx4a65c_grow_d5877 6 = .ok (.iadd, 1) := by decide +kernel
theorem dJx4a65c_grow_d5877_7 : decode cJx4a65c_grow_d5877 7 = .ok (.invokevirtual 69, 3) := by decide +kernel
theorem dJx4a65c_grow_d5877_10 : decode cJx4a65c_grow_d5877 10 = .ok (.areturn, 1) := by decide +kernel
theorem dJx4a65c_size_8abf5_0 : decode cJx4a65c_size_8abf5 0 = .ok (.aload_n 0, 1) := by decide +kernel
theorem dJx4a65c_size_8abf5_1 : decode cJx4a65c_size_8abf5 1 = .ok (.getfield 48, 3) := by decide +kernel
theorem dJx4a65c_size_8abf5_4 : decode cJx4a65c_size_8abf5 4 = .ok (.ireturn, 1) := by decide +kernel
theorem dJx4a65c_elementData_915e3_0 : decode cJx4a65c_elementData_915e3 0 = .ok (.aload_n 0, 1) := by decide +kernel
theorem dJx4a65c_elementData_915e3_1 : decode cJx4a65c_elementData_915e3 1 = .ok (.getfield 9, 3) := by decide +kernel
theorem dJx4a65c_elementData_915e3_4 : decode cJx4a65c_elementData_915e3 4 = .ok (.iload_n 1, 1) := by decide +kernel
theorem dJx4a65c_elementData_915e3_5 : decode cJx4a65c_elementData_915e3 5 = .ok (.aaload, 1) := by decide +kernel
theorem dJx4a65c_elementData_915e3_6 : decode cJx4a65c_elementData_915e3 6 = .ok (.areturn, 1) := by decide +kernel
theorem dJx4a65c_get_915e3_0 : decode cJx4a65c_get_915e3 0 = .ok (.iload_n 1, 1) := by decide +kernel
theorem dJx4a65c_get_915e3_1 : decode cJx4a65c_get_915e3 1 = .ok (.aload_n 0, 1) := by decide +kernel
theorem dJx4a65c_get_915e3_2 : decode cJx4a65c_get_915e3 2 = .ok (.getfield 48, 3) := by decide +kernel
theorem dJx4a65c_get_915e3_5 : decode cJx4a65c_get_915e3 5 = .ok (.invokestatic 118, 3) := by decide +kernel
theorem dJx4a65c_get_915e3_8 : decode cJx4a65c_get_915e3 8 = .ok (.pop, 1) := by decide +kernel
theorem dJx4a65c_get_915e3_9 : decode cJx4a65c_get_915e3 9 = .ok (.aload_n 0, 1) := by decide +kernel
theorem dJx4a65c_get_915e3_10 : decode cJx4a65c_get_915e3 10 = .ok (.iload_n 1, 1) := by decide +kernel
theorem dJx4a65c_get_915e3_11 : decode cJx4a65c_get_915e3 11 = .ok (.invokevirtual 123, 3) := by decide +kernel
theorem dJx4a65c_get_915e3_14 : decode cJx4a65c_get_915e3 14 = .ok (.areturn, 1) := by decide +kernel
theorem dJx4a65c_add_72be8_0 : decode cJx4a65c_add_72be8 0 = .ok (.iload_n 3, 1) := by decide +kernel
theorem dJx4a65c_add_72be8_1 : decode cJx4a65c_add_72be8 1 = .ok (.aload_n 2, 1) := by decide +kernel
theorem dJx4a65c_add_72be8_2 : decode cJx4a65c_add_72be8 2 = .ok (.arraylength, 1) := by decide +kernel
theorem dJx4a65c_add_72be8_3 : decode cJx4a65c_add_72be8 3 = .ok (.if_icmp .ne 8, 3) := by decide +kernel
theorem dJx4a65c_add_72be8_6 : decode cJx4a65c_add_72be8 6 = .ok (.aload_n 0, 1) := by decide +kernel
theorem dJx4a65c_add_72be8_7 : decode cJx4a65c_add_72be8 7 = .ok (.invokevirtual 129, 3) := by decide +kernel
theorem dJx4a65c_add_72be8_10 : decode cJx4a65c_add_72be8 10 = .ok (.astore_n 2, 1) := by decide +kernel
theorem dJx4a65c_add_72be8_11 : decode cJx4a65c_add_72be8 11 = .ok (.aload_n 2, 1) := by decide +kernel
theorem dJx4a65c_add_72be8_12 : decode cJx4a65c_add_72be8 12 = .ok (.iload_n 3, 1) := by decide +kernel
theorem dJx4a65c_add_72be8_13 : decode cJx4a65c_add_72be8 13 = .ok (.aload_n 1, 1) := by decide +kernel
theorem dJx4a65c_add_72be8_14 : decode cJx4a65c_add_72be8 14 = .ok (.aastore, 1) := by decide +kernel
theorem dJx4a65c_add_72be8_15 : decode cJx4a65c_add_72be8 15 = .ok (.aload_n 0, 1) := by decide +kernel
theorem dJx4a65c_add_72be8_16 : decode cJx4a65c_add_72be8 16 = .ok (.iload_n 3, 1) := by decide +kernel
theorem dJx4a65c_add_72be8_17 : decode cJx4a65c_add_72be8 17 = .ok (.iconst 1, 1) := by decide +kernel
theorem dJx4a65c_add_72be8_18 : decode cJx4a65c_add_72be8 18 = .ok (.iadd, 1) := by decide +kernel
theorem dJx4a65c_add_72be8_19 : decode cJx4a65c_add_72be8 19 = .ok (.putfield 48, 3) := by decide +kernel
theorem dJx4a65c_add_72be8_22 : decode cJx4a65c_add_72be8 22 = .ok (.return_, 1) := by decide +kernel
theorem dJx4a65c_add_9ea2d_0 : decode cJx4a65c_add_9ea2d 0 = .ok (.aload_n 0, 1) := by decide +kernel
theorem dJx4a65c_add_9ea2d_1 : decode cJx4a65c_add_9ea2d 1 = .ok (.dup, 1) := by decide +kernel
theorem dJx4a65c_add_9ea2d_2 : decode cJx4a65c_add_9ea2d 2 = .ok (.getfield 63, 3) := by decide +kernel
theorem dJx4a65c_add_9ea2d_5 : decode cJx4a65c_add_9ea2d 5 = .ok (.iconst 1, 1) := by decide +kernel
theorem dJx4a65c_add_9ea2d_6 : decode cJx4a65c_add_9ea2d 6 = .ok (.iadd, 1) := by decide +kernel
theorem dJx4a65c_add_9ea2d_7 : decode cJx4a65c_add_9ea2d 7 = .ok (.putfield 63, 3) := by decide +kernel
theorem dJx4a65c_add_9ea2d_10 : decode cJx4a65c_add_9ea2d 10 = .ok (.aload_n 0, 1) := by decide +kernel
theorem dJx4a65c_add_9ea2d_11 : decode cJx4a65c_add_9ea2d 11 = .ok (.aload_n 1, 1) := by decide +kernel
theorem dJx4a65c_add_9ea2d_12 : decode cJx4a65c_add_9ea2d 12 = .ok (.aload_n 0, 1) := by decide +kernel
theorem dJx4a65c_add_9ea2d_13 : decode cJx4a65c_add_9ea2d 13 = .ok (.getfield 9, 3) := by decide +kernel
theorem dJx4a65c_add_9ea2d_16 : decode cJx4a65c_add_9ea2d 16 = .ok (.aload_n 0, 1) := by decide +kernel
theorem dJx4a65c_add_9ea2d_17 : decode cJx4a65c_add_9ea2d 17 = .ok (.getfield 48, 3) := by decide +kernel
theorem dJx4a65c_add_9ea2d_20 : decode cJx4a65c_add_9ea2d 20 = .ok (.invokevirtual 131, 3) := by decide +kernel
theorem dJx4a65c_add_9ea2d_23 : decode cJx4a65c_add_9ea2d 23 = .ok (.iconst 1, 1) := by decide +kernel
theorem dJx4a65c_add_9ea2d_24 : decode cJx4a65c_add_9ea2d 24 = .ok (.ireturn, 1) := by decide +kernel
theorem dJx4a65c_remove_915e3_0 : decode cJx4a65c_remove_915e3 0 = .ok (.iload_n 1, 1) := by decide +kernel
theorem dJx4a65c_remove_915e3_1 : decode cJx4a65c_remove_915e3 1 = .ok (.aload_n 0, 1) := by decide +kernel
theorem dJx4a65c_remove_915e3_2 : decode cJx4a65c_remove_915e3 2 = .ok (.getfield 48, 3) := by decide +kernel
theorem dJx4a65c_remove_915e3_5 : decode cJx4a65c_remove_915e3 5 = .ok (.invokestatic 118, 3) := by decide +kernel
theorem dJx4a65c_remove_915e3_8 : decode cJx4a65c_remove_915e3 8 = .ok (.pop, 1) := by decide +kernel
theorem dJx4a65c_remove_915e3_9 : decode cJx4a65c_remove_915e3 9 = .ok (.aload_n 0, 1) := by decide +kernel
theorem dJx4a65c_remove_915e3_10 : decode cJx4a65c_remove_915e3 10 = .ok (.getfield 9, 3) := by decide +kernel
theorem dJx4a65c_remove_915e3_13 : decode cJx4a65c_remove_915e3 13 = .ok (.astore_n 2, 1) := by decide +kernel
theorem dJx4a65c_remove_915e3_14 : decode cJx4a65c_remove_915e3 14 = .ok (.aload_n 2, 1) := by decide +kernel
theorem dJx4a65c_remove_915e3_15 : decode cJx4a65c_remove_915e3 15 = .ok (.iload_n 1, 1) := by decide +kernel
theorem dJx4a65c_remove_915e3_16 : decode cJx4a65c_remove_915e3 16 = .ok (.aaload, 1) := by decide +kernel
theorem dJx4a65c_remove_915e3_17 : decode cJx4a65c_remove_915e3 17 = .ok (.astore_n 3, 1) := by decide +kernel
theorem dJx4a65c_remove_915e3_18 : decode cJx4a65c_remove_915e3 18 = .ok (.aload_n 0, 1) := by decide +kernel
theorem dJx4a65c_remove_915e3_19 : decode cJx4a65c_remove_915e3 19 = .ok (.aload_n 2, 1) := by decide +kernel
theorem dJx4a65c_remove_915e3_20 : decode cJx4a65c_remove_915e3 20 = .ok (.iload_n 1, 1) := by decide +kernel
theorem dJx4a65c_remove_915e3_21 : decode cJx4a65c_remove_915e3 21 = .ok (.invokevirtual 144, 3) := by decide +kernel
theorem dJx4a65c_remove_915e3_24 : decode cJx4a65c_remove_915e3 24 = .ok (.aload_n 3, 1) := by decide +kernel
theorem dJx4a65c_remove_915e3_25 : decode cJx4a65c_remove_915e3 25 = .ok (.areturn, 1) := by decide +kernel
theorem dJx4a65c_fastRemove_b59b0_0 : decode cJx4a65c_fastRemove_b59b0 0 = .ok (.aload_n 0, 1) := by decide +kernel
end
