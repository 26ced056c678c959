theorem dX0_init_0 : decode cX0_init 0 = .ok (.aload_n 0, 1) := by decide +kernel
theorem dX0_init_1 : decode cX0_init 1 = .ok (.invokespecial 3, 3) := by decide +kernel
theorem dX0_init_4 : decode cX0_init 4 = .ok (.aload_n 0, 1) := by decide +kernel
theorem dX0_init_5 : decode cX0_init 5 = .ok (.bipush 60, 2) := by decide +kernel
theorem dX0_init_7 : decode cX0_init 7 = .ok (.newarray .int, 2) := by decide +kernel
theorem dX0_init_9 : decode cX0_init 9 = .ok (.putfield 9, 3) := by decide +kernel
theorem dX0_init_12 : decode cX0_init 12 = .ok (.aload_n 0, 1) := by decide +kernel
theorem dX0_init_13 : decode cX0_init 13 = .ok (.bipush 60, 2) := by decide +kernel
theorem dX0_init_15 : decode cX0_init 15 = .ok (.newarray .int, 2) := by decide +kernel
theorem dX0_init_17 : decode cX0_init 17 = .ok (.putfield 15, 3) := by decide +kernel
theorem dX0_init_20 : decode cX0_init 20 = .ok (.aload_n 0, 1) := by decide +kernel
theorem dX0_init_21 : decode cX0_init 21 = .ok (.bipush 60, 2) := by decide +kernel
theorem dX0_init_23 : decode cX0_init 23 = .ok (.newarray .int, 2) := by decide +kernel
theorem dX0_init_25 : decode cX0_init 25 = .ok (.putfield 18, 3) := by decide +kernel
theorem dX0_init_28 : decode cX0_init 28 = .ok (.aload_n 0, 1) := by decide +kernel
theorem dX0_init_29 : decode cX0_init 29 = .ok (.bipush 6, 2) := by decide +kernel
theorem dX0_init_31 : decode cX0_init 31 = .ok (.newarray .int, 2) := by decide +kernel
theorem dX0_init_33 : decode cX0_init 33 = .ok (.putfield 21, 3) := by decide +kernel
theorem dX0_init_36 : decode cX0_init 36 = .ok (.aload_n 0, 1) := by decide +kernel
theorem dX0_init_37 : decode cX0_init 37 = .ok (.bipush 6, 2) := by decide +kernel
theorem dX0_init_39 : decode cX0_init 39 = .ok (.newarray .int, 2) := by decide +kernel
theorem dX0_init_41 : decode cX0_init 41 = .ok (.putfield 24, 3) := by decide +kernel
theorem dX0_init_44 : decode cX0_init 44 = .ok (.aload_n 0, 1) := by decide +kernel
theorem dX0_init_45 : decode cX0_init 45 = .ok (.iconst 0, 1) := by decide +kernel
theorem dX0_init_46 : decode cX0_init 46 = .ok (.putfield 27, 3) := by decide +kernel
theorem dX0_init_49 : decode cX0_init 49 = .ok (.return_, 1) := by decide +kernel
theorem dX0_add_0 : decode cX0_add 0 = .ok (.aload_n 0, 1) := by decide +kernel
theorem dX0_add_1 : decode cX0_add 1 = .ok (.getfield 27, 3) := by decide +kernel
theorem dX0_add_4 : decode cX0_add 4 = .ok (.bipush 60, 2) := by decide +kernel
theorem dX0_add_6 : decode cX0_add 6 = .ok (.if_icmp .lt 4, 3) := by decide +kernel
theorem dX0_add_9 : decode cX0_add 9 = .ok (.return_, 1) := by decide +kernel
theorem dX0_add_10 : decode cX0_add 10 = .ok (.aload_n 0, 1) := by decide +kernel
theorem dX0_add_11 : decode cX0_add 11 = .ok (.iload_n 1, 1) := by decide +kernel
theorem dX0_add_12 : decode cX0_add 12 = .ok (.invokevirtual 31, 3) := by decide +kernel
theorem dX0_add_15 : decode cX0_add 15 = .ok (.aload_n 0, 1) := by decide +kernel
theorem dX0_add_16 : decode cX0_add 16 = .ok (.getfield 9, 3) := by decide +kernel
theorem dX0_add_19 : decode cX0_add 19 = .ok (.aload_n 0, 1) := by decide +kernel
theorem dX0_add_20 : decode cX0_add 20 = .ok (.getfield 27, 3) := by decide +kernel
theorem dX0_add_23 : decode cX0_add 23 = .ok (.iload_n 1, 1) := by decide +kernel
theorem dX0_add_24 : decode cX0_add 24 = .ok (.iastore, 1) := by decide +kernel
theorem dX0_add_25 : decode cX0_add 25 = .ok (.aload_n 0, 1) := by decide +kernel
theorem dX0_add_26 : decode cX0_add 26 = .ok (.getfield 15, 3) := by decide +kernel
theorem dX0_add_29 : decode cX0_add 29 = .ok (.aload_n 0, 1) := by decide +kernel
theorem dX0_add_30 : decode cX0_add 30 = .ok (.getfield 27, 3) := by decide +kernel
theorem dX0_add_33 : decode cX0_add 33 = .ok (.iload_n 2, 1) := by decide +kernel
theorem dX0_add_34 : decode cX0_add 34 = .ok (.iastore, 1) := by decide +kernel
theorem dX0_add_35 : decode cX0_add 35 = .ok (.aload_n 0, 1) := by decide +kernel
theorem dX0_add_36 : decode cX0_add 36 = .ok (.getfield 18, 3) := by decide +kernel
theorem dX0_add_39 : decode cX0_add 39 = .ok (.aload_n 0, 1) := by decide +kernel
theorem dX0_add_40 : decode cX0_add 40 = .ok (.getfield 27, 3) := by decide +kernel
theorem dX0_add_43 : decode cX0_add 43 = .ok (.bipush 60, 2) := by decide +kernel
theorem dX0_add_45 : decode cX0_add 45 = .ok (.iastore, 1) := by decide +kernel
theorem dX0_add_46 : decode cX0_add 46 = .ok (.aload_n 0, 1) := by decide +kernel
theorem dX0_add_47 : decode cX0_add 47 = .ok (.dup, 1) := by decide +kernel
theorem dX0_add_48 : decode cX0_add 48 = .ok (.getfield 27, 3) := by decide +kernel
theorem dX0_add_51 : decode cX0_add 51 = .ok (.iconst 1, 1) := by decide +kernel
theorem dX0_add_52 : decode cX0_add 52 = .ok (.iadd, 1) := by decide +kernel
theorem dX0_add_53 : decode cX0_add 53 = .ok (.putfield 27, 3) := by decide +kernel
theorem dX0_add_56 : decode cX0_add 56 = .ok (.return_, 1) := by decide +kernel
theorem dX0_noteNext_0 : decode cX0_noteNext 0 = .ok (.aload_n 0, 1) := by decide +kernel
theorem dX0_noteNext_1 : decode cX0_noteNext 1 = .ok (.getfield 27, 3) := by decide +kernel
theorem dX0_noteNext_4 : decode cX0_noteNext 4 = .ok (.iconst 1, 1) := by decide +kernel
theorem dX0_noteNext_5 : decode cX0_noteNext 5 = .ok (.isub, 1) := by decide +kernel
theorem dX0_noteNext_6 : decode cX0_noteNext 6 = .ok (.istore_n 2, 1) := by decide +kernel
theorem dX0_noteNext_7 : decode cX0_noteNext 7 = .ok (.iload_n 2, 1) := by decide +kernel
theorem dX0_noteNext_8 : decode cX0_noteNext 8 = .ok (.ifCond .lt 30, 3) := by decide +kernel
theorem dX0_noteNext_11 : decode cX0_noteNext 11 = .ok (.aload_n 0, 1) := by decide +kernel
theorem dX0_noteNext_12 : decode cX0_noteNext 12 = .ok (.getfield 9, 3) := by decide +kernel
theorem dX0_noteNext_15 : decode cX0_noteNext 15 = .ok (.iload_n 2, 1) := by decide +kernel
theorem dX0_noteNext_16 : decode cX0_noteNext 16 = .ok (.iaload, 1) := by decide +kernel
theorem dX0_noteNext_17 : decode cX0_noteNext 17 = .ok (.iload_n 1, 1) := by decide +kernel
theorem dX0_noteNext_18 : decode cX0_noteNext 18 = .ok (.if_icmp .ne 14, 3) := by decide +kernel
theorem dX0_noteNext_21 : decode cX0_noteNext 21 = .ok (.aload_n 0, 1) := by decide +kernel
theorem dX0_noteNext_22 : decode cX0_noteNext 22 = .ok (.getfield 18, 3) := by decide +kernel
theorem dX0_noteNext_25 : decode cX0_noteNext 25 = .ok (.iload_n 2, 1) := by decide +kernel
theorem dX0_noteNext_26 : decode cX0_noteNext 26 = .ok (.aload_n 0, 1) := by decide +kernel
theorem dX0_noteNext_27 : decode cX0_noteNext 27 = .ok (.getfield 27, 3) := by decide +kernel
theorem dX0_noteNext_30 : decode cX0_noteNext 30 = .ok (.iastore, 1) := by decide +kernel
theorem dX0_noteNext_31 : decode cX0_noteNext 31 = .ok (.return_, 1) := by decide +kernel
theorem dX0_noteNext_32 : decode cX0_noteNext 32 = .ok (.iinc 2 (-1), 3) := by decide +kernel
theorem dX0_noteNext_35 : decode cX0_noteNext 35 = .ok (.goto (-28), 3) := by decide +kernel
theorem dX0_noteNext_38 : decode cX0_noteNext 38 = .ok (.return_, 1) := by decide +kernel
theorem dX0_isNumber_0 : decode cX0_isNumber 0 = .ok (.iload_n 1, 1) := by decide +kernel
theorem dX0_isNumber_1 : decode cX0_isNumber 1 = .ok (.ifCond .lt 15, 3) := by decide +kernel
theorem dX0_isNumber_4 : decode cX0_isNumber 4 = .ok (.iload_n 1, 1) := by decide +kernel
theorem dX0_isNumber_5 : decode cX0_isNumber 5 = .ok (.aload_n 0, 1) := by decide +kernel
theorem dX0_isNumber_6 : decode cX0_isNumber 6 = .ok (.getfield 27, 3) := by decide +kernel
theorem dX0_isNumber_9 : decode cX0_isNumber 9 = .ok (.if_icmp .ge 7, 3) := by decide +kernel
theorem dX0_isNumber_12 : decode cX0_isNumber 12 = .ok (.iconst 1, 1) := by decide +kernel
theorem dX0_isNumber_13 : decode cX0_isNumber 13 = .ok (.goto 4, 3) := by decide +kernel
theorem dX0_isNumber_16 : decode cX0_isNumber 16 = .ok (.iconst 0, 1) := by decide +kernel
theorem dX0_isNumber_17 : decode cX0_isNumber 17 = .ok (.ireturn, 1) := by decide +kernel
theorem dX0_countOfDepth_0 : decode cX0_countOfDepth 0 = .ok (.iconst 0, 1) := by decide +kernel
theorem dX0_countOfDepth_1 : decode cX0_countOfDepth 1 = .ok (.istore_n 2, 1) := by decide +kernel
theorem dX0_countOfDepth_2 : decode cX0_countOfDepth 2 = .ok (.iconst 0, 1) := by decide +kernel
theorem dX0_countOfDepth_3 : decode cX0_countOfDepth 3 = .ok (.istore_n 3, 1) := by decide +kernel
theorem dX0_countOfDepth_4 : decode cX0_countOfDepth 4 = .ok (.iload_n 3, 1) := by decide +kernel
theorem dX0_countOfDepth_5 : decode cX0_countOfDepth 5 = .ok (.aload_n 0, 1) := by decide +kernel
theorem dX0_countOfDepth_6 : decode cX0_countOfDepth 6 = .ok (.getfield 27, 3) := by decide +kernel
theorem dX0_countOfDepth_9 : decode cX0_countOfDepth 9 = .ok (.if_icmp .ge 22, 3) := by decide +kernel
theorem dX0_countOfDepth_12 : decode cX0_countOfDepth 12 = .ok (.aload_n 0, 1) := by decide +kernel
theorem dX0_countOfDepth_13 : decode cX0_countOfDepth 13 = .ok (.getfield 15, 3) := by decide +kernel
theorem dX0_countOfDepth_16 : decode cX0_countOfDepth 16 = .ok (.iload_n 3, 1) := by decide +kernel
theorem dX0_countOfDepth_17 : decode cX0_countOfDepth 17 = .ok (.iaload, 1) := by decide +kernel
theorem dX0_countOfDepth_18 : decode cX0_countOfDepth 18 = .ok (.iload_n 1, 1) := by decide +kernel
theorem dX0_countOfDepth_19 : decode cX0_countOfDepth 19 = .ok (.if_icmp .ne 6, 3) := by decide +kernel
theorem dX0_countOfDepth_22 : decode cX0_countOfDepth 22 = .ok (.iinc 2 1, 3) := by decide +kernel
theorem dX0_countOfDepth_25 : decode cX0_countOfDepth 25 = .ok (.iinc 3 1, 3) := by decide +kernel
theorem dX0_countOfDepth_28 : decode cX0_countOfDepth 28 = .ok (.goto (-24), 3) := by decide +kernel
theorem dX0_countOfDepth_31 : decode cX0_countOfDepth 31 = .ok (.iload_n 2, 1) := by decide +kernel
theorem dX0_countOfDepth_32 : decode cX0_countOfDepth 32 = .ok (.ireturn, 1) := by decide +kernel
theorem dX0_countOutOfReach_0 : decode cX0_countOutOfReach 0 = .ok (.iconst 0, 1) := by decide +kernel
theorem dX0_countOutOfReach_1 : decode cX0_countOutOfReach 1 = .ok (.istore_n 2, 1) := by decide +kernel
theorem dX0_countOutOfReach_2 : decode cX0_countOutOfReach 2 = .ok (.iconst 0, 1) := by decide +kernel
theorem dX0_countOutOfReach_3 : decode cX0_countOutOfReach 3 = .ok (.istore_n 3, 1) := by decide +kernel
theorem dX0_countOutOfReach_4 : decode cX0_countOutOfReach 4 = .ok (.iload_n 3, 1) := by decide +kernel
theorem dX0_countOutOfReach_5 : decode cX0_countOutOfReach 5 = .ok (.aload_n 0, 1) := by decide +kernel
theorem dX0_countOutOfReach_6 : decode cX0_countOutOfReach 6 = .ok (.getfield 27, 3) := by decide +kernel
theorem dX0_countOutOfReach_9 : decode cX0_countOutOfReach 9 = .ok (.if_icmp .ge 31, 3) := by decide +kernel
theorem dX0_countOutOfReach_12 : decode cX0_countOutOfReach 12 = .ok (.aload_n 0, 1) := by decide +kernel
theorem dX0_countOutOfReach_13 : decode cX0_countOutOfReach 13 = .ok (.getfield 15, 3) := by decide +kernel
theorem dX0_countOutOfReach_16 : decode cX0_countOutOfReach 16 = .ok (.iload_n 3, 1) := by decide +kernel
theorem dX0_countOutOfReach_17 : decode cX0_countOutOfReach 17 = .ok (.iaload, 1) := by decide +kernel
theorem dX0_countOutOfReach_18 : decode cX0_countOutOfReach 18 = .ok (.ifCond .eq 13, 3) := by decide +kernel
theorem dX0_countOutOfReach_21 : decode cX0_countOutOfReach 21 = .ok (.aload_n 0, 1) := by decide +kernel
theorem dX0_countOutOfReach_22 : decode cX0_countOutOfReach 22 = .ok (.getfield 15, 3) := by decide +kernel
theorem dX0_countOutOfReach_25 : decode cX0_countOutOfReach 25 = .ok (.iload_n 3, 1) := by decide +kernel
theorem dX0_countOutOfReach_26 : decode cX0_countOutOfReach 26 = .ok (.iaload, 1) := by decide +kernel
theorem dX0_countOutOfReach_27 : decode cX0_countOutOfReach 27 = .ok (.iload_n 1, 1) := by decide +kernel
theorem dX0_countOutOfReach_28 : decode cX0_countOutOfReach 28 = .ok (.if_icmp .le 6, 3) := by decide +kernel
theorem dX0_countOutOfReach_31 : decode cX0_countOutOfReach 31 = .ok (.iinc 2 1, 3) := by decide +kernel
theorem dX0_countOutOfReach_34 : decode cX0_countOutOfReach 34 = .ok (.iinc 3 1, 3) := by decide +kernel
theorem dX0_countOutOfReach_37 : decode cX0_countOutOfReach 37 = .ok (.goto (-33), 3) := by decide +kernel
theorem dX0_countOutOfReach_40 : decode cX0_countOutOfReach 40 = .ok (.iload_n 2, 1) := by decide +kernel
theorem dX0_countOutOfReach_41 : decode cX0_countOutOfReach 41 = .ok (.ireturn, 1) := by decide +kernel
theorem dX0_fewestMisses_0 : decode cX0_fewestMisses 0 = .ok (.iload_n 1, 1) := by decide +kernel
theorem dX0_fewestMisses_1 : decode cX0_fewestMisses 1 = .ok (.bipush 6, 2) := by decide +kernel
theorem dX0_fewestMisses_3 : decode cX0_fewestMisses 3 = .ok (.invokestatic 35, 3) := by decide +kernel
theorem dX0_fewestMisses_6 : decode cX0_fewestMisses 6 = .ok (.istore_n 2, 1) := by decide +kernel
theorem dX0_fewestMisses_7 : decode cX0_fewestMisses 7 = .ok (.iconst 0, 1) := by decide +kernel
theorem dX0_fewestMisses_8 : decode cX0_fewestMisses 8 = .ok (.istore_n 3, 1) := by decide +kernel
theorem dX0_fewestMisses_9 : decode cX0_fewestMisses 9 = .ok (.iconst 0, 1) := by decide +kernel
theorem dX0_fewestMisses_10 : decode cX0_fewestMisses 10 = .ok (.istore 4, 2) := by decide +kernel
theorem dX0_fewestMisses_12 : decode cX0_fewestMisses 12 = .ok (.iconst 0, 1) := by decide +kernel
theorem dX0_fewestMisses_13 : decode cX0_fewestMisses 13 = .ok (.istore 5, 2) := by decide +kernel
theorem dX0_fewestMisses_15 : decode cX0_fewestMisses 15 = .ok (.iload 5, 2) := by decide +kernel
theorem dX0_fewestMisses_17 : decode cX0_fewestMisses 17 = .ok (.aload_n 0, 1) := by decide +kernel
theorem dX0_fewestMisses_18 : decode cX0_fewestMisses 18 = .ok (.getfield 27, 3) := by decide +kernel
theorem dX0_fewestMisses_21 : decode cX0_fewestMisses 21 = .ok (.if_icmp .ge 85, 3) := by decide +kernel
theorem dX0_fewestMisses_24 : decode cX0_fewestMisses 24 = .ok (.aload_n 0, 1) := by decide +kernel
theorem dX0_fewestMisses_25 : decode cX0_fewestMisses 25 = .ok (.aload_n 0, 1) := by decide +kernel
theorem dX0_fewestMisses_26 : decode cX0_fewestMisses 26 = .ok (.getfield 9, 3) := by decide +kernel
theorem dX0_fewestMisses_29 : decode cX0_fewestMisses 29 = .ok (.iload 5, 2) := by decide +kernel
theorem dX0_fewestMisses_31 : decode cX0_fewestMisses 31 = .ok (.iaload, 1) := by decide +kernel
theorem dX0_fewestMisses_32 : decode cX0_fewestMisses 32 = .ok (.iload_n 3, 1) := by decide +kernel
theorem dX0_fewestMisses_33 : decode cX0_fewestMisses 33 = .ok (.invokevirtual 41, 3) := by decide +kernel
theorem dX0_fewestMisses_36 : decode cX0_fewestMisses 36 = .ok (.istore 6, 2) := by decide +kernel
theorem dX0_fewestMisses_38 : decode cX0_fewestMisses 38 = .ok (.iload 6, 2) := by decide +kernel
theorem dX0_fewestMisses_40 : decode cX0_fewestMisses 40 = .ok (.iconst (-1), 1) := by decide +kernel
theorem dX0_fewestMisses_41 : decode cX0_fewestMisses 41 = .ok (.if_icmp .ne 45, 3) := by decide +kernel
theorem dX0_fewestMisses_44 : decode cX0_fewestMisses 44 = .ok (.iinc 4 1, 3) := by decide +kernel
theorem dX0_fewestMisses_47 : decode cX0_fewestMisses 47 = .ok (.iload_n 3, 1) := by decide +kernel
theorem dX0_fewestMisses_48 : decode cX0_fewestMisses 48 = .ok (.iload_n 2, 1) := by decide +kernel
theorem dX0_fewestMisses_49 : decode cX0_fewestMisses 49 = .ok (.if_icmp .ge 7, 3) := by decide +kernel
theorem dX0_fewestMisses_52 : decode cX0_fewestMisses 52 = .ok (.iload_n 3, 1) := by decide +kernel
theorem dX0_fewestMisses_53 : decode cX0_fewestMisses 53 = .ok (.goto 8, 3) := by decide +kernel
theorem dX0_fewestMisses_56 : decode cX0_fewestMisses 56 = .ok (.aload_n 0, 1) := by decide +kernel
theorem dX0_fewestMisses_57 : decode cX0_fewestMisses 57 = .ok (.iload_n 3, 1) := by decide +kernel
theorem dX0_fewestMisses_58 : decode cX0_fewestMisses 58 = .ok (.invokevirtual 44, 3) := by decide +kernel
theorem dX0_fewestMisses_61 : decode cX0_fewestMisses 61 = .ok (.istore 6, 2) := by decide +kernel
theorem dX0_fewestMisses_63 : decode cX0_fewestMisses 63 = .ok (.iload_n 3, 1) := by decide +kernel
theorem dX0_fewestMisses_64 : decode cX0_fewestMisses 64 = .ok (.iload 6, 2) := by decide +kernel
theorem dX0_fewestMisses_66 : decode cX0_fewestMisses 66 = .ok (.iconst 1, 1) := by decide +kernel
theorem dX0_fewestMisses_67 : decode cX0_fewestMisses 67 = .ok (.iadd, 1) := by decide +kernel
theorem dX0_fewestMisses_68 : decode cX0_fewestMisses 68 = .ok (.invokestatic 48, 3) := by decide +kernel
theorem dX0_fewestMisses_71 : decode cX0_fewestMisses 71 = .ok (.istore_n 3, 1) := by decide +kernel
theorem dX0_fewestMisses_72 : decode cX0_fewestMisses 72 = .ok (.aload_n 0, 1) := by decide +kernel
theorem dX0_fewestMisses_73 : decode cX0_fewestMisses 73 = .ok (.getfield 21, 3) := by decide +kernel
theorem dX0_fewestMisses_76 : decode cX0_fewestMisses 76 = .ok (.iload 6, 2) := by decide +kernel
theorem dX0_fewestMisses_78 : decode cX0_fewestMisses 78 = .ok (.aload_n 0, 1) := by decide +kernel
theorem dX0_fewestMisses_79 : decode cX0_fewestMisses 79 = .ok (.getfield 9, 3) := by decide +kernel
theorem dX0_fewestMisses_82 : decode cX0_fewestMisses 82 = .ok (.iload 5, 2) := by decide +kernel
theorem dX0_fewestMisses_84 : decode cX0_fewestMisses 84 = .ok (.iaload, 1) := by decide +kernel
theorem dX0_fewestMisses_85 : decode cX0_fewestMisses 85 = .ok (.iastore, 1) := by decide +kernel
theorem dX0_fewestMisses_86 : decode cX0_fewestMisses 86 = .ok (.aload_n 0, 1) := by decide +kernel
theorem dX0_fewestMisses_87 : decode cX0_fewestMisses 87 = .ok (.getfield 24, 3) := by decide +kernel
theorem dX0_fewestMisses_90 : decode cX0_fewestMisses 90 = .ok (.iload 6, 2) := by decide +kernel
theorem dX0_fewestMisses_92 : decode cX0_fewestMisses 92 = .ok (.aload_n 0, 1) := by decide +kernel
theorem dX0_fewestMisses_93 : decode cX0_fewestMisses 93 = .ok (.getfield 18, 3) := by decide +kernel
theorem dX0_fewestMisses_96 : decode cX0_fewestMisses 96 = .ok (.iload 5, 2) := by decide +kernel
theorem dX0_fewestMisses_98 : decode cX0_fewestMisses 98 = .ok (.iaload, 1) := by decide +kernel
theorem dX0_fewestMisses_99 : decode cX0_fewestMisses 99 = .ok (.iastore, 1) := by decide +kernel
theorem dX0_fewestMisses_100 : decode cX0_fewestMisses 100 = .ok (.iinc 5 1, 3) := by decide +kernel
theorem dX0_fewestMisses_103 : decode cX0_fewestMisses 103 = .ok (.goto (-88), 3) := by decide +kernel
theorem dX0_fewestMisses_106 : decode cX0_fewestMisses 106 = .ok (.iload 4, 2) := by decide +kernel
theorem dX0_fewestMisses_108 : decode cX0_fewestMisses 108 = .ok (.ireturn, 1) := by decide +kernel
theorem dX0_heldPlace_0 : decode cX0_heldPlace 0 = .ok (.iconst 0, 1) := by decide +kernel
theorem dX0_heldPlace_1 : decode cX0_heldPlace 1 = .ok (.istore_n 3, 1) := by decide +kernel
theorem dX0_heldPlace_2 : decode cX0_heldPlace 2 = .ok (.iload_n 3, 1) := by decide +kernel
theorem dX0_heldPlace_3 : decode cX0_heldPlace 3 = .ok (.iload_n 2, 1) := by decide +kernel
theorem dX0_heldPlace_4 : decode cX0_heldPlace 4 = .ok (.if_icmp .ge 21, 3) := by decide +kernel
theorem dX0_heldPlace_7 : decode cX0_heldPlace 7 = .ok (.aload_n 0, 1) := by decide +kernel
theorem dX0_heldPlace_8 : decode cX0_heldPlace 8 = .ok (.getfield 21, 3) := by decide +kernel
theorem dX0_heldPlace_11 : decode cX0_heldPlace 11 = .ok (.iload_n 3, 1) := by decide +kernel
theorem dX0_heldPlace_12 : decode cX0_heldPlace 12 = .ok (.iaload, 1) := by decide +kernel
theorem dX0_heldPlace_13 : decode cX0_heldPlace 13 = .ok (.iload_n 1, 1) := by decide +kernel
theorem dX0_heldPlace_14 : decode cX0_heldPlace 14 = .ok (.if_icmp .ne 5, 3) := by decide +kernel
theorem dX0_heldPlace_17 : decode cX0_heldPlace 17 = .ok (.iload_n 3, 1) := by decide +kernel
theorem dX0_heldPlace_18 : decode cX0_heldPlace 18 = .ok (.ireturn, 1) := by decide +kernel
theorem dX0_heldPlace_19 : decode cX0_heldPlace 19 = .ok (.iinc 3 1, 3) := by decide +kernel
theorem dX0_heldPlace_22 : decode cX0_heldPlace 22 = .ok (.goto (-20), 3) := by decide +kernel
theorem dX0_heldPlace_25 : decode cX0_heldPlace 25 = .ok (.iconst (-1), 1) := by decide +kernel
theorem dX0_heldPlace_26 : decode cX0_heldPlace 26 = .ok (.ireturn, 1) := by decide +kernel
theorem dX0_farthestPlace_0 : decode cX0_farthestPlace 0 = .ok (.iconst 0, 1) := by decide +kernel
theorem dX0_farthestPlace_1 : decode cX0_farthestPlace 1 = .ok (.istore_n 2, 1) := by decide +kernel
theorem dX0_farthestPlace_2 : decode cX0_farthestPlace 2 = .ok (.iconst 1, 1) := by decide +kernel
theorem dX0_farthestPlace_3 : decode cX0_farthestPlace 3 = .ok (.istore_n 3, 1) := by decide +kernel
theorem dX0_farthestPlace_4 : decode cX0_farthestPlace 4 = .ok (.iload_n 3, 1) := by decide +kernel
theorem dX0_farthestPlace_5 : decode cX0_farthestPlace 5 = .ok (.iload_n 1, 1) := by decide +kernel
theorem dX0_farthestPlace_6 : decode cX0_farthestPlace 6 = .ok (.if_icmp .ge 26, 3) := by decide +kernel
theorem dX0_farthestPlace_9 : decode cX0_farthestPlace 9 = .ok (.aload_n 0, 1) := by decide +kernel
theorem dX0_farthestPlace_10 : decode cX0_farthestPlace 10 = .ok (.getfield 24, 3) := by decide +kernel
theorem dX0_farthestPlace_13 : decode cX0_farthestPlace 13 = .ok (.iload_n 3, 1) := by decide +kernel
theorem dX0_farthestPlace_14 : decode cX0_farthestPlace 14 = .ok (.iaload, 1) := by decide +kernel
theorem dX0_farthestPlace_15 : decode cX0_farthestPlace 15 = .ok (.aload_n 0, 1) := by decide +kernel
theorem dX0_farthestPlace_16 : decode cX0_farthestPlace 16 = .ok (.getfield 24, 3) := by decide +kernel
theorem dX0_farthestPlace_19 : decode cX0_farthestPlace 19 = .ok (.iload_n 2, 1) := by decide +kernel
theorem dX0_farthestPlace_20 : decode cX0_farthestPlace 20 = .ok (.iaload, 1) := by decide +kernel
theorem dX0_farthestPlace_21 : decode cX0_farthestPlace 21 = .ok (.if_icmp .le 5, 3) := by decide +kernel
theorem dX0_farthestPlace_24 : decode cX0_farthestPlace 24 = .ok (.iload_n 3, 1) := by decide +kernel
theorem dX0_farthestPlace_25 : decode cX0_farthestPlace 25 = .ok (.istore_n 2, 1) := by decide +kernel
theorem dX0_farthestPlace_26 : decode cX0_farthestPlace 26 = .ok (.iinc 3 1, 3) := by decide +kernel
theorem dX0_farthestPlace_29 : decode cX0_farthestPlace 29 = .ok (.goto (-25), 3) := by decide +kernel
theorem dX0_farthestPlace_32 : decode cX0_farthestPlace 32 = .ok (.iload_n 2, 1) := by decide +kernel
theorem dX0_farthestPlace_33 : decode cX0_farthestPlace 33 = .ok (.ireturn, 1) := by decide +kernel
theorem dX1_init_0 : decode cX1_init 0 = .ok (.aload_n 0, 1) := by decide +kernel
theorem dX1_init_1 : decode cX1_init 1 = .ok (.invokespecial 1, 3) := by decide +kernel
theorem dX1_init_4 : decode cX1_init 4 = .ok (.aload_n 0, 1) := by decide +kernel
theorem dX1_init_5 : decode cX1_init 5 = .ok (.iconst 0, 1) := by decide +kernel
theorem dX1_init_6 : decode cX1_init 6 = .ok (.putfield 7, 3) := by decide +kernel
theorem dX1_init_9 : decode cX1_init 9 = .ok (.aload_n 0, 1) := by decide +kernel
theorem dX1_init_10 : decode cX1_init 10 = .ok (.iconst 0, 1) := by decide +kernel
theorem dX1_init_11 : decode cX1_init 11 = .ok (.putfield 13, 3) := by decide +kernel
theorem dX1_init_14 : decode cX1_init 14 = .ok (.aload_n 0, 1) := by decide +kernel
theorem dX1_init_15 : decode cX1_init 15 = .ok (.new 16, 3) := by decide +kernel
theorem dX1_init_18 : decode cX1_init 18 = .ok (.dup, 1) := by decide +kernel
theorem dX1_init_19 : decode cX1_init 19 = .ok (.iconst 1, 1) := by decide +kernel
theorem dX1_init_20 : decode cX1_init 20 = .ok (.iload_n 1, 1) := by decide +kernel
theorem dX1_init_21 : decode cX1_init 21 = .ok (.invokespecial 18, 3) := by decide +kernel
theorem dX1_init_24 : decode cX1_init 24 = .ok (.putfield 21, 3) := by decide +kernel
theorem dX1_init_27 : decode cX1_init 27 = .ok (.return_, 1) := by decide +kernel
theorem dX1_startAnew_0 : decode cX1_startAnew 0 = .ok (.aload_n 0, 1) := by decide +kernel
theorem dX1_startAnew_1 : decode cX1_startAnew 1 = .ok (.getfield 21, 3) := by decide +kernel
theorem dX1_startAnew_4 : decode cX1_startAnew 4 = .ok (.iconst 1, 1) := by decide +kernel
theorem dX1_startAnew_5 : decode cX1_startAnew 5 = .ok (.aload_n 0, 1) := by decide +kernel
theorem dX1_startAnew_6 : decode cX1_startAnew 6 = .ok (.getfield 21, 3) := by decide +kernel
theorem dX1_startAnew_9 : decode cX1_startAnew 9 = .ok (.getfield 25, 3) := by decide +kernel
theorem dX1_startAnew_12 : decode cX1_startAnew 12 = .ok (.invokevirtual 28, 3) := by decide +kernel
theorem dX1_startAnew_15 : decode cX1_startAnew 15 = .ok (.pop, 1) := by decide +kernel
theorem dX1_startAnew_16 : decode cX1_startAnew 16 = .ok (.aload_n 0, 1) := by decide +kernel
theorem dX1_startAnew_17 : decode cX1_startAnew 17 = .ok (.iconst 0, 1) := by decide +kernel
theorem dX1_startAnew_18 : decode cX1_startAnew 18 = .ok (.putfield 7, 3) := by decide +kernel
theorem dX1_startAnew_21 : decode cX1_startAnew 21 = .ok (.aload_n 0, 1) := by decide +kernel
theorem dX1_startAnew_22 : decode cX1_startAnew 22 = .ok (.iconst 0, 1) := by decide +kernel
theorem dX1_startAnew_23 : decode cX1_startAnew 23 = .ok (.putfield 13, 3) := by decide +kernel
theorem dX1_startAnew_26 : decode cX1_startAnew 26 = .ok (.return_, 1) := by decide +kernel
theorem dX1_meet_0 : decode cX1_meet 0 = .ok (.aload_n 0, 1) := by decide +kernel
theorem dX1_meet_1 : decode cX1_meet 1 = .ok (.getfield 21, 3) := by decide +kernel
theorem dX1_meet_4 : decode cX1_meet 4 = .ok (.iload_n 1, 1) := by decide +kernel
theorem dX1_meet_5 : decode cX1_meet 5 = .ok (.iload_n 2, 1) := by decide +kernel
theorem dX1_meet_6 : decode cX1_meet 6 = .ok (.invokevirtual 32, 3) := by decide +kernel
theorem dX1_meet_9 : decode cX1_meet 9 = .ok (.istore_n 3, 1) := by decide +kernel
theorem dX1_meet_10 : decode cX1_meet 10 = .ok (.iload_n 3, 1) := by decide +kernel
theorem dX1_meet_11 : decode cX1_meet 11 = .ok (.ifCond .eq 16, 3) := by decide +kernel
theorem dX1_meet_14 : decode cX1_meet 14 = .ok (.aload_n 0, 1) := by decide +kernel
theorem dX1_meet_15 : decode cX1_meet 15 = .ok (.dup, 1) := by decide +kernel
theorem dX1_meet_16 : decode cX1_meet 16 = .ok (.getfield 13, 3) := by decide +kernel
theorem dX1_meet_19 : decode cX1_meet 19 = .ok (.iconst 1, 1) := by decide +kernel
theorem dX1_meet_20 : decode cX1_meet 20 = .ok (.iadd, 1) := by decide +kernel
theorem dX1_meet_21 : decode cX1_meet 21 = .ok (.putfield 13, 3) := by decide +kernel
theorem dX1_meet_24 : decode cX1_meet 24 = .ok (.goto 13, 3) := by decide +kernel
theorem dX1_meet_27 : decode cX1_meet 27 = .ok (.aload_n 0, 1) := by decide +kernel
theorem dX1_meet_28 : decode cX1_meet 28 = .ok (.dup, 1) := by decide +kernel
theorem dX1_meet_29 : decode cX1_meet 29 = .ok (.getfield 7, 3) := by decide +kernel
theorem dX1_meet_32 : decode cX1_meet 32 = .ok (.iconst 1, 1) := by decide +kernel
theorem dX1_meet_33 : decode cX1_meet 33 = .ok (.iadd, 1) := by decide +kernel
theorem dX1_meet_34 : decode cX1_meet 34 = .ok (.putfield 7, 3) := by decide +kernel
theorem dX1_meet_37 : decode cX1_meet 37 = .ok (.iload_n 3, 1) := by decide +kernel
theorem dX1_meet_38 : decode cX1_meet 38 = .ok (.ireturn, 1) := by decide +kernel
theorem dX2_init_0 : decode cX2_init 0 = .ok (.aload_n 0, 1) := by decide +kernel
theorem dX2_init_1 : decode cX2_init 1 = .ok (.invokespecial 3, 3) := by decide +kernel
theorem dX2_init_4 : decode cX2_init 4 = .ok (.aload_n 0, 1) := by decide +kernel
theorem dX2_init_5 : decode cX2_init 5 = .ok (.bipush 20, 2) := by decide +kernel
theorem dX2_init_7 : decode cX2_init 7 = .ok (.newarray .int, 2) := by decide +kernel
theorem dX2_init_9 : decode cX2_init 9 = .ok (.putfield 9, 3) := by decide +kernel
theorem dX2_init_12 : decode cX2_init 12 = .ok (.aload_n 0, 1) := by decide +kernel
theorem dX2_init_13 : decode cX2_init 13 = .ok (.bipush 20, 2) := by decide +kernel
theorem dX2_init_15 : decode cX2_init 15 = .ok (.newarray .int, 2) := by decide +kernel
theorem dX2_init_17 : decode cX2_init 17 = .ok (.putfield 15, 3) := by decide +kernel
theorem dX2_init_20 : decode cX2_init 20 = .ok (.aload_n 0, 1) := by decide +kernel
theorem dX2_init_21 : decode cX2_init 21 = .ok (.iconst 0, 1) := by decide +kernel
theorem dX2_init_22 : decode cX2_init 22 = .ok (.putfield 18, 3) := by decide +kernel
theorem dX2_init_25 : decode cX2_init 25 = .ok (.aload_n 0, 1) := by decide +kernel
theorem dX2_init_26 : decode cX2_init 26 = .ok (.iconst 0, 1) := by decide +kernel
theorem dX2_init_27 : decode cX2_init 27 = .ok (.putfield 22, 3) := by decide +kernel
theorem dX2_init_30 : decode cX2_init 30 = .ok (.aload_n 0, 1) := by decide +kernel
theorem dX2_init_31 : decode cX2_init 31 = .ok (.iconst (-1), 1) := by decide +kernel
theorem dX2_init_32 : decode cX2_init 32 = .ok (.putfield 25, 3) := by decide +kernel
theorem dX2_init_35 : decode cX2_init 35 = .ok (.aload_n 0, 1) := by decide +kernel
theorem dX2_init_36 : decode cX2_init 36 = .ok (.iload_n 1, 1) := by decide +kernel
theorem dX2_init_37 : decode cX2_init 37 = .ok (.putfield 28, 3) := by decide +kernel
theorem dX2_init_40 : decode cX2_init 40 = .ok (.aload_n 0, 1) := by decide +kernel
theorem dX2_init_41 : decode cX2_init 41 = .ok (.iload_n 2, 1) := by decide +kernel
theorem dX2_init_42 : decode cX2_init 42 = .ok (.putfield 32, 3) := by decide +kernel
theorem dX2_init_45 : decode cX2_init 45 = .ok (.return_, 1) := by decide +kernel
theorem dX2_renew_0 : decode cX2_renew 0 = .ok (.aload_n 0, 1) := by decide +kernel
theorem dX2_renew_1 : decode cX2_renew 1 = .ok (.iload_n 1, 1) := by decide +kernel
theorem dX2_renew_2 : decode cX2_renew 2 = .ok (.putfield 28, 3) := by decide +kernel
theorem dX2_renew_5 : decode cX2_renew 5 = .ok (.aload_n 0, 1) := by decide +kernel
theorem dX2_renew_6 : decode cX2_renew 6 = .ok (.iload_n 2, 1) := by decide +kernel
theorem dX2_renew_7 : decode cX2_renew 7 = .ok (.putfield 32, 3) := by decide +kernel
theorem dX2_renew_10 : decode cX2_renew 10 = .ok (.aload_n 0, 1) := by decide +kernel
theorem dX2_renew_11 : decode cX2_renew 11 = .ok (.iconst 0, 1) := by decide +kernel
theorem dX2_renew_12 : decode cX2_renew 12 = .ok (.putfield 22, 3) := by decide +kernel
theorem dX2_renew_15 : decode cX2_renew 15 = .ok (.aload_n 0, 1) := by decide +kernel
theorem dX2_renew_16 : decode cX2_renew 16 = .ok (.iconst (-1), 1) := by decide +kernel
theorem dX2_renew_17 : decode cX2_renew 17 = .ok (.putfield 25, 3) := by decide +kernel
theorem dX2_renew_20 : decode cX2_renew 20 = .ok (.aload_n 0, 1) := by decide +kernel
theorem dX2_renew_21 : decode cX2_renew 21 = .ok (.invokevirtual 35, 3) := by decide +kernel
theorem dX2_renew_24 : decode cX2_renew 24 = .ok (.ireturn, 1) := by decide +kernel
theorem dX2_become_0 : decode cX2_become 0 = .ok (.aload_n 1, 1) := by decide +kernel
theorem dX2_become_1 : decode cX2_become 1 = .ok (.getfield 18, 3) := by decide +kernel
theorem dX2_become_4 : decode cX2_become 4 = .ok (.istore_n 2, 1) := by decide +kernel
theorem dX2_become_5 : decode cX2_become 5 = .ok (.aload_n 0, 1) := by decide +kernel
theorem dX2_become_6 : decode cX2_become 6 = .ok (.iconst 0, 1) := by decide +kernel
theorem dX2_become_7 : decode cX2_become 7 = .ok (.iconst (-1), 1) := by decide +kernel
theorem dX2_become_8 : decode cX2_become 8 = .ok (.invokevirtual 39, 3) := by decide +kernel
theorem dX2_become_11 : decode cX2_become 11 = .ok (.pop, 1) := by decide +kernel
theorem dX2_become_12 : decode cX2_become 12 = .ok (.iconst 0, 1) := by decide +kernel
theorem dX2_become_13 : decode cX2_become 13 = .ok (.istore_n 3, 1) := by decide +kernel
theorem dX2_become_14 : decode cX2_become 14 = .ok (.iload_n 3, 1) := by decide +kernel
theorem dX2_become_15 : decode cX2_become 15 = .ok (.iload_n 2, 1) := by decide +kernel
theorem dX2_become_16 : decode cX2_become 16 = .ok (.if_icmp .ge 33, 3) := by decide +kernel
theorem dX2_become_19 : decode cX2_become 19 = .ok (.aload_n 0, 1) := by decide +kernel
theorem dX2_become_20 : decode cX2_become 20 = .ok (.getfield 9, 3) := by decide +kernel
theorem dX2_become_23 : decode cX2_become 23 = .ok (.iload_n 3, 1) := by decide +kernel
theorem dX2_become_24 : decode cX2_become 24 = .ok (.aload_n 1, 1) := by decide +kernel
theorem dX2_become_25 : decode cX2_become 25 = .ok (.getfield 9, 3) := by decide +kernel
theorem dX2_become_28 : decode cX2_become 28 = .ok (.iload_n 3, 1) := by decide +kernel
theorem dX2_become_29 : decode cX2_become 29 = .ok (.iaload, 1) := by decide +kernel
theorem dX2_become_30 : decode cX2_become 30 = .ok (.iastore, 1) := by decide +kernel
theorem dX2_become_31 : decode cX2_become 31 = .ok (.aload_n 0, 1) := by decide +kernel
theorem dX2_become_32 : decode cX2_become 32 = .ok (.getfield 15, 3) := by decide +kernel
theorem dX2_become_35 : decode cX2_become 35 = .ok (.iload_n 3, 1) := by decide +kernel
theorem dX2_become_36 : decode cX2_become 36 = .ok (.aload_n 1, 1) := by decide +kernel
theorem dX2_become_37 : decode cX2_become 37 = .ok (.getfield 15, 3) := by decide +kernel
theorem dX2_become_40 : decode cX2_become 40 = .ok (.iload_n 3, 1) := by decide +kernel
theorem dX2_become_41 : decode cX2_become 41 = .ok (.iaload, 1) := by decide +kernel
theorem dX2_become_42 : decode cX2_become 42 = .ok (.iastore, 1) := by decide +kernel
theorem dX2_become_43 : decode cX2_become 43 = .ok (.iinc 3 1, 3) := by decide +kernel
theorem dX2_become_46 : decode cX2_become 46 = .ok (.goto (-32), 3) := by decide +kernel
theorem dX2_become_49 : decode cX2_become 49 = .ok (.aload_n 0, 1) := by decide +kernel
theorem dX2_become_50 : decode cX2_become 50 = .ok (.iload_n 2, 1) := by decide +kernel
theorem dX2_become_51 : decode cX2_become 51 = .ok (.putfield 18, 3) := by decide +kernel
theorem dX2_become_54 : decode cX2_become 54 = .ok (.return_, 1) := by decide +kernel
theorem dX2_bring_0 : decode cX2_bring 0 = .ok (.aload_n 0, 1) := by decide +kernel
theorem dX2_bring_1 : decode cX2_bring 1 = .ok (.iload_n 1, 1) := by decide +kernel
theorem dX2_bring_2 : decode cX2_bring 2 = .ok (.invokevirtual 43, 3) := by decide +kernel
theorem dX2_bring_5 : decode cX2_bring 5 = .ok (.istore_n 3, 1) := by decide +kernel
theorem dX2_bring_6 : decode cX2_bring 6 = .ok (.iload_n 3, 1) := by decide +kernel
theorem dX2_bring_7 : decode cX2_bring 7 = .ok (.iconst (-1), 1) := by decide +kernel
theorem dX2_bring_8 : decode cX2_bring 8 = .ok (.if_icmp .ne 11, 3) := by decide +kernel
theorem dX2_bring_11 : decode cX2_bring 11 = .ok (.aload_n 0, 1) := by decide +kernel
theorem dX2_bring_12 : decode cX2_bring 12 = .ok (.iload_n 1, 1) := by decide +kernel
theorem dX2_bring_13 : decode cX2_bring 13 = .ok (.iload_n 2, 1) := by decide +kernel
theorem dX2_bring_14 : decode cX2_bring 14 = .ok (.invokevirtual 47, 3) := by decide +kernel
theorem dX2_bring_17 : decode cX2_bring 17 = .ok (.iconst (-1), 1) := by decide +kernel
theorem dX2_bring_18 : decode cX2_bring 18 = .ok (.ireturn, 1) := by decide +kernel
theorem dX2_bring_19 : decode cX2_bring 19 = .ok (.aload_n 0, 1) := by decide +kernel
theorem dX2_bring_20 : decode cX2_bring 20 = .ok (.iload_n 3, 1) := by decide +kernel
theorem dX2_bring_21 : decode cX2_bring 21 = .ok (.iload_n 2, 1) := by decide +kernel
theorem dX2_bring_22 : decode cX2_bring 22 = .ok (.invokevirtual 51, 3) := by decide +kernel
theorem dX2_bring_25 : decode cX2_bring 25 = .ok (.istore 4, 2) := by decide +kernel
theorem dX2_bring_27 : decode cX2_bring 27 = .ok (.aload_n 0, 1) := by decide +kernel
theorem dX2_bring_28 : decode cX2_bring 28 = .ok (.iload_n 3, 1) := by decide +kernel
theorem dX2_bring_29 : decode cX2_bring 29 = .ok (.invokevirtual 55, 3) := by decide +kernel
theorem dX2_bring_32 : decode cX2_bring 32 = .ok (.iload 4, 2) := by decide +kernel
theorem dX2_bring_34 : decode cX2_bring 34 = .ok (.ireturn, 1) := by decide +kernel
theorem dX2_bringIfAbsent_0 : decode cX2_bringIfAbsent 0 = .ok (.aload_n 0, 1) := by decide +kernel
theorem dX2_bringIfAbsent_1 : decode cX2_bringIfAbsent 1 = .ok (.iload_n 1, 1) := by decide +kernel
theorem dX2_bringIfAbsent_2 : decode cX2_bringIfAbsent 2 = .ok (.invokevirtual 43, 3) := by decide +kernel
theorem dX2_bringIfAbsent_5 : decode cX2_bringIfAbsent 5 = .ok (.iconst (-1), 1) := by decide +kernel
theorem dX2_bringIfAbsent_6 : decode cX2_bringIfAbsent 6 = .ok (.if_icmp .ne 11, 3) := by decide +kernel
theorem dX2_bringIfAbsent_9 : decode cX2_bringIfAbsent 9 = .ok (.aload_n 0, 1) := by decide +kernel
theorem dX2_bringIfAbsent_10 : decode cX2_bringIfAbsent 10 = .ok (.iload_n 1, 1) := by decide +kernel
theorem dX2_bringIfAbsent_11 : decode cX2_bringIfAbsent 11 = .ok (.iload_n 2, 1) := by decide +kernel
theorem dX2_bringIfAbsent_12 : decode cX2_bringIfAbsent 12 = .ok (.invokevirtual 47, 3) := by decide +kernel
theorem dX2_bringIfAbsent_15 : decode cX2_bringIfAbsent 15 = .ok (.iconst (-1), 1) := by decide +kernel
theorem dX2_bringIfAbsent_16 : decode cX2_bringIfAbsent 16 = .ok (.ireturn, 1) := by decide +kernel
theorem dX2_bringIfAbsent_17 : decode cX2_bringIfAbsent 17 = .ok (.aload_n 0, 1) := by decide +kernel
theorem dX2_bringIfAbsent_18 : decode cX2_bringIfAbsent 18 = .ok (.iload_n 1, 1) := by decide +kernel
theorem dX2_bringIfAbsent_19 : decode cX2_bringIfAbsent 19 = .ok (.iconst (-1), 1) := by decide +kernel
theorem dX2_bringIfAbsent_20 : decode cX2_bringIfAbsent 20 = .ok (.invokevirtual 59, 3) := by decide +kernel
theorem dX2_bringIfAbsent_23 : decode cX2_bringIfAbsent 23 = .ok (.ireturn, 1) := by decide +kernel
theorem dX2_fetch_0 : decode cX2_fetch 0 = .ok (.aload_n 0, 1) := by decide +kernel
theorem dX2_fetch_1 : decode cX2_fetch 1 = .ok (.iload_n 1, 1) := by decide +kernel
theorem dX2_fetch_2 : decode cX2_fetch 2 = .ok (.invokevirtual 43, 3) := by decide +kernel
theorem dX2_fetch_5 : decode cX2_fetch 5 = .ok (.istore_n 3, 1) := by decide +kernel
theorem dX2_fetch_6 : decode cX2_fetch 6 = .ok (.iload_n 3, 1) := by decide +kernel
theorem dX2_fetch_7 : decode cX2_fetch 7 = .ok (.iconst (-1), 1) := by decide +kernel
theorem dX2_fetch_8 : decode cX2_fetch 8 = .ok (.if_icmp .ne 5, 3) := by decide +kernel
theorem dX2_fetch_11 : decode cX2_fetch 11 = .ok (.iload_n 2, 1) := by decide +kernel
theorem dX2_fetch_12 : decode cX2_fetch 12 = .ok (.ireturn, 1) := by decide +kernel
theorem dX2_fetch_13 : decode cX2_fetch 13 = .ok (.aload_n 0, 1) := by decide +kernel
theorem dX2_fetch_14 : decode cX2_fetch 14 = .ok (.getfield 15, 3) := by decide +kernel
theorem dX2_fetch_17 : decode cX2_fetch 17 = .ok (.iload_n 3, 1) := by decide +kernel
theorem dX2_fetch_18 : decode cX2_fetch 18 = .ok (.iaload, 1) := by decide +kernel
theorem dX2_fetch_19 : decode cX2_fetch 19 = .ok (.istore 4, 2) := by decide +kernel
theorem dX2_fetch_21 : decode cX2_fetch 21 = .ok (.aload_n 0, 1) := by decide +kernel
theorem dX2_fetch_22 : decode cX2_fetch 22 = .ok (.iload_n 3, 1) := by decide +kernel
theorem dX2_fetch_23 : decode cX2_fetch 23 = .ok (.invokevirtual 55, 3) := by decide +kernel
theorem dX2_fetch_26 : decode cX2_fetch 26 = .ok (.iload 4, 2) := by decide +kernel
theorem dX2_fetch_28 : decode cX2_fetch 28 = .ok (.ireturn, 1) := by decide +kernel
theorem dX2_fetchOrTakeIn_0 : decode cX2_fetchOrTakeIn 0 = .ok (.aload_n 0, 1) := by decide +kernel
theorem dX2_fetchOrTakeIn_1 : decode cX2_fetchOrTakeIn 1 = .ok (.iload_n 1, 1) := by decide +kernel
theorem dX2_fetchOrTakeIn_2 : decode cX2_fetchOrTakeIn 2 = .ok (.invokevirtual 43, 3) := by decide +kernel
theorem dX2_fetchOrTakeIn_5 : decode cX2_fetchOrTakeIn 5 = .ok (.istore_n 3, 1) := by decide +kernel
theorem dX2_fetchOrTakeIn_6 : decode cX2_fetchOrTakeIn 6 = .ok (.iload_n 3, 1) := by decide +kernel
theorem dX2_fetchOrTakeIn_7 : decode cX2_fetchOrTakeIn 7 = .ok (.iconst (-1), 1) := by decide +kernel
theorem dX2_fetchOrTakeIn_8 : decode cX2_fetchOrTakeIn 8 = .ok (.if_icmp .ne 11, 3) := by decide +kernel
theorem dX2_fetchOrTakeIn_11 : decode cX2_fetchOrTakeIn 11 = .ok (.aload_n 0, 1) := by decide +kernel
theorem dX2_fetchOrTakeIn_12 : decode cX2_fetchOrTakeIn 12 = .ok (.iload_n 1, 1) := by decide +kernel
theorem dX2_fetchOrTakeIn_13 : decode cX2_fetchOrTakeIn 13 = .ok (.iload_n 2, 1) := by decide +kernel
theorem dX2_fetchOrTakeIn_14 : decode cX2_fetchOrTakeIn 14 = .ok (.invokevirtual 47, 3) := by decide +kernel
theorem dX2_fetchOrTakeIn_17 : decode cX2_fetchOrTakeIn 17 = .ok (.iconst 0, 1) := by decide +kernel
theorem dX2_fetchOrTakeIn_18 : decode cX2_fetchOrTakeIn 18 = .ok (.ireturn, 1) := by decide +kernel
theorem dX2_fetchOrTakeIn_19 : decode cX2_fetchOrTakeIn 19 = .ok (.aload_n 0, 1) := by decide +kernel
theorem dX2_fetchOrTakeIn_20 : decode cX2_fetchOrTakeIn 20 = .ok (.iload_n 3, 1) := by decide +kernel
theorem dX2_fetchOrTakeIn_21 : decode cX2_fetchOrTakeIn 21 = .ok (.invokevirtual 55, 3) := by decide +kernel
theorem dX2_fetchOrTakeIn_24 : decode cX2_fetchOrTakeIn 24 = .ok (.iconst 1, 1) := by decide +kernel
theorem dX2_fetchOrTakeIn_25 : decode cX2_fetchOrTakeIn 25 = .ok (.ireturn, 1) := by decide +kernel
theorem dX2_dropKey_0 : decode cX2_dropKey 0 = .ok (.aload_n 0, 1) := by decide +kernel
theorem dX2_dropKey_1 : decode cX2_dropKey 1 = .ok (.iload_n 1, 1) := by decide +kernel
theorem dX2_dropKey_2 : decode cX2_dropKey 2 = .ok (.invokevirtual 43, 3) := by decide +kernel
theorem dX2_dropKey_5 : decode cX2_dropKey 5 = .ok (.istore_n 2, 1) := by decide +kernel
theorem dX2_dropKey_6 : decode cX2_dropKey 6 = .ok (.iload_n 2, 1) := by decide +kernel
theorem dX2_dropKey_7 : decode cX2_dropKey 7 = .ok (.iconst (-1), 1) := by decide +kernel
theorem dX2_dropKey_8 : decode cX2_dropKey 8 = .ok (.if_icmp .ne 5, 3) := by decide +kernel
theorem dX2_dropKey_11 : decode cX2_dropKey 11 = .ok (.iconst (-1), 1) := by decide +kernel
theorem dX2_dropKey_12 : decode cX2_dropKey 12 = .ok (.ireturn, 1) := by decide +kernel
theorem dX2_dropKey_13 : decode cX2_dropKey 13 = .ok (.aload_n 0, 1) := by decide +kernel
theorem dX2_dropKey_14 : decode cX2_dropKey 14 = .ok (.getfield 15, 3) := by decide +kernel
theorem dX2_dropKey_17 : decode cX2_dropKey 17 = .ok (.iload_n 2, 1) := by decide +kernel
theorem dX2_dropKey_18 : decode cX2_dropKey 18 = .ok (.iaload, 1) := by decide +kernel
theorem dX2_dropKey_19 : decode cX2_dropKey 19 = .ok (.istore_n 3, 1) := by decide +kernel
theorem dX2_dropKey_20 : decode cX2_dropKey 20 = .ok (.aload_n 0, 1) := by decide +kernel
theorem dX2_dropKey_21 : decode cX2_dropKey 21 = .ok (.iload_n 2, 1) := by decide +kernel
theorem dX2_dropKey_22 : decode cX2_dropKey 22 = .ok (.invokevirtual 62, 3) := by decide +kernel
theorem dX2_dropKey_25 : decode cX2_dropKey 25 = .ok (.iload_n 3, 1) := by decide +kernel
theorem dX2_dropKey_26 : decode cX2_dropKey 26 = .ok (.ireturn, 1) := by decide +kernel
theorem dX2_dropAll_0 : decode cX2_dropAll 0 = .ok (.aload_n 0, 1) := by decide +kernel
theorem dX2_dropAll_1 : decode cX2_dropAll 1 = .ok (.getfield 18, 3) := by decide +kernel
theorem dX2_dropAll_4 : decode cX2_dropAll 4 = .ok (.istore_n 1, 1) := by decide +kernel
theorem dX2_dropAll_5 : decode cX2_dropAll 5 = .ok (.aload_n 0, 1) := by decide +kernel
theorem dX2_dropAll_6 : decode cX2_dropAll 6 = .ok (.iconst 0, 1) := by decide +kernel
theorem dX2_dropAll_7 : decode cX2_dropAll 7 = .ok (.putfield 18, 3) := by decide +kernel
theorem dX2_dropAll_10 : decode cX2_dropAll 10 = .ok (.iload_n 1, 1) := by decide +kernel
theorem dX2_dropAll_11 : decode cX2_dropAll 11 = .ok (.ireturn, 1) := by decide +kernel
theorem dX2_dropAt_0 : decode cX2_dropAt 0 = .ok (.aload_n 0, 1) := by decide +kernel
theorem dX2_dropAt_1 : decode cX2_dropAt 1 = .ok (.iload_n 1, 1) := by decide +kernel
theorem dX2_dropAt_2 : decode cX2_dropAt 2 = .ok (.invokevirtual 65, 3) := by decide +kernel
theorem dX2_dropAt_5 : decode cX2_dropAt 5 = .ok (.ifCond .ne 4, 3) := by decide +kernel
theorem dX2_dropAt_8 : decode cX2_dropAt 8 = .ok (.return_, 1) := by decide +kernel
theorem dX2_dropAt_9 : decode cX2_dropAt 9 = .ok (.iload_n 1, 1) := by decide +kernel
theorem dX2_dropAt_10 : decode cX2_dropAt 10 = .ok (.istore_n 2, 1) := by decide +kernel
theorem dX2_dropAt_11 : decode cX2_dropAt 11 = .ok (.iload_n 2, 1) := by decide +kernel
theorem dX2_dropAt_12 : decode cX2_dropAt 12 = .ok (.iconst 1, 1) := by decide +kernel
theorem dX2_dropAt_13 : decode cX2_dropAt 13 = .ok (.iadd, 1) := by decide +kernel
theorem dX2_dropAt_14 : decode cX2_dropAt 14 = .ok (.aload_n 0, 1) := by decide +kernel
theorem dX2_dropAt_15 : decode cX2_dropAt 15 = .ok (.getfield 18, 3) := by decide +kernel
theorem dX2_dropAt_18 : decode cX2_dropAt 18 = .ok (.if_icmp .ge 37, 3) := by decide +kernel
theorem dX2_dropAt_21 : decode cX2_dropAt 21 = .ok (.aload_n 0, 1) := by decide +kernel
theorem dX2_dropAt_22 : decode cX2_dropAt 22 = .ok (.getfield 9, 3) := by decide +kernel
theorem dX2_dropAt_25 : decode cX2_dropAt 25 = .ok (.iload_n 2, 1) := by decide +kernel
theorem dX2_dropAt_26 : decode cX2_dropAt 26 = .ok (.aload_n 0, 1) := by decide +kernel
theorem dX2_dropAt_27 : decode cX2_dropAt 27 = .ok (.getfield 9, 3) := by decide +kernel
theorem dX2_dropAt_30 : decode cX2_dropAt 30 = .ok (.iload_n 2, 1) := by decide +kernel
theorem dX2_dropAt_31 : decode cX2_dropAt 31 = .ok (.iconst 1, 1) := by decide +kernel
theorem dX2_dropAt_32 : decode cX2_dropAt 32 = .ok (.iadd, 1) := by decide +kernel
theorem dX2_dropAt_33 : decode cX2_dropAt 33 = .ok (.iaload, 1) := by decide +kernel
theorem dX2_dropAt_34 : decode cX2_dropAt 34 = .ok (.iastore, 1) := by decide +kernel
theorem dX2_dropAt_35 : decode cX2_dropAt 35 = .ok (.aload_n 0, 1) := by decide +kernel
theorem dX2_dropAt_36 : decode cX2_dropAt 36 = .ok (.getfield 15, 3) := by decide +kernel
theorem dX2_dropAt_39 : decode cX2_dropAt 39 = .ok (.iload_n 2, 1) := by decide +kernel
theorem dX2_dropAt_40 : decode cX2_dropAt 40 = .ok (.aload_n 0, 1) := by decide +kernel
theorem dX2_dropAt_41 : decode cX2_dropAt 41 = .ok (.getfield 15, 3) := by decide +kernel
theorem dX2_dropAt_44 : decode cX2_dropAt 44 = .ok (.iload_n 2, 1) := by decide +kernel
theorem dX2_dropAt_45 : decode cX2_dropAt 45 = .ok (.iconst 1, 1) := by decide +kernel
theorem dX2_dropAt_46 : decode cX2_dropAt 46 = .ok (.iadd, 1) := by decide +kernel
theorem dX2_dropAt_47 : decode cX2_dropAt 47 = .ok (.iaload, 1) := by decide +kernel
theorem dX2_dropAt_48 : decode cX2_dropAt 48 = .ok (.iastore, 1) := by decide +kernel
theorem dX2_dropAt_49 : decode cX2_dropAt 49 = .ok (.iinc 2 1, 3) := by decide +kernel
theorem dX2_dropAt_52 : decode cX2_dropAt 52 = .ok (.goto (-41), 3) := by decide +kernel
theorem dX2_dropAt_55 : decode cX2_dropAt 55 = .ok (.aload_n 0, 1) := by decide +kernel
theorem dX2_dropAt_56 : decode cX2_dropAt 56 = .ok (.dup, 1) := by decide +kernel
theorem dX2_dropAt_57 : decode cX2_dropAt 57 = .ok (.getfield 18, 3) := by decide +kernel
theorem dX2_dropAt_60 : decode cX2_dropAt 60 = .ok (.iconst 1, 1) := by decide +kernel
theorem dX2_dropAt_61 : decode cX2_dropAt 61 = .ok (.isub, 1) := by decide +kernel
theorem dX2_dropAt_62 : decode cX2_dropAt 62 = .ok (.putfield 18, 3) := by decide +kernel
theorem dX2_dropAt_65 : decode cX2_dropAt 65 = .ok (.return_, 1) := by decide +kernel
theorem dX2_changeValue_0 : decode cX2_changeValue 0 = .ok (.aload_n 0, 1) := by decide +kernel
theorem dX2_changeValue_1 : decode cX2_changeValue 1 = .ok (.iload_n 1, 1) := by decide +kernel
theorem dX2_changeValue_2 : decode cX2_changeValue 2 = .ok (.invokevirtual 65, 3) := by decide +kernel
theorem dX2_changeValue_5 : decode cX2_changeValue 5 = .ok (.ifCond .ne 5, 3) := by decide +kernel
theorem dX2_changeValue_8 : decode cX2_changeValue 8 = .ok (.iconst (-1), 1) := by decide +kernel
theorem dX2_changeValue_9 : decode cX2_changeValue 9 = .ok (.ireturn, 1) := by decide +kernel
theorem dX2_changeValue_10 : decode cX2_changeValue 10 = .ok (.aload_n 0, 1) := by decide +kernel
theorem dX2_changeValue_11 : decode cX2_changeValue 11 = .ok (.getfield 15, 3) := by decide +kernel
theorem dX2_changeValue_14 : decode cX2_changeValue 14 = .ok (.iload_n 1, 1) := by decide +kernel
theorem dX2_changeValue_15 : decode cX2_changeValue 15 = .ok (.iaload, 1) := by decide +kernel
theorem dX2_changeValue_16 : decode cX2_changeValue 16 = .ok (.istore_n 3, 1) := by decide +kernel
theorem dX2_changeValue_17 : decode cX2_changeValue 17 = .ok (.aload_n 0, 1) := by decide +kernel
theorem dX2_changeValue_18 : decode cX2_changeValue 18 = .ok (.getfield 15, 3) := by decide +kernel
theorem dX2_changeValue_21 : decode cX2_changeValue 21 = .ok (.iload_n 1, 1) := by decide +kernel
theorem dX2_changeValue_22 : decode cX2_changeValue 22 = .ok (.iload_n 2, 1) := by decide +kernel
theorem dX2_changeValue_23 : decode cX2_changeValue 23 = .ok (.iastore, 1) := by decide +kernel
theorem dX2_changeValue_24 : decode cX2_changeValue 24 = .ok (.iload_n 3, 1) := by decide +kernel
theorem dX2_changeValue_25 : decode cX2_changeValue 25 = .ok (.ireturn, 1) := by decide +kernel
theorem dX2_find_0 : decode cX2_find 0 = .ok (.iconst 0, 1) := by decide +kernel
theorem dX2_find_1 : decode cX2_find 1 = .ok (.istore_n 2, 1) := by decide +kernel
theorem dX2_find_2 : decode cX2_find 2 = .ok (.iload_n 2, 1) := by decide +kernel
theorem dX2_find_3 : decode cX2_find 3 = .ok (.aload_n 0, 1) := by decide +kernel
theorem dX2_find_4 : decode cX2_find 4 = .ok (.getfield 18, 3) := by decide +kernel
theorem dX2_find_7 : decode cX2_find 7 = .ok (.if_icmp .ge 21, 3) := by decide +kernel
theorem dX2_find_10 : decode cX2_find 10 = .ok (.aload_n 0, 1) := by decide +kernel
theorem dX2_find_11 : decode cX2_find 11 = .ok (.getfield 9, 3) := by decide +kernel
theorem dX2_find_14 : decode cX2_find 14 = .ok (.iload_n 2, 1) := by decide +kernel
theorem dX2_find_15 : decode cX2_find 15 = .ok (.iaload, 1) := by decide +kernel
theorem dX2_find_16 : decode cX2_find 16 = .ok (.iload_n 1, 1) := by decide +kernel
theorem dX2_find_17 : decode cX2_find 17 = .ok (.if_icmp .ne 5, 3) := by decide +kernel
theorem dX2_find_20 : decode cX2_find 20 = .ok (.iload_n 2, 1) := by decide +kernel
theorem dX2_find_21 : decode cX2_find 21 = .ok (.ireturn, 1) := by decide +kernel
theorem dX2_find_22 : decode cX2_find 22 = .ok (.iinc 2 1, 3) := by decide +kernel
theorem dX2_find_25 : decode cX2_find 25 = .ok (.goto (-23), 3) := by decide +kernel
theorem dX2_find_28 : decode cX2_find 28 = .ok (.iconst (-1), 1) := by decide +kernel
theorem dX2_find_29 : decode cX2_find 29 = .ok (.ireturn, 1) := by decide +kernel
theorem dX2_isPlace_0 : decode cX2_isPlace 0 = .ok (.iload_n 1, 1) := by decide +kernel
theorem dX2_isPlace_1 : decode cX2_isPlace 1 = .ok (.ifCond .lt 15, 3) := by decide +kernel
theorem dX2_isPlace_4 : decode cX2_isPlace 4 = .ok (.iload_n 1, 1) := by decide +kernel
theorem dX2_isPlace_5 : decode cX2_isPlace 5 = .ok (.aload_n 0, 1) := by decide +kernel
theorem dX2_isPlace_6 : decode cX2_isPlace 6 = .ok (.getfield 18, 3) := by decide +kernel
theorem dX2_isPlace_9 : decode cX2_isPlace 9 = .ok (.if_icmp .ge 7, 3) := by decide +kernel
theorem dX2_isPlace_12 : decode cX2_isPlace 12 = .ok (.iconst 1, 1) := by decide +kernel
theorem dX2_isPlace_13 : decode cX2_isPlace 13 = .ok (.goto 4, 3) := by decide +kernel
theorem dX2_isPlace_16 : decode cX2_isPlace 16 = .ok (.iconst 0, 1) := by decide +kernel
theorem dX2_isPlace_17 : decode cX2_isPlace 17 = .ok (.ireturn, 1) := by decide +kernel
theorem dX2_told_0 : decode cX2_told 0 = .ok (.aload_n 0, 1) := by decide +kernel
theorem dX2_told_1 : decode cX2_told 1 = .ok (.iload_n 1, 1) := by decide +kernel
theorem dX2_told_2 : decode cX2_told 2 = .ok (.invokevirtual 65, 3) := by decide +kernel
theorem dX2_told_5 : decode cX2_told 5 = .ok (.ifCond .ne 5, 3) := by decide +kernel
theorem dX2_told_8 : decode cX2_told 8 = .ok (.iconst (-1), 1) := by decide +kernel
theorem dX2_told_9 : decode cX2_told 9 = .ok (.ireturn, 1) := by decide +kernel
theorem dX2_told_10 : decode cX2_told 10 = .ok (.iload_n 2, 1) := by decide +kernel
theorem dX2_told_11 : decode cX2_told 11 = .ok (.ifCond .ne 10, 3) := by decide +kernel
theorem dX2_told_14 : decode cX2_told 14 = .ok (.aload_n 0, 1) := by decide +kernel
theorem dX2_told_15 : decode cX2_told 15 = .ok (.getfield 9, 3) := by decide +kernel
theorem dX2_told_18 : decode cX2_told 18 = .ok (.iload_n 1, 1) := by decide +kernel
theorem dX2_told_19 : decode cX2_told 19 = .ok (.iaload, 1) := by decide +kernel
theorem dX2_told_20 : decode cX2_told 20 = .ok (.ireturn, 1) := by decide +kernel
theorem dX2_told_21 : decode cX2_told 21 = .ok (.iload_n 2, 1) := by decide +kernel
theorem dX2_told_22 : decode cX2_told 22 = .ok (.iconst 1, 1) := by decide +kernel
theorem dX2_told_23 : decode cX2_told 23 = .ok (.if_icmp .ne 10, 3) := by decide +kernel
theorem dX2_told_26 : decode cX2_told 26 = .ok (.aload_n 0, 1) := by decide +kernel
theorem dX2_told_27 : decode cX2_told 27 = .ok (.getfield 15, 3) := by decide +kernel
theorem dX2_told_30 : decode cX2_told 30 = .ok (.iload_n 1, 1) := by decide +kernel
theorem dX2_told_31 : decode cX2_told 31 = .ok (.iaload, 1) := by decide +kernel
theorem dX2_told_32 : decode cX2_told 32 = .ok (.ireturn, 1) := by decide +kernel
theorem dX2_told_33 : decode cX2_told 33 = .ok (.aload_n 0, 1) := by decide +kernel
theorem dX2_told_34 : decode cX2_told 34 = .ok (.getfield 9, 3) := by decide +kernel
theorem dX2_told_37 : decode cX2_told 37 = .ok (.iload_n 1, 1) := by decide +kernel
theorem dX2_told_38 : decode cX2_told 38 = .ok (.iaload, 1) := by decide +kernel
theorem dX2_told_39 : decode cX2_told 39 = .ok (.bipush 100, 2) := by decide +kernel
theorem dX2_told_41 : decode cX2_told 41 = .ok (.imul, 1) := by decide +kernel
theorem dX2_told_42 : decode cX2_told 42 = .ok (.aload_n 0, 1) := by decide +kernel
theorem dX2_told_43 : decode cX2_told 43 = .ok (.getfield 15, 3) := by decide +kernel
theorem dX2_told_46 : decode cX2_told 46 = .ok (.iload_n 1, 1) := by decide +kernel
theorem dX2_told_47 : decode cX2_told 47 = .ok (.iaload, 1) := by decide +kernel
theorem dX2_told_48 : decode cX2_told 48 = .ok (.iadd, 1) := by decide +kernel
theorem dX2_told_49 : decode cX2_told 49 = .ok (.ireturn, 1) := by decide +kernel
theorem dX2_sumOfValues_0 : decode cX2_sumOfValues 0 = .ok (.iconst 0, 1) := by decide +kernel
theorem dX2_sumOfValues_1 : decode cX2_sumOfValues 1 = .ok (.istore_n 1, 1) := by decide +kernel
theorem dX2_sumOfValues_2 : decode cX2_sumOfValues 2 = .ok (.iconst 0, 1) := by decide +kernel
theorem dX2_sumOfValues_3 : decode cX2_sumOfValues 3 = .ok (.istore_n 2, 1) := by decide +kernel
theorem dX2_sumOfValues_4 : decode cX2_sumOfValues 4 = .ok (.iload_n 2, 1) := by decide +kernel
theorem dX2_sumOfValues_5 : decode cX2_sumOfValues 5 = .ok (.aload_n 0, 1) := by decide +kernel
theorem dX2_sumOfValues_6 : decode cX2_sumOfValues 6 = .ok (.getfield 18, 3) := by decide +kernel
theorem dX2_sumOfValues_9 : decode cX2_sumOfValues 9 = .ok (.if_icmp .ge 18, 3) := by decide +kernel
theorem dX2_sumOfValues_12 : decode cX2_sumOfValues 12 = .ok (.iload_n 1, 1) := by decide +kernel
theorem dX2_sumOfValues_13 : decode cX2_sumOfValues 13 = .ok (.aload_n 0, 1) := by decide +kernel
theorem dX2_sumOfValues_14 : decode cX2_sumOfValues 14 = .ok (.getfield 15, 3) := by decide +kernel
theorem dX2_sumOfValues_17 : decode cX2_sumOfValues 17 = .ok (.iload_n 2, 1) := by decide +kernel
theorem dX2_sumOfValues_18 : decode cX2_sumOfValues 18 = .ok (.iaload, 1) := by decide +kernel
theorem dX2_sumOfValues_19 : decode cX2_sumOfValues 19 = .ok (.iadd, 1) := by decide +kernel
theorem dX2_sumOfValues_20 : decode cX2_sumOfValues 20 = .ok (.istore_n 1, 1) := by decide +kernel
theorem dX2_sumOfValues_21 : decode cX2_sumOfValues 21 = .ok (.iinc 2 1, 3) := by decide +kernel
theorem dX2_sumOfValues_24 : decode cX2_sumOfValues 24 = .ok (.goto (-20), 3) := by decide +kernel
theorem dX2_sumOfValues_27 : decode cX2_sumOfValues 27 = .ok (.iload_n 1, 1) := by decide +kernel
theorem dX2_sumOfValues_28 : decode cX2_sumOfValues 28 = .ok (.ireturn, 1) := by decide +kernel
theorem dX2_written_0 : decode cX2_written 0 = .ok (.new 69, 3) := by decide +kernel
theorem dX2_written_3 : decode cX2_written 3 = .ok (.dup, 1) := by decide +kernel
theorem dX2_written_4 : decode cX2_written 4 = .ok (.invokespecial 71, 3) := by decide +kernel
theorem dX2_written_7 : decode cX2_written 7 = .ok (.astore_n 2, 1) := by decide +kernel
theorem dX2_written_8 : decode cX2_written 8 = .ok (.iconst 0, 1) := by decide +kernel
theorem dX2_written_9 : decode cX2_written 9 = .ok (.istore_n 3, 1) := by decide +kernel
theorem dX2_written_10 : decode cX2_written 10 = .ok (.iload_n 3, 1) := by decide +kernel
theorem dX2_written_11 : decode cX2_written 11 = .ok (.aload_n 0, 1) := by decide +kernel
theorem dX2_written_12 : decode cX2_written 12 = .ok (.getfield 18, 3) := by decide +kernel
theorem dX2_written_15 : decode cX2_written 15 = .ok (.if_icmp .ge 63, 3) := by decide +kernel
theorem dX2_written_18 : decode cX2_written 18 = .ok (.iload_n 3, 1) := by decide +kernel
theorem dX2_written_19 : decode cX2_written 19 = .ok (.ifCond .le 10, 3) := by decide +kernel
theorem dX2_written_22 : decode cX2_written 22 = .ok (.aload_n 2, 1) := by decide +kernel
theorem dX2_written_23 : decode cX2_written 23 = .ok (.bipush 32, 2) := by decide +kernel
theorem dX2_written_25 : decode cX2_written 25 = .ok (.invokevirtual 72, 3) := by decide +kernel
theorem dX2_written_28 : decode cX2_written 28 = .ok (.pop, 1) := by decide +kernel
theorem dX2_written_29 : decode cX2_written 29 = .ok (.iload_n 1, 1) := by decide +kernel
theorem dX2_written_30 : decode cX2_written 30 = .ok (.iconst 1, 1) := by decide +kernel
theorem dX2_written_31 : decode cX2_written 31 = .ok (.if_icmp .eq 14, 3) := by decide +kernel
theorem dX2_written_34 : decode cX2_written 34 = .ok (.aload_n 2, 1) := by decide +kernel
theorem dX2_written_35 : decode cX2_written 35 = .ok (.aload_n 0, 1) := by decide +kernel
theorem dX2_written_36 : decode cX2_written 36 = .ok (.getfield 9, 3) := by decide +kernel
theorem dX2_written_39 : decode cX2_written 39 = .ok (.iload_n 3, 1) := by decide +kernel
theorem dX2_written_40 : decode cX2_written 40 = .ok (.iaload, 1) := by decide +kernel
theorem dX2_written_41 : decode cX2_written 41 = .ok (.invokevirtual 76, 3) := by decide +kernel
theorem dX2_written_44 : decode cX2_written 44 = .ok (.pop, 1) := by decide +kernel
theorem dX2_written_45 : decode cX2_written 45 = .ok (.iload_n 1, 1) := by decide +kernel
theorem dX2_written_46 : decode cX2_written 46 = .ok (.iconst 2, 1) := by decide +kernel
theorem dX2_written_47 : decode cX2_written 47 = .ok (.if_icmp .ne 10, 3) := by decide +kernel
theorem dX2_written_50 : decode cX2_written 50 = .ok (.aload_n 2, 1) := by decide +kernel
theorem dX2_written_51 : decode cX2_written 51 = .ok (.bipush 61, 2) := by decide +kernel
theorem dX2_written_53 : decode cX2_written 53 = .ok (.invokevirtual 72, 3) := by decide +kernel
theorem dX2_written_56 : decode cX2_written 56 = .ok (.pop, 1) := by decide +kernel
theorem dX2_written_57 : decode cX2_written 57 = .ok (.iload_n 1, 1) := by decide +kernel
theorem dX2_written_58 : decode cX2_written 58 = .ok (.ifCond .eq 14, 3) := by decide +kernel
theorem dX2_written_61 : decode cX2_written 61 = .ok (.aload_n 2, 1) := by decide +kernel
theorem dX2_written_62 : decode cX2_written 62 = .ok (.aload_n 0, 1) := by decide +kernel
theorem dX2_written_63 : decode cX2_written 63 = .ok (.getfield 15, 3) := by decide +kernel
theorem dX2_written_66 : decode cX2_written 66 = .ok (.iload_n 3, 1) := by decide +kernel
theorem dX2_written_67 : decode cX2_written 67 = .ok (.iaload, 1) := by decide +kernel
theorem dX2_written_68 : decode cX2_written 68 = .ok (.invokevirtual 76, 3) := by decide +kernel
theorem dX2_written_71 : decode cX2_written 71 = .ok (.pop, 1) := by decide +kernel
theorem dX2_written_72 : decode cX2_written 72 = .ok (.iinc 3 1, 3) := by decide +kernel
theorem dX2_written_75 : decode cX2_written 75 = .ok (.goto (-65), 3) := by decide +kernel
theorem dX2_written_78 : decode cX2_written 78 = .ok (.aload_n 2, 1) := by decide +kernel
theorem dX2_written_79 : decode cX2_written 79 = .ok (.invokevirtual 79, 3) := by decide +kernel
theorem dX2_written_82 : decode cX2_written 82 = .ok (.areturn, 1) := by decide +kernel
theorem dX2_isAboveMost_0 : decode cX2_isAboveMost 0 = .ok (.aload_n 0, 1) := by decide +kernel
theorem dX2_isAboveMost_1 : decode cX2_isAboveMost 1 = .ok (.getfield 32, 3) := by decide +kernel
theorem dX2_isAboveMost_4 : decode cX2_isAboveMost 4 = .ok (.iconst (-1), 1) := by decide +kernel
theorem dX2_isAboveMost_5 : decode cX2_isAboveMost 5 = .ok (.if_icmp .eq 18, 3) := by decide +kernel
theorem dX2_isAboveMost_8 : decode cX2_isAboveMost 8 = .ok (.aload_n 0, 1) := by decide +kernel
theorem dX2_isAboveMost_9 : decode cX2_isAboveMost 9 = .ok (.getfield 18, 3) := by decide +kernel
theorem dX2_isAboveMost_12 : decode cX2_isAboveMost 12 = .ok (.aload_n 0, 1) := by decide +kernel
theorem dX2_isAboveMost_13 : decode cX2_isAboveMost 13 = .ok (.getfield 32, 3) := by decide +kernel
theorem dX2_isAboveMost_16 : decode cX2_isAboveMost 16 = .ok (.if_icmp .le 7, 3) := by decide +kernel
theorem dX2_isAboveMost_19 : decode cX2_isAboveMost 19 = .ok (.iconst 1, 1) := by decide +kernel
theorem dX2_isAboveMost_20 : decode cX2_isAboveMost 20 = .ok (.goto 4, 3) := by decide +kernel
theorem dX2_isAboveMost_23 : decode cX2_isAboveMost 23 = .ok (.iconst 0, 1) := by decide +kernel
theorem dX2_isAboveMost_24 : decode cX2_isAboveMost 24 = .ok (.ireturn, 1) := by decide +kernel
theorem dX2_isLastOf_0 : decode cX2_isLastOf 0 = .ok (.aload_n 0, 1) := by decide +kernel
theorem dX2_isLastOf_1 : decode cX2_isLastOf 1 = .ok (.getfield 18, 3) := by decide +kernel
theorem dX2_isLastOf_4 : decode cX2_isLastOf 4 = .ok (.aload_n 0, 1) := by decide +kernel
theorem dX2_isLastOf_5 : decode cX2_isLastOf 5 = .ok (.getfield 32, 3) := by decide +kernel
theorem dX2_isLastOf_8 : decode cX2_isLastOf 8 = .ok (.aload_n 1, 1) := by decide +kernel
theorem dX2_isLastOf_9 : decode cX2_isLastOf 9 = .ok (.getfield 18, 3) := by decide +kernel
theorem dX2_isLastOf_12 : decode cX2_isLastOf 12 = .ok (.invokestatic 83, 3) := by decide +kernel
theorem dX2_isLastOf_15 : decode cX2_isLastOf 15 = .ok (.if_icmp .eq 5, 3) := by decide +kernel
theorem dX2_isLastOf_18 : decode cX2_isLastOf 18 = .ok (.iconst 0, 1) := by decide +kernel
theorem dX2_isLastOf_19 : decode cX2_isLastOf 19 = .ok (.ireturn, 1) := by decide +kernel
theorem dX2_isLastOf_20 : decode cX2_isLastOf 20 = .ok (.aload_n 1, 1) := by decide +kernel
theorem dX2_isLastOf_21 : decode cX2_isLastOf 21 = .ok (.getfield 18, 3) := by decide +kernel
theorem dX2_isLastOf_24 : decode cX2_isLastOf 24 = .ok (.aload_n 0, 1) := by decide +kernel
theorem dX2_isLastOf_25 : decode cX2_isLastOf 25 = .ok (.getfield 18, 3) := by decide +kernel
theorem dX2_isLastOf_28 : decode cX2_isLastOf 28 = .ok (.isub, 1) := by decide +kernel
theorem dX2_isLastOf_29 : decode cX2_isLastOf 29 = .ok (.istore_n 2, 1) := by decide +kernel
theorem dX2_isLastOf_30 : decode cX2_isLastOf 30 = .ok (.iconst 0, 1) := by decide +kernel
theorem dX2_isLastOf_31 : decode cX2_isLastOf 31 = .ok (.istore_n 3, 1) := by decide +kernel
theorem dX2_isLastOf_32 : decode cX2_isLastOf 32 = .ok (.iload_n 3, 1) := by decide +kernel
theorem dX2_isLastOf_33 : decode cX2_isLastOf 33 = .ok (.aload_n 0, 1) := by decide +kernel
theorem dX2_isLastOf_34 : decode cX2_isLastOf 34 = .ok (.getfield 18, 3) := by decide +kernel
theorem dX2_isLastOf_37 : decode cX2_isLastOf 37 = .ok (.if_icmp .ge 28, 3) := by decide +kernel
theorem dX2_isLastOf_40 : decode cX2_isLastOf 40 = .ok (.aload_n 0, 1) := by decide +kernel
theorem dX2_isLastOf_41 : decode cX2_isLastOf 41 = .ok (.getfield 9, 3) := by decide +kernel
theorem dX2_isLastOf_44 : decode cX2_isLastOf 44 = .ok (.iload_n 3, 1) := by decide +kernel
theorem dX2_isLastOf_45 : decode cX2_isLastOf 45 = .ok (.iaload, 1) := by decide +kernel
theorem dX2_isLastOf_46 : decode cX2_isLastOf 46 = .ok (.aload_n 1, 1) := by decide +kernel
theorem dX2_isLastOf_47 : decode cX2_isLastOf 47 = .ok (.getfield 9, 3) := by decide +kernel
theorem dX2_isLastOf_50 : decode cX2_isLastOf 50 = .ok (.iload_n 2, 1) := by decide +kernel
theorem dX2_isLastOf_51 : decode cX2_isLastOf 51 = .ok (.iload_n 3, 1) := by decide +kernel
theorem dX2_isLastOf_52 : decode cX2_isLastOf 52 = .ok (.iadd, 1) := by decide +kernel
theorem dX2_isLastOf_53 : decode cX2_isLastOf 53 = .ok (.iaload, 1) := by decide +kernel
theorem dX2_isLastOf_54 : decode cX2_isLastOf 54 = .ok (.if_icmp .eq 5, 3) := by decide +kernel
theorem dX2_isLastOf_57 : decode cX2_isLastOf 57 = .ok (.iconst 0, 1) := by decide +kernel
theorem dX2_isLastOf_58 : decode cX2_isLastOf 58 = .ok (.ireturn, 1) := by decide +kernel
theorem dX2_isLastOf_59 : decode cX2_isLastOf 59 = .ok (.iinc 3 1, 3) := by decide +kernel
theorem dX2_isLastOf_62 : decode cX2_isLastOf 62 = .ok (.goto (-30), 3) := by decide +kernel
theorem dX2_isLastOf_65 : decode cX2_isLastOf 65 = .ok (.iconst 1, 1) := by decide +kernel
theorem dX2_isLastOf_66 : decode cX2_isLastOf 66 = .ok (.ireturn, 1) := by decide +kernel
theorem dX2_takeIn_0 : decode cX2_takeIn 0 = .ok (.aload_n 0, 1) := by decide +kernel
theorem dX2_takeIn_1 : decode cX2_takeIn 1 = .ok (.iload_n 1, 1) := by decide +kernel
theorem dX2_takeIn_2 : decode cX2_takeIn 2 = .ok (.iload_n 2, 1) := by decide +kernel
theorem dX2_takeIn_3 : decode cX2_takeIn 3 = .ok (.invokevirtual 88, 3) := by decide +kernel
theorem dX2_takeIn_6 : decode cX2_takeIn 6 = .ok (.aload_n 0, 1) := by decide +kernel
theorem dX2_takeIn_7 : decode cX2_takeIn 7 = .ok (.invokevirtual 90, 3) := by decide +kernel
theorem dX2_takeIn_10 : decode cX2_takeIn 10 = .ok (.ifCond .eq 28, 3) := by decide +kernel
theorem dX2_takeIn_13 : decode cX2_takeIn 13 = .ok (.aload_n 0, 1) := by decide +kernel
theorem dX2_takeIn_14 : decode cX2_takeIn 14 = .ok (.dup, 1) := by decide +kernel
theorem dX2_takeIn_15 : decode cX2_takeIn 15 = .ok (.getfield 22, 3) := by decide +kernel
theorem dX2_takeIn_18 : decode cX2_takeIn 18 = .ok (.iconst 1, 1) := by decide +kernel
theorem dX2_takeIn_19 : decode cX2_takeIn 19 = .ok (.iadd, 1) := by decide +kernel
theorem dX2_takeIn_20 : decode cX2_takeIn 20 = .ok (.putfield 22, 3) := by decide +kernel
theorem dX2_takeIn_23 : decode cX2_takeIn 23 = .ok (.aload_n 0, 1) := by decide +kernel
theorem dX2_takeIn_24 : decode cX2_takeIn 24 = .ok (.aload_n 0, 1) := by decide +kernel
theorem dX2_takeIn_25 : decode cX2_takeIn 25 = .ok (.getfield 9, 3) := by decide +kernel
theorem dX2_takeIn_28 : decode cX2_takeIn 28 = .ok (.iconst 0, 1) := by decide +kernel
theorem dX2_takeIn_29 : decode cX2_takeIn 29 = .ok (.iaload, 1) := by decide +kernel
theorem dX2_takeIn_30 : decode cX2_takeIn 30 = .ok (.putfield 25, 3) := by decide +kernel
theorem dX2_takeIn_33 : decode cX2_takeIn 33 = .ok (.aload_n 0, 1) := by decide +kernel
theorem dX2_takeIn_34 : decode cX2_takeIn 34 = .ok (.iconst 0, 1) := by decide +kernel
theorem dX2_takeIn_35 : decode cX2_takeIn 35 = .ok (.invokevirtual 62, 3) := by decide +kernel
theorem dX2_takeIn_38 : decode cX2_takeIn 38 = .ok (.return_, 1) := by decide +kernel
theorem dX2_noteAsking_0 : decode cX2_noteAsking 0 = .ok (.aload_n 0, 1) := by decide +kernel
theorem dX2_noteAsking_1 : decode cX2_noteAsking 1 = .ok (.getfield 28, 3) := by decide +kernel
theorem dX2_noteAsking_4 : decode cX2_noteAsking 4 = .ok (.ifCond .eq 11, 3) := by decide +kernel
theorem dX2_noteAsking_7 : decode cX2_noteAsking 7 = .ok (.aload_n 0, 1) := by decide +kernel
theorem dX2_noteAsking_8 : decode cX2_noteAsking 8 = .ok (.iload_n 1, 1) := by decide +kernel
theorem dX2_noteAsking_9 : decode cX2_noteAsking 9 = .ok (.invokevirtual 65, 3) := by decide +kernel
theorem dX2_noteAsking_12 : decode cX2_noteAsking 12 = .ok (.ifCond .ne 4, 3) := by decide +kernel
theorem dX2_noteAsking_15 : decode cX2_noteAsking 15 = .ok (.return_, 1) := by decide +kernel
theorem dX2_noteAsking_16 : decode cX2_noteAsking 16 = .ok (.aload_n 0, 1) := by decide +kernel
theorem dX2_noteAsking_17 : decode cX2_noteAsking 17 = .ok (.getfield 9, 3) := by decide +kernel
theorem dX2_noteAsking_20 : decode cX2_noteAsking 20 = .ok (.iload_n 1, 1) := by decide +kernel
theorem dX2_noteAsking_21 : decode cX2_noteAsking 21 = .ok (.iaload, 1) := by decide +kernel
theorem dX2_noteAsking_22 : decode cX2_noteAsking 22 = .ok (.istore_n 2, 1) := by decide +kernel
theorem dX2_noteAsking_23 : decode cX2_noteAsking 23 = .ok (.aload_n 0, 1) := by decide +kernel
theorem dX2_noteAsking_24 : decode cX2_noteAsking 24 = .ok (.getfield 15, 3) := by decide +kernel
theorem dX2_noteAsking_27 : decode cX2_noteAsking 27 = .ok (.iload_n 1, 1) := by decide +kernel
theorem dX2_noteAsking_28 : decode cX2_noteAsking 28 = .ok (.iaload, 1) := by decide +kernel
theorem dX2_noteAsking_29 : decode cX2_noteAsking 29 = .ok (.istore_n 3, 1) := by decide +kernel
theorem dX2_noteAsking_30 : decode cX2_noteAsking 30 = .ok (.aload_n 0, 1) := by decide +kernel
theorem dX2_noteAsking_31 : decode cX2_noteAsking 31 = .ok (.iload_n 1, 1) := by decide +kernel
theorem dX2_noteAsking_32 : decode cX2_noteAsking 32 = .ok (.invokevirtual 62, 3) := by decide +kernel
theorem dX2_noteAsking_35 : decode cX2_noteAsking 35 = .ok (.aload_n 0, 1) := by decide +kernel
theorem dX2_noteAsking_36 : decode cX2_noteAsking 36 = .ok (.iload_n 2, 1) := by decide +kernel
theorem dX2_noteAsking_37 : decode cX2_noteAsking 37 = .ok (.iload_n 3, 1) := by decide +kernel
theorem dX2_noteAsking_38 : decode cX2_noteAsking 38 = .ok (.invokevirtual 88, 3) := by decide +kernel
theorem dX2_noteAsking_41 : decode cX2_noteAsking 41 = .ok (.return_, 1) := by decide +kernel
theorem dX2_append_0 : decode cX2_append 0 = .ok (.aload_n 0, 1) := by decide +kernel
theorem dX2_append_1 : decode cX2_append 1 = .ok (.getfield 18, 3) := by decide +kernel
theorem dX2_append_4 : decode cX2_append 4 = .ok (.bipush 20, 2) := by decide +kernel
theorem dX2_append_6 : decode cX2_append 6 = .ok (.if_icmp .ge 33, 3) := by decide +kernel
theorem dX2_append_9 : decode cX2_append 9 = .ok (.aload_n 0, 1) := by decide +kernel
theorem dX2_append_10 : decode cX2_append 10 = .ok (.getfield 9, 3) := by decide +kernel
theorem dX2_append_13 : decode cX2_append 13 = .ok (.aload_n 0, 1) := by decide +kernel
theorem dX2_append_14 : decode cX2_append 14 = .ok (.getfield 18, 3) := by decide +kernel
theorem dX2_append_17 : decode cX2_append 17 = .ok (.iload_n 1, 1) := by decide +kernel
theorem dX2_append_18 : decode cX2_append 18 = .ok (.iastore, 1) := by decide +kernel
theorem dX2_append_19 : decode cX2_append 19 = .ok (.aload_n 0, 1) := by decide +kernel
theorem dX2_append_20 : decode cX2_append 20 = .ok (.getfield 15, 3) := by decide +kernel
theorem dX2_append_23 : decode cX2_append 23 = .ok (.aload_n 0, 1) := by decide +kernel
theorem dX2_append_24 : decode cX2_append 24 = .ok (.getfield 18, 3) := by decide +kernel
theorem dX2_append_27 : decode cX2_append 27 = .ok (.iload_n 2, 1) := by decide +kernel
theorem dX2_append_28 : decode cX2_append 28 = .ok (.iastore, 1) := by decide +kernel
theorem dX2_append_29 : decode cX2_append 29 = .ok (.aload_n 0, 1) := by decide +kernel
theorem dX2_append_30 : decode cX2_append 30 = .ok (.dup, 1) := by decide +kernel
theorem dX2_append_31 : decode cX2_append 31 = .ok (.getfield 18, 3) := by decide +kernel
theorem dX2_append_34 : decode cX2_append 34 = .ok (.iconst 1, 1) := by decide +kernel
theorem dX2_append_35 : decode cX2_append 35 = .ok (.iadd, 1) := by decide +kernel
theorem dX2_append_36 : decode cX2_append 36 = .ok (.putfield 18, 3) := by decide +kernel
theorem dX2_append_39 : decode cX2_append 39 = .ok (.return_, 1) := by decide +kernel
theorem dX3_init_0 : decode cX3_init 0 = .ok (.aload_n 0, 1) := by decide +kernel
theorem dX3_init_1 : decode cX3_init 1 = .ok (.invokespecial 1, 3) := by decide +kernel
theorem dX3_init_4 : decode cX3_init 4 = .ok (.aload_n 0, 1) := by decide +kernel
theorem dX3_init_5 : decode cX3_init 5 = .ok (.aload_n 1, 1) := by decide +kernel
theorem dX3_init_6 : decode cX3_init 6 = .ok (.putfield 7, 3) := by decide +kernel
theorem dX3_init_9 : decode cX3_init 9 = .ok (.aload_n 0, 1) := by decide +kernel
theorem dX3_init_10 : decode cX3_init 10 = .ok (.new 13, 3) := by decide +kernel
theorem dX3_init_13 : decode cX3_init 13 = .ok (.dup, 1) := by decide +kernel
theorem dX3_init_14 : decode cX3_init 14 = .ok (.aload_n 1, 1) := by decide +kernel
theorem dX3_init_15 : decode cX3_init 15 = .ok (.invokespecial 15, 3) := by decide +kernel
theorem dX3_init_18 : decode cX3_init 18 = .ok (.putfield 18, 3) := by decide +kernel
theorem dX3_init_21 : decode cX3_init 21 = .ok (.return_, 1) := by decide +kernel
theorem dX4_init_0 : decode cX4_init 0 = .ok (.aload_n 0, 1) := by decide +kernel
theorem dX4_init_1 : decode cX4_init 1 = .ok (.invokespecial 3, 3) := by decide +kernel
theorem dX4_init_4 : decode cX4_init 4 = .ok (.aload_n 0, 1) := by decide +kernel
theorem dX4_init_5 : decode cX4_init 5 = .ok (.iconst 0, 1) := by decide +kernel
theorem dX4_init_6 : decode cX4_init 6 = .ok (.putfield 9, 3) := by decide +kernel
theorem dX4_init_9 : decode cX4_init 9 = .ok (.aload_n 0, 1) := by decide +kernel
theorem dX4_init_10 : decode cX4_init 10 = .ok (.iconst 0, 1) := by decide +kernel
theorem dX4_init_11 : decode cX4_init 11 = .ok (.putfield 15, 3) := by decide +kernel
theorem dX4_init_14 : decode cX4_init 14 = .ok (.aload_n 0, 1) := by decide +kernel
theorem dX4_init_15 : decode cX4_init 15 = .ok (.iconst 0, 1) := by decide +kernel
theorem dX4_init_16 : decode cX4_init 16 = .ok (.putfield 18, 3) := by decide +kernel
theorem dX4_init_19 : decode cX4_init 19 = .ok (.aload_n 0, 1) := by decide +kernel
theorem dX4_init_20 : decode cX4_init 20 = .ok (.iconst 0, 1) := by decide +kernel
theorem dX4_init_21 : decode cX4_init 21 = .ok (.putfield 21, 3) := by decide +kernel
theorem dX4_init_24 : decode cX4_init 24 = .ok (.aload_n 0, 1) := by decide +kernel
theorem dX4_init_25 : decode cX4_init 25 = .ok (.iconst 0, 1) := by decide +kernel
theorem dX4_init_26 : decode cX4_init 26 = .ok (.putfield 25, 3) := by decide +kernel
theorem dX4_init_29 : decode cX4_init 29 = .ok (.aload_n 0, 1) := by decide +kernel
theorem dX4_init_30 : decode cX4_init 30 = .ok (.aload_n 1, 1) := by decide +kernel
theorem dX4_init_31 : decode cX4_init 31 = .ok (.putfield 28, 3) := by decide +kernel
theorem dX4_init_34 : decode cX4_init 34 = .ok (.return_, 1) := by decide +kernel
theorem dX4_begin_0 : decode cX4_begin 0 = .ok (.aload_n 0, 1) := by decide +kernel
theorem dX4_begin_1 : decode cX4_begin 1 = .ok (.iconst 1, 1) := by decide +kernel
theorem dX4_begin_2 : decode cX4_begin 2 = .ok (.putfield 9, 3) := by decide +kernel
theorem dX4_begin_5 : decode cX4_begin 5 = .ok (.aload_n 0, 1) := by decide +kernel
theorem dX4_begin_6 : decode cX4_begin 6 = .ok (.iconst 0, 1) := by decide +kernel
theorem dX4_begin_7 : decode cX4_begin 7 = .ok (.putfield 15, 3) := by decide +kernel
theorem dX4_begin_10 : decode cX4_begin 10 = .ok (.aload_n 0, 1) := by decide +kernel
theorem dX4_begin_11 : decode cX4_begin 11 = .ok (.iconst 0, 1) := by decide +kernel
theorem dX4_begin_12 : decode cX4_begin 12 = .ok (.putfield 18, 3) := by decide +kernel
theorem dX4_begin_15 : decode cX4_begin 15 = .ok (.aload_n 0, 1) := by decide +kernel
theorem dX4_begin_16 : decode cX4_begin 16 = .ok (.iload_n 1, 1) := by decide +kernel
theorem dX4_begin_17 : decode cX4_begin 17 = .ok (.putfield 21, 3) := by decide +kernel
theorem dX4_begin_20 : decode cX4_begin 20 = .ok (.aload_n 0, 1) := by decide +kernel
theorem dX4_begin_21 : decode cX4_begin 21 = .ok (.iconst 0, 1) := by decide +kernel
theorem dX4_begin_22 : decode cX4_begin 22 = .ok (.putfield 25, 3) := by decide +kernel
theorem dX4_begin_25 : decode cX4_begin 25 = .ok (.return_, 1) := by decide +kernel
theorem dX4_outdate_0 : decode cX4_outdate 0 = .ok (.aload_n 0, 1) := by decide +kernel
theorem dX4_outdate_1 : decode cX4_outdate 1 = .ok (.iconst 1, 1) := by decide +kernel
theorem dX4_outdate_2 : decode cX4_outdate 2 = .ok (.putfield 15, 3) := by decide +kernel
theorem dX4_outdate_5 : decode cX4_outdate 5 = .ok (.return_, 1) := by decide +kernel
theorem dX4_isUsable_0 : decode cX4_isUsable 0 = .ok (.aload_n 0, 1) := by decide +kernel
theorem dX4_isUsable_1 : decode cX4_isUsable 1 = .ok (.getfield 9, 3) := by decide +kernel
theorem dX4_isUsable_4 : decode cX4_isUsable 4 = .ok (.ifCond .eq 14, 3) := by decide +kernel
theorem dX4_isUsable_7 : decode cX4_isUsable 7 = .ok (.aload_n 0, 1) := by decide +kernel
theorem dX4_isUsable_8 : decode cX4_isUsable 8 = .ok (.getfield 15, 3) := by decide +kernel
theorem dX4_isUsable_11 : decode cX4_isUsable 11 = .ok (.ifCond .ne 7, 3) := by decide +kernel
theorem dX4_isUsable_14 : decode cX4_isUsable 14 = .ok (.iconst 1, 1) := by decide +kernel
theorem dX4_isUsable_15 : decode cX4_isUsable 15 = .ok (.goto 4, 3) := by decide +kernel
theorem dX4_isUsable_18 : decode cX4_isUsable 18 = .ok (.iconst 0, 1) := by decide +kernel
theorem dX4_isUsable_19 : decode cX4_isUsable 19 = .ok (.ireturn, 1) := by decide +kernel
theorem dX4_isOutdated_0 : decode cX4_isOutdated 0 = .ok (.aload_n 0, 1) := by decide +kernel
theorem dX4_isOutdated_1 : decode cX4_isOutdated 1 = .ok (.getfield 9, 3) := by decide +kernel
theorem dX4_isOutdated_4 : decode cX4_isOutdated 4 = .ok (.ifCond .eq 14, 3) := by decide +kernel
theorem dX4_isOutdated_7 : decode cX4_isOutdated 7 = .ok (.aload_n 0, 1) := by decide +kernel
theorem dX4_isOutdated_8 : decode cX4_isOutdated 8 = .ok (.getfield 15, 3) := by decide +kernel
theorem dX4_isOutdated_11 : decode cX4_isOutdated 11 = .ok (.ifCond .eq 7, 3) := by decide +kernel
theorem dX4_isOutdated_14 : decode cX4_isOutdated 14 = .ok (.iconst 1, 1) := by decide +kernel
theorem dX4_isOutdated_15 : decode cX4_isOutdated 15 = .ok (.goto 4, 3) := by decide +kernel
theorem dX4_isOutdated_18 : decode cX4_isOutdated 18 = .ok (.iconst 0, 1) := by decide +kernel
theorem dX4_isOutdated_19 : decode cX4_isOutdated 19 = .ok (.ireturn, 1) := by decide +kernel
theorem dX4_isAnyAhead_0 : decode cX4_isAnyAhead 0 = .ok (.aload_n 0, 1) := by decide +kernel
theorem dX4_isAnyAhead_1 : decode cX4_isAnyAhead 1 = .ok (.invokevirtual 32, 3) := by decide +kernel
theorem dX4_isAnyAhead_4 : decode cX4_isAnyAhead 4 = .ok (.ifCond .eq 21, 3) := by decide +kernel
theorem dX4_isAnyAhead_7 : decode cX4_isAnyAhead 7 = .ok (.aload_n 0, 1) := by decide +kernel
theorem dX4_isAnyAhead_8 : decode cX4_isAnyAhead 8 = .ok (.getfield 28, 3) := by decide +kernel
theorem dX4_isAnyAhead_11 : decode cX4_isAnyAhead 11 = .ok (.aload_n 0, 1) := by decide +kernel
theorem dX4_isAnyAhead_12 : decode cX4_isAnyAhead 12 = .ok (.getfield 25, 3) := by decide +kernel
theorem dX4_isAnyAhead_15 : decode cX4_isAnyAhead 15 = .ok (.invokevirtual 36, 3) := by decide +kernel
theorem dX4_isAnyAhead_18 : decode cX4_isAnyAhead 18 = .ok (.ifCond .eq 7, 3) := by decide +kernel
theorem dX4_isAnyAhead_21 : decode cX4_isAnyAhead 21 = .ok (.iconst 1, 1) := by decide +kernel
theorem dX4_isAnyAhead_22 : decode cX4_isAnyAhead 22 = .ok (.goto 4, 3) := by decide +kernel
theorem dX4_isAnyAhead_25 : decode cX4_isAnyAhead 25 = .ok (.iconst 0, 1) := by decide +kernel
theorem dX4_isAnyAhead_26 : decode cX4_isAnyAhead 26 = .ok (.ireturn, 1) := by decide +kernel
theorem dX4_canCut_0 : decode cX4_canCut 0 = .ok (.aload_n 0, 1) := by decide +kernel
theorem dX4_canCut_1 : decode cX4_canCut 1 = .ok (.invokevirtual 32, 3) := by decide +kernel
theorem dX4_canCut_4 : decode cX4_canCut 4 = .ok (.ifCond .eq 14, 3) := by decide +kernel
theorem dX4_canCut_7 : decode cX4_canCut 7 = .ok (.aload_n 0, 1) := by decide +kernel
theorem dX4_canCut_8 : decode cX4_canCut 8 = .ok (.getfield 18, 3) := by decide +kernel
theorem dX4_canCut_11 : decode cX4_canCut 11 = .ok (.ifCond .eq 7, 3) := by decide +kernel
theorem dX4_canCut_14 : decode cX4_canCut 14 = .ok (.iconst 1, 1) := by decide +kernel
theorem dX4_canCut_15 : decode cX4_canCut 15 = .ok (.goto 4, 3) := by decide +kernel
theorem dX4_canCut_18 : decode cX4_canCut 18 = .ok (.iconst 0, 1) := by decide +kernel
theorem dX4_canCut_19 : decode cX4_canCut 19 = .ok (.ireturn, 1) := by decide +kernel
theorem dX4_advance_0 : decode cX4_advance 0 = .ok (.aload_n 0, 1) := by decide +kernel
theorem dX4_advance_1 : decode cX4_advance 1 = .ok (.getfield 28, 3) := by decide +kernel
theorem dX4_advance_4 : decode cX4_advance 4 = .ok (.aload_n 0, 1) := by decide +kernel
theorem dX4_advance_5 : decode cX4_advance 5 = .ok (.getfield 25, 3) := by decide +kernel
theorem dX4_advance_8 : decode cX4_advance 8 = .ok (.aload_n 0, 1) := by decide +kernel
theorem dX4_advance_9 : decode cX4_advance 9 = .ok (.getfield 21, 3) := by decide +kernel
theorem dX4_advance_12 : decode cX4_advance 12 = .ok (.invokevirtual 42, 3) := by decide +kernel
theorem dX4_advance_15 : decode cX4_advance 15 = .ok (.istore_n 1, 1) := by decide +kernel
theorem dX4_advance_16 : decode cX4_advance 16 = .ok (.aload_n 0, 1) := by decide +kernel
theorem dX4_advance_17 : decode cX4_advance 17 = .ok (.dup, 1) := by decide +kernel
theorem dX4_advance_18 : decode cX4_advance 18 = .ok (.getfield 25, 3) := by decide +kernel
theorem dX4_advance_21 : decode cX4_advance 21 = .ok (.iconst 1, 1) := by decide +kernel
theorem dX4_advance_22 : decode cX4_advance 22 = .ok (.iadd, 1) := by decide +kernel
theorem dX4_advance_23 : decode cX4_advance 23 = .ok (.putfield 25, 3) := by decide +kernel
theorem dX4_advance_26 : decode cX4_advance 26 = .ok (.aload_n 0, 1) := by decide +kernel
theorem dX4_advance_27 : decode cX4_advance 27 = .ok (.iconst 1, 1) := by decide +kernel
theorem dX4_advance_28 : decode cX4_advance 28 = .ok (.putfield 18, 3) := by decide +kernel
theorem dX4_advance_31 : decode cX4_advance 31 = .ok (.iload_n 1, 1) := by decide +kernel
theorem dX4_advance_32 : decode cX4_advance 32 = .ok (.ireturn, 1) := by decide +kernel
theorem dX4_advanceToEnd_0 : decode cX4_advanceToEnd 0 = .ok (.aload_n 0, 1) := by decide +kernel
theorem dX4_advanceToEnd_1 : decode cX4_advanceToEnd 1 = .ok (.getfield 28, 3) := by decide +kernel
theorem dX4_advanceToEnd_4 : decode cX4_advanceToEnd 4 = .ok (.getfield 46, 3) := by decide +kernel
theorem dX4_advanceToEnd_7 : decode cX4_advanceToEnd 7 = .ok (.aload_n 0, 1) := by decide +kernel
theorem dX4_advanceToEnd_8 : decode cX4_advanceToEnd 8 = .ok (.getfield 25, 3) := by decide +kernel
theorem dX4_advanceToEnd_11 : decode cX4_advanceToEnd 11 = .ok (.isub, 1) := by decide +kernel
theorem dX4_advanceToEnd_12 : decode cX4_advanceToEnd 12 = .ok (.istore_n 1, 1) := by decide +kernel
theorem dX4_advanceToEnd_13 : decode cX4_advanceToEnd 13 = .ok (.iconst 0, 1) := by decide +kernel
theorem dX4_advanceToEnd_14 : decode cX4_advanceToEnd 14 = .ok (.istore_n 2, 1) := by decide +kernel
theorem dX4_advanceToEnd_15 : decode cX4_advanceToEnd 15 = .ok (.iconst 0, 1) := by decide +kernel
theorem dX4_advanceToEnd_16 : decode cX4_advanceToEnd 16 = .ok (.istore_n 3, 1) := by decide +kernel
theorem dX4_advanceToEnd_17 : decode cX4_advanceToEnd 17 = .ok (.iload_n 3, 1) := by decide +kernel
theorem dX4_advanceToEnd_18 : decode cX4_advanceToEnd 18 = .ok (.iload_n 1, 1) := by decide +kernel
theorem dX4_advanceToEnd_19 : decode cX4_advanceToEnd 19 = .ok (.if_icmp .ge 16, 3) := by decide +kernel
theorem dX4_advanceToEnd_22 : decode cX4_advanceToEnd 22 = .ok (.iload_n 2, 1) := by decide +kernel
theorem dX4_advanceToEnd_23 : decode cX4_advanceToEnd 23 = .ok (.aload_n 0, 1) := by decide +kernel
theorem dX4_advanceToEnd_24 : decode cX4_advanceToEnd 24 = .ok (.invokevirtual 49, 3) := by decide +kernel
theorem dX4_advanceToEnd_27 : decode cX4_advanceToEnd 27 = .ok (.iadd, 1) := by decide +kernel
theorem dX4_advanceToEnd_28 : decode cX4_advanceToEnd 28 = .ok (.istore_n 2, 1) := by decide +kernel
theorem dX4_advanceToEnd_29 : decode cX4_advanceToEnd 29 = .ok (.iinc 3 1, 3) := by decide +kernel
theorem dX4_advanceToEnd_32 : decode cX4_advanceToEnd 32 = .ok (.goto (-15), 3) := by decide +kernel
theorem dX4_advanceToEnd_35 : decode cX4_advanceToEnd 35 = .ok (.iload_n 2, 1) := by decide +kernel
theorem dX4_advanceToEnd_36 : decode cX4_advanceToEnd 36 = .ok (.ireturn, 1) := by decide +kernel
theorem dX4_cutLast_0 : decode cX4_cutLast 0 = .ok (.aload_n 0, 1) := by decide +kernel
theorem dX4_cutLast_1 : decode cX4_cutLast 1 = .ok (.dup, 1) := by decide +kernel
theorem dX4_cutLast_2 : decode cX4_cutLast 2 = .ok (.getfield 25, 3) := by decide +kernel
theorem dX4_cutLast_5 : decode cX4_cutLast 5 = .ok (.iconst 1, 1) := by decide +kernel
theorem dX4_cutLast_6 : decode cX4_cutLast 6 = .ok (.isub, 1) := by decide +kernel
theorem dX4_cutLast_7 : decode cX4_cutLast 7 = .ok (.putfield 25, 3) := by decide +kernel
theorem dX4_cutLast_10 : decode cX4_cutLast 10 = .ok (.aload_n 0, 1) := by decide +kernel
theorem dX4_cutLast_11 : decode cX4_cutLast 11 = .ok (.iconst 0, 1) := by decide +kernel
theorem dX4_cutLast_12 : decode cX4_cutLast 12 = .ok (.putfield 18, 3) := by decide +kernel
theorem dX4_cutLast_15 : decode cX4_cutLast 15 = .ok (.aload_n 0, 1) := by decide +kernel
theorem dX4_cutLast_16 : decode cX4_cutLast 16 = .ok (.getfield 28, 3) := by decide +kernel
theorem dX4_cutLast_19 : decode cX4_cutLast 19 = .ok (.aload_n 0, 1) := by decide +kernel
theorem dX4_cutLast_20 : decode cX4_cutLast 20 = .ok (.getfield 25, 3) := by decide +kernel
theorem dX4_cutLast_23 : decode cX4_cutLast 23 = .ok (.invokevirtual 53, 3) := by decide +kernel
theorem dX4_cutLast_26 : decode cX4_cutLast 26 = .ok (.return_, 1) := by decide +kernel
theorem dX5_init_0 : decode cX5_init 0 = .ok (.aload_n 0, 1) := by decide +kernel
theorem dX5_init_1 : decode cX5_init 1 = .ok (.invokespecial 1, 3) := by decide +kernel
theorem dX5_init_4 : decode cX5_init 4 = .ok (.aload_n 0, 1) := by decide +kernel
theorem dX5_init_5 : decode cX5_init 5 = .ok (.iconst 4, 1) := by decide +kernel
theorem dX5_init_6 : decode cX5_init 6 = .ok (.anewarray 9, 3) := by decide +kernel
theorem dX5_init_9 : decode cX5_init 9 = .ok (.putfield 11, 3) := by decide +kernel
theorem dX5_init_12 : decode cX5_init 12 = .ok (.aload_n 0, 1) := by decide +kernel
theorem dX5_init_13 : decode cX5_init 13 = .ok (.new 15, 3) := by decide +kernel
theorem dX5_init_16 : decode cX5_init 16 = .ok (.dup, 1) := by decide +kernel
theorem dX5_init_17 : decode cX5_init 17 = .ok (.invokespecial 17, 3) := by decide +kernel
theorem dX5_init_20 : decode cX5_init 20 = .ok (.putfield 18, 3) := by decide +kernel
theorem dX5_init_23 : decode cX5_init 23 = .ok (.aload_n 0, 1) := by decide +kernel
theorem dX5_init_24 : decode cX5_init 24 = .ok (.new 22, 3) := by decide +kernel
theorem dX5_init_27 : decode cX5_init 27 = .ok (.dup, 1) := by decide +kernel
theorem dX5_init_28 : decode cX5_init 28 = .ok (.iconst 1, 1) := by decide +kernel
theorem dX5_init_29 : decode cX5_init 29 = .ok (.iconst (-1), 1) := by decide +kernel
theorem dX5_init_30 : decode cX5_init 30 = .ok (.invokespecial 24, 3) := by decide +kernel
theorem dX5_init_33 : decode cX5_init 33 = .ok (.putfield 27, 3) := by decide +kernel
theorem dX5_init_36 : decode cX5_init 36 = .ok (.aload_n 0, 1) := by decide +kernel
theorem dX5_init_37 : decode cX5_init 37 = .ok (.bipush 6, 2) := by decide +kernel
theorem dX5_init_39 : decode cX5_init 39 = .ok (.anewarray 31, 3) := by decide +kernel
theorem dX5_init_42 : decode cX5_init 42 = .ok (.putfield 33, 3) := by decide +kernel
theorem dX5_init_45 : decode cX5_init 45 = .ok (.aload_n 0, 1) := by decide +kernel
theorem dX5_init_46 : decode cX5_init 46 = .ok (.bipush 6, 2) := by decide +kernel
theorem dX5_init_48 : decode cX5_init 48 = .ok (.newarray .int, 2) := by decide +kernel
theorem dX5_init_50 : decode cX5_init 50 = .ok (.putfield 37, 3) := by decide +kernel
theorem dX5_init_53 : decode cX5_init 53 = .ok (.aload_n 0, 1) := by decide +kernel
theorem dX5_init_54 : decode cX5_init 54 = .ok (.iconst 0, 1) := by decide +kernel
theorem dX5_init_55 : decode cX5_init 55 = .ok (.putfield 41, 3) := by decide +kernel
theorem dX5_init_58 : decode cX5_init 58 = .ok (.aload_n 0, 1) := by decide +kernel
theorem dX5_init_59 : decode cX5_init 59 = .ok (.iconst 0, 1) := by decide +kernel
theorem dX5_init_60 : decode cX5_init 60 = .ok (.putfield 45, 3) := by decide +kernel
theorem dX5_init_63 : decode cX5_init 63 = .ok (.iconst 0, 1) := by decide +kernel
theorem dX5_init_64 : decode cX5_init 64 = .ok (.istore_n 1, 1) := by decide +kernel
theorem dX5_init_65 : decode cX5_init 65 = .ok (.iload_n 1, 1) := by decide +kernel
theorem dX5_init_66 : decode cX5_init 66 = .ok (.iconst 4, 1) := by decide +kernel
theorem dX5_init_67 : decode cX5_init 67 = .ok (.if_icmp .ge 31, 3) := by decide +kernel
theorem dX5_init_70 : decode cX5_init 70 = .ok (.aload_n 0, 1) := by decide +kernel
theorem dX5_init_71 : decode cX5_init 71 = .ok (.getfield 11, 3) := by decide +kernel
theorem dX5_init_74 : decode cX5_init 74 = .ok (.iload_n 1, 1) := by decide +kernel
theorem dX5_init_75 : decode cX5_init 75 = .ok (.new 9, 3) := by decide +kernel
theorem dX5_init_78 : decode cX5_init 78 = .ok (.dup, 1) := by decide +kernel
theorem dX5_init_79 : decode cX5_init 79 = .ok (.new 22, 3) := by decide +kernel
theorem dX5_init_82 : decode cX5_init 82 = .ok (.dup, 1) := by decide +kernel
theorem dX5_init_83 : decode cX5_init 83 = .ok (.iconst 0, 1) := by decide +kernel
theorem dX5_init_84 : decode cX5_init 84 = .ok (.iconst (-1), 1) := by decide +kernel
theorem dX5_init_85 : decode cX5_init 85 = .ok (.invokespecial 24, 3) := by decide +kernel
theorem dX5_init_88 : decode cX5_init 88 = .ok (.invokespecial 48, 3) := by decide +kernel
theorem dX5_init_91 : decode cX5_init 91 = .ok (.aastore, 1) := by decide +kernel
theorem dX5_init_92 : decode cX5_init 92 = .ok (.iinc 1 1, 3) := by decide +kernel
theorem dX5_init_95 : decode cX5_init 95 = .ok (.goto (-30), 3) := by decide +kernel
theorem dX5_init_98 : decode cX5_init 98 = .ok (.iconst 0, 1) := by decide +kernel
theorem dX5_init_99 : decode cX5_init 99 = .ok (.istore_n 1, 1) := by decide +kernel
theorem dX5_init_100 : decode cX5_init 100 = .ok (.iload_n 1, 1) := by decide +kernel
theorem dX5_init_101 : decode cX5_init 101 = .ok (.bipush 6, 2) := by decide +kernel
theorem dX5_init_103 : decode cX5_init 103 = .ok (.if_icmp .ge 25, 3) := by decide +kernel
theorem dX5_init_106 : decode cX5_init 106 = .ok (.aload_n 0, 1) := by decide +kernel
theorem dX5_init_107 : decode cX5_init 107 = .ok (.getfield 33, 3) := by decide +kernel
theorem dX5_init_110 : decode cX5_init 110 = .ok (.iload_n 1, 1) := by decide +kernel
theorem dX5_init_111 : decode cX5_init 111 = .ok (.new 31, 3) := by decide +kernel
theorem dX5_init_114 : decode cX5_init 114 = .ok (.dup, 1) := by decide +kernel
theorem dX5_init_115 : decode cX5_init 115 = .ok (.iload_n 1, 1) := by decide +kernel
theorem dX5_init_116 : decode cX5_init 116 = .ok (.iconst 1, 1) := by decide +kernel
theorem dX5_init_117 : decode cX5_init 117 = .ok (.iadd, 1) := by decide +kernel
theorem dX5_init_118 : decode cX5_init 118 = .ok (.invokespecial 51, 3) := by decide +kernel
theorem dX5_init_121 : decode cX5_init 121 = .ok (.aastore, 1) := by decide +kernel
theorem dX5_init_122 : decode cX5_init 122 = .ok (.iinc 1 1, 3) := by decide +kernel
theorem dX5_init_125 : decode cX5_init 125 = .ok (.goto (-25), 3) := by decide +kernel
theorem dX5_init_128 : decode cX5_init 128 = .ok (.return_, 1) := by decide +kernel
theorem dX5_make_0 : decode cX5_make 0 = .ok (.aload_n 0, 1) := by decide +kernel
theorem dX5_make_1 : decode cX5_make 1 = .ok (.iload_n 1, 1) := by decide +kernel
theorem dX5_make_2 : decode cX5_make 2 = .ok (.invokevirtual 54, 3) := by decide +kernel
theorem dX5_make_5 : decode cX5_make 5 = .ok (.astore 4, 2) := by decide +kernel
theorem dX5_make_7 : decode cX5_make 7 = .ok (.iload_n 3, 1) := by decide +kernel
theorem dX5_make_8 : decode cX5_make 8 = .ok (.iconst (-1), 1) := by decide +kernel
theorem dX5_make_9 : decode cX5_make 9 = .ok (.if_icmp .eq 24, 3) := by decide +kernel
theorem dX5_make_12 : decode cX5_make 12 = .ok (.iload_n 3, 1) := by decide +kernel
theorem dX5_make_13 : decode cX5_make 13 = .ok (.iconst 1, 1) := by decide +kernel
theorem dX5_make_14 : decode cX5_make 14 = .ok (.if_icmp .lt 9, 3) := by decide +kernel
theorem dX5_make_17 : decode cX5_make 17 = .ok (.iload_n 3, 1) := by decide +kernel
theorem dX5_make_18 : decode cX5_make 18 = .ok (.bipush 12, 2) := by decide +kernel
theorem dX5_make_20 : decode cX5_make 20 = .ok (.if_icmp .le 13, 3) := by decide +kernel
theorem dX5_make_23 : decode cX5_make 23 = .ok (.new 58, 3) := by decide +kernel
theorem dX5_make_26 : decode cX5_make 26 = .ok (.dup, 1) := by decide +kernel
theorem dX5_make_27 : decode cX5_make 27 = .ok (.ldc 60, 2) := by decide +kernel
theorem dX5_make_29 : decode cX5_make 29 = .ok (.invokespecial 62, 3) := by decide +kernel
theorem dX5_make_32 : decode cX5_make 32 = .ok (.athrow, 1) := by decide +kernel
theorem dX5_make_33 : decode cX5_make 33 = .ok (.aload 4, 2) := by decide +kernel
theorem dX5_make_35 : decode cX5_make 35 = .ok (.getfield 65, 3) := by decide +kernel
theorem dX5_make_38 : decode cX5_make 38 = .ok (.invokevirtual 69, 3) := by decide +kernel
theorem dX5_make_41 : decode cX5_make 41 = .ok (.aload 4, 2) := by decide +kernel
theorem dX5_make_43 : decode cX5_make 43 = .ok (.getfield 74, 3) := by decide +kernel
theorem dX5_make_46 : decode cX5_make 46 = .ok (.iload_n 2, 1) := by decide +kernel
theorem dX5_make_47 : decode cX5_make 47 = .ok (.iload_n 3, 1) := by decide +kernel
theorem dX5_make_48 : decode cX5_make 48 = .ok (.invokevirtual 77, 3) := by decide +kernel
theorem dX5_make_51 : decode cX5_make 51 = .ok (.ireturn, 1) := by decide +kernel
theorem dX5_put_0 : decode cX5_put 0 = .ok (.aload_n 0, 1) := by decide +kernel
theorem dX5_put_1 : decode cX5_put 1 = .ok (.iload_n 1, 1) := by decide +kernel
theorem dX5_put_2 : decode cX5_put 2 = .ok (.invokevirtual 54, 3) := by decide +kernel
theorem dX5_put_5 : decode cX5_put 5 = .ok (.astore 4, 2) := by decide +kernel
theorem dX5_put_7 : decode cX5_put 7 = .ok (.iload_n 2, 1) := by decide +kernel
theorem dX5_put_8 : decode cX5_put 8 = .ok (.invokestatic 81, 3) := by decide +kernel
theorem dX5_put_11 : decode cX5_put 11 = .ok (.iload_n 3, 1) := by decide +kernel
theorem dX5_put_12 : decode cX5_put 12 = .ok (.invokestatic 84, 3) := by decide +kernel
theorem dX5_put_15 : decode cX5_put 15 = .ok (.aload 4, 2) := by decide +kernel
theorem dX5_put_17 : decode cX5_put 17 = .ok (.getfield 65, 3) := by decide +kernel
theorem dX5_put_20 : decode cX5_put 20 = .ok (.invokevirtual 69, 3) := by decide +kernel
theorem dX5_put_23 : decode cX5_put 23 = .ok (.aload 4, 2) := by decide +kernel
theorem dX5_put_25 : decode cX5_put 25 = .ok (.getfield 74, 3) := by decide +kernel
theorem dX5_put_28 : decode cX5_put 28 = .ok (.iload_n 2, 1) := by decide +kernel
theorem dX5_put_29 : decode cX5_put 29 = .ok (.iload_n 3, 1) := by decide +kernel
theorem dX5_put_30 : decode cX5_put 30 = .ok (.invokevirtual 87, 3) := by decide +kernel
theorem dX5_put_33 : decode cX5_put 33 = .ok (.ireturn, 1) := by decide +kernel
theorem dX5_putIfAbsent_0 : decode cX5_putIfAbsent 0 = .ok (.aload_n 0, 1) := by decide +kernel
theorem dX5_putIfAbsent_1 : decode cX5_putIfAbsent 1 = .ok (.iload_n 1, 1) := by decide +kernel
theorem dX5_putIfAbsent_2 : decode cX5_putIfAbsent 2 = .ok (.invokevirtual 54, 3) := by decide +kernel
theorem dX5_putIfAbsent_5 : decode cX5_putIfAbsent 5 = .ok (.astore 4, 2) := by decide +kernel
theorem dX5_putIfAbsent_7 : decode cX5_putIfAbsent 7 = .ok (.iload_n 2, 1) := by decide +kernel
theorem dX5_putIfAbsent_8 : decode cX5_putIfAbsent 8 = .ok (.invokestatic 81, 3) := by decide +kernel
theorem dX5_putIfAbsent_11 : decode cX5_putIfAbsent 11 = .ok (.iload_n 3, 1) := by decide +kernel
theorem dX5_putIfAbsent_12 : decode cX5_putIfAbsent 12 = .ok (.invokestatic 84, 3) := by decide +kernel
theorem dX5_putIfAbsent_15 : decode cX5_putIfAbsent 15 = .ok (.aload 4, 2) := by decide +kernel
theorem dX5_putIfAbsent_17 : decode cX5_putIfAbsent 17 = .ok (.getfield 74, 3) := by decide +kernel
theorem dX5_putIfAbsent_20 : decode cX5_putIfAbsent 20 = .ok (.getfield 91, 3) := by decide +kernel
theorem dX5_putIfAbsent_23 : decode cX5_putIfAbsent 23 = .ok (.iconst (-1), 1) := by decide +kernel
theorem dX5_putIfAbsent_24 : decode cX5_putIfAbsent 24 = .ok (.if_icmp .eq 13, 3) := by decide +kernel
theorem dX5_putIfAbsent_27 : decode cX5_putIfAbsent 27 = .ok (.new 94, 3) := by decide +kernel
theorem dX5_putIfAbsent_30 : decode cX5_putIfAbsent 30 = .ok (.dup, 1) := by decide +kernel
theorem dX5_putIfAbsent_31 : decode cX5_putIfAbsent 31 = .ok (.ldc 96, 2) := by decide +kernel
theorem dX5_putIfAbsent_33 : decode cX5_putIfAbsent 33 = .ok (.invokespecial 98, 3) := by decide +kernel
theorem dX5_putIfAbsent_36 : decode cX5_putIfAbsent 36 = .ok (.athrow, 1) := by decide +kernel
theorem dX5_putIfAbsent_37 : decode cX5_putIfAbsent 37 = .ok (.aload 4, 2) := by decide +kernel
theorem dX5_putIfAbsent_39 : decode cX5_putIfAbsent 39 = .ok (.getfield 65, 3) := by decide +kernel
theorem dX5_putIfAbsent_42 : decode cX5_putIfAbsent 42 = .ok (.invokevirtual 69, 3) := by decide +kernel
theorem dX5_putIfAbsent_45 : decode cX5_putIfAbsent 45 = .ok (.aload 4, 2) := by decide +kernel
theorem dX5_putIfAbsent_47 : decode cX5_putIfAbsent 47 = .ok (.getfield 74, 3) := by decide +kernel
theorem dX5_putIfAbsent_50 : decode cX5_putIfAbsent 50 = .ok (.iload_n 2, 1) := by decide +kernel
theorem dX5_putIfAbsent_51 : decode cX5_putIfAbsent 51 = .ok (.iload_n 3, 1) := by decide +kernel
theorem dX5_putIfAbsent_52 : decode cX5_putIfAbsent 52 = .ok (.invokevirtual 99, 3) := by decide +kernel
theorem dX5_putIfAbsent_55 : decode cX5_putIfAbsent 55 = .ok (.ireturn, 1) := by decide +kernel
theorem dX5_get_0 : decode cX5_get 0 = .ok (.aload_n 0, 1) := by decide +kernel
theorem dX5_get_1 : decode cX5_get 1 = .ok (.iload_n 1, 1) := by decide +kernel
theorem dX5_get_2 : decode cX5_get 2 = .ok (.invokevirtual 54, 3) := by decide +kernel
theorem dX5_get_5 : decode cX5_get 5 = .ok (.astore_n 3, 1) := by decide +kernel
theorem dX5_get_6 : decode cX5_get 6 = .ok (.iload_n 2, 1) := by decide +kernel
theorem dX5_get_7 : decode cX5_get 7 = .ok (.invokestatic 81, 3) := by decide +kernel
theorem dX5_get_10 : decode cX5_get 10 = .ok (.aload_n 3, 1) := by decide +kernel
theorem dX5_get_11 : decode cX5_get 11 = .ok (.getfield 65, 3) := by decide +kernel
theorem dX5_get_14 : decode cX5_get 14 = .ok (.invokevirtual 69, 3) := by decide +kernel
theorem dX5_get_17 : decode cX5_get 17 = .ok (.aload_n 3, 1) := by decide +kernel
theorem dX5_get_18 : decode cX5_get 18 = .ok (.getfield 74, 3) := by decide +kernel
theorem dX5_get_21 : decode cX5_get 21 = .ok (.iload_n 2, 1) := by decide +kernel
theorem dX5_get_22 : decode cX5_get 22 = .ok (.iconst (-1), 1) := by decide +kernel
theorem dX5_get_23 : decode cX5_get 23 = .ok (.invokevirtual 102, 3) := by decide +kernel
theorem dX5_get_26 : decode cX5_get 26 = .ok (.ireturn, 1) := by decide +kernel
theorem dX5_getOr_0 : decode cX5_getOr 0 = .ok (.aload_n 0, 1) := by decide +kernel
theorem dX5_getOr_1 : decode cX5_getOr 1 = .ok (.iload_n 1, 1) := by decide +kernel
theorem dX5_getOr_2 : decode cX5_getOr 2 = .ok (.invokevirtual 54, 3) := by decide +kernel
theorem dX5_getOr_5 : decode cX5_getOr 5 = .ok (.astore 4, 2) := by decide +kernel
theorem dX5_getOr_7 : decode cX5_getOr 7 = .ok (.iload_n 2, 1) := by decide +kernel
theorem dX5_getOr_8 : decode cX5_getOr 8 = .ok (.invokestatic 81, 3) := by decide +kernel
theorem dX5_getOr_11 : decode cX5_getOr 11 = .ok (.aload 4, 2) := by decide +kernel
theorem dX5_getOr_13 : decode cX5_getOr 13 = .ok (.getfield 65, 3) := by decide +kernel
theorem dX5_getOr_16 : decode cX5_getOr 16 = .ok (.invokevirtual 69, 3) := by decide +kernel
theorem dX5_getOr_19 : decode cX5_getOr 19 = .ok (.aload 4, 2) := by decide +kernel
theorem dX5_getOr_21 : decode cX5_getOr 21 = .ok (.getfield 74, 3) := by decide +kernel
theorem dX5_getOr_24 : decode cX5_getOr 24 = .ok (.iload_n 2, 1) := by decide +kernel
theorem dX5_getOr_25 : decode cX5_getOr 25 = .ok (.iload_n 3, 1) := by decide +kernel
theorem dX5_getOr_26 : decode cX5_getOr 26 = .ok (.invokevirtual 102, 3) := by decide +kernel
theorem dX5_getOr_29 : decode cX5_getOr 29 = .ok (.ireturn, 1) := by decide +kernel
theorem dX5_remove_0 : decode cX5_remove 0 = .ok (.aload_n 0, 1) := by decide +kernel
theorem dX5_remove_1 : decode cX5_remove 1 = .ok (.iload_n 1, 1) := by decide +kernel
theorem dX5_remove_2 : decode cX5_remove 2 = .ok (.invokevirtual 54, 3) := by decide +kernel
theorem dX5_remove_5 : decode cX5_remove 5 = .ok (.astore_n 3, 1) := by decide +kernel
theorem dX5_remove_6 : decode cX5_remove 6 = .ok (.iload_n 2, 1) := by decide +kernel
theorem dX5_remove_7 : decode cX5_remove 7 = .ok (.invokestatic 81, 3) := by decide +kernel
theorem dX5_remove_10 : decode cX5_remove 10 = .ok (.aload_n 3, 1) := by decide +kernel
theorem dX5_remove_11 : decode cX5_remove 11 = .ok (.getfield 65, 3) := by decide +kernel
theorem dX5_remove_14 : decode cX5_remove 14 = .ok (.invokevirtual 69, 3) := by decide +kernel
theorem dX5_remove_17 : decode cX5_remove 17 = .ok (.aload_n 3, 1) := by decide +kernel
theorem dX5_remove_18 : decode cX5_remove 18 = .ok (.getfield 74, 3) := by decide +kernel
theorem dX5_remove_21 : decode cX5_remove 21 = .ok (.iload_n 2, 1) := by decide +kernel
theorem dX5_remove_22 : decode cX5_remove 22 = .ok (.invokevirtual 105, 3) := by decide +kernel
theorem dX5_remove_25 : decode cX5_remove 25 = .ok (.ireturn, 1) := by decide +kernel
theorem dX5_clear_0 : decode cX5_clear 0 = .ok (.aload_n 0, 1) := by decide +kernel
theorem dX5_clear_1 : decode cX5_clear 1 = .ok (.iload_n 1, 1) := by decide +kernel
theorem dX5_clear_2 : decode cX5_clear 2 = .ok (.invokevirtual 54, 3) := by decide +kernel
theorem dX5_clear_5 : decode cX5_clear 5 = .ok (.astore_n 2, 1) := by decide +kernel
theorem dX5_clear_6 : decode cX5_clear 6 = .ok (.aload_n 2, 1) := by decide +kernel
theorem dX5_clear_7 : decode cX5_clear 7 = .ok (.getfield 65, 3) := by decide +kernel
theorem dX5_clear_10 : decode cX5_clear 10 = .ok (.invokevirtual 69, 3) := by decide +kernel
theorem dX5_clear_13 : decode cX5_clear 13 = .ok (.aload_n 2, 1) := by decide +kernel
theorem dX5_clear_14 : decode cX5_clear 14 = .ok (.getfield 74, 3) := by decide +kernel
theorem dX5_clear_17 : decode cX5_clear 17 = .ok (.invokevirtual 109, 3) := by decide +kernel
theorem dX5_clear_20 : decode cX5_clear 20 = .ok (.ireturn, 1) := by decide +kernel
theorem dX5_set_0 : decode cX5_set 0 = .ok (.aload_n 0, 1) := by decide +kernel
theorem dX5_set_1 : decode cX5_set 1 = .ok (.iload_n 1, 1) := by decide +kernel
theorem dX5_set_2 : decode cX5_set 2 = .ok (.invokevirtual 54, 3) := by decide +kernel
theorem dX5_set_5 : decode cX5_set 5 = .ok (.astore 4, 2) := by decide +kernel
theorem dX5_set_7 : decode cX5_set 7 = .ok (.iload_n 3, 1) := by decide +kernel
theorem dX5_set_8 : decode cX5_set 8 = .ok (.invokestatic 84, 3) := by decide +kernel
theorem dX5_set_11 : decode cX5_set 11 = .ok (.aload 4, 2) := by decide +kernel
theorem dX5_set_13 : decode cX5_set 13 = .ok (.getfield 74, 3) := by decide +kernel
theorem dX5_set_16 : decode cX5_set 16 = .ok (.iload_n 2, 1) := by decide +kernel
theorem dX5_set_17 : decode cX5_set 17 = .ok (.invokevirtual 113, 3) := by decide +kernel
theorem dX5_set_20 : decode cX5_set 20 = .ok (.ifCond .ne 8, 3) := by decide +kernel
theorem dX5_set_23 : decode cX5_set 23 = .ok (.aload_n 0, 1) := by decide +kernel
theorem dX5_set_24 : decode cX5_set 24 = .ok (.invokevirtual 117, 3) := by decide +kernel
theorem dX5_set_27 : decode cX5_set 27 = .ok (.ireturn, 1) := by decide +kernel
theorem dX5_set_28 : decode cX5_set 28 = .ok (.aload 4, 2) := by decide +kernel
theorem dX5_set_30 : decode cX5_set 30 = .ok (.getfield 74, 3) := by decide +kernel
theorem dX5_set_33 : decode cX5_set 33 = .ok (.iload_n 2, 1) := by decide +kernel
theorem dX5_set_34 : decode cX5_set 34 = .ok (.iload_n 3, 1) := by decide +kernel
theorem dX5_set_35 : decode cX5_set 35 = .ok (.invokevirtual 120, 3) := by decide +kernel
theorem dX5_set_38 : decode cX5_set 38 = .ok (.ireturn, 1) := by decide +kernel
theorem dX5_copy_0 : decode cX5_copy 0 = .ok (.aload_n 0, 1) := by decide +kernel
theorem dX5_copy_1 : decode cX5_copy 1 = .ok (.iload_n 1, 1) := by decide +kernel
theorem dX5_copy_2 : decode cX5_copy 2 = .ok (.invokevirtual 54, 3) := by decide +kernel
theorem dX5_copy_5 : decode cX5_copy 5 = .ok (.astore_n 3, 1) := by decide +kernel
theorem dX5_copy_6 : decode cX5_copy 6 = .ok (.aload_n 0, 1) := by decide +kernel
theorem dX5_copy_7 : decode cX5_copy 7 = .ok (.iload_n 2, 1) := by decide +kernel
theorem dX5_copy_8 : decode cX5_copy 8 = .ok (.invokevirtual 54, 3) := by decide +kernel
theorem dX5_copy_11 : decode cX5_copy 11 = .ok (.astore 4, 2) := by decide +kernel
theorem dX5_copy_13 : decode cX5_copy 13 = .ok (.aload 4, 2) := by decide +kernel
theorem dX5_copy_15 : decode cX5_copy 15 = .ok (.getfield 65, 3) := by decide +kernel
theorem dX5_copy_18 : decode cX5_copy 18 = .ok (.invokevirtual 69, 3) := by decide +kernel
theorem dX5_copy_21 : decode cX5_copy 21 = .ok (.aload 4, 2) := by decide +kernel
theorem dX5_copy_23 : decode cX5_copy 23 = .ok (.getfield 74, 3) := by decide +kernel
theorem dX5_copy_26 : decode cX5_copy 26 = .ok (.aload_n 3, 1) := by decide +kernel
theorem dX5_copy_27 : decode cX5_copy 27 = .ok (.getfield 74, 3) := by decide +kernel
theorem dX5_copy_30 : decode cX5_copy 30 = .ok (.invokevirtual 123, 3) := by decide +kernel
theorem dX5_copy_33 : decode cX5_copy 33 = .ok (.aload 4, 2) := by decide +kernel
theorem dX5_copy_35 : decode cX5_copy 35 = .ok (.getfield 74, 3) := by decide +kernel
theorem dX5_copy_38 : decode cX5_copy 38 = .ok (.getfield 126, 3) := by decide +kernel
theorem dX5_copy_41 : decode cX5_copy 41 = .ok (.ireturn, 1) := by decide +kernel
theorem dX5_has_0 : decode cX5_has 0 = .ok (.aload_n 0, 1) := by decide +kernel
theorem dX5_has_1 : decode cX5_has 1 = .ok (.iload_n 1, 1) := by decide +kernel
theorem dX5_has_2 : decode cX5_has 2 = .ok (.invokevirtual 54, 3) := by decide +kernel
theorem dX5_has_5 : decode cX5_has 5 = .ok (.astore_n 3, 1) := by decide +kernel
theorem dX5_has_6 : decode cX5_has 6 = .ok (.iload_n 2, 1) := by decide +kernel
theorem dX5_has_7 : decode cX5_has 7 = .ok (.invokestatic 81, 3) := by decide +kernel
theorem dX5_has_10 : decode cX5_has 10 = .ok (.aload_n 3, 1) := by decide +kernel
theorem dX5_has_11 : decode cX5_has 11 = .ok (.getfield 74, 3) := by decide +kernel
theorem dX5_has_14 : decode cX5_has 14 = .ok (.iload_n 2, 1) := by decide +kernel
theorem dX5_has_15 : decode cX5_has 15 = .ok (.invokevirtual 129, 3) := by decide +kernel
theorem dX5_has_18 : decode cX5_has 18 = .ok (.iconst (-1), 1) := by decide +kernel
theorem dX5_has_19 : decode cX5_has 19 = .ok (.if_icmp .eq 7, 3) := by decide +kernel
theorem dX5_has_22 : decode cX5_has 22 = .ok (.iconst 1, 1) := by decide +kernel
theorem dX5_has_23 : decode cX5_has 23 = .ok (.goto 4, 3) := by decide +kernel
theorem dX5_has_26 : decode cX5_has 26 = .ok (.iconst 0, 1) := by decide +kernel
theorem dX5_has_27 : decode cX5_has 27 = .ok (.ireturn, 1) := by decide +kernel
theorem dX5_size_0 : decode cX5_size 0 = .ok (.aload_n 0, 1) := by decide +kernel
theorem dX5_size_1 : decode cX5_size 1 = .ok (.iload_n 1, 1) := by decide +kernel
theorem dX5_size_2 : decode cX5_size 2 = .ok (.invokevirtual 54, 3) := by decide +kernel
theorem dX5_size_5 : decode cX5_size 5 = .ok (.getfield 74, 3) := by decide +kernel
theorem dX5_size_8 : decode cX5_size 8 = .ok (.getfield 126, 3) := by decide +kernel
theorem dX5_size_11 : decode cX5_size 11 = .ok (.ireturn, 1) := by decide +kernel
theorem dX5_keyAt_0 : decode cX5_keyAt 0 = .ok (.aload_n 0, 1) := by decide +kernel
theorem dX5_keyAt_1 : decode cX5_keyAt 1 = .ok (.iload_n 1, 1) := by decide +kernel
theorem dX5_keyAt_2 : decode cX5_keyAt 2 = .ok (.invokevirtual 54, 3) := by decide +kernel
theorem dX5_keyAt_5 : decode cX5_keyAt 5 = .ok (.getfield 74, 3) := by decide +kernel
theorem dX5_keyAt_8 : decode cX5_keyAt 8 = .ok (.iload_n 2, 1) := by decide +kernel
theorem dX5_keyAt_9 : decode cX5_keyAt 9 = .ok (.iconst 0, 1) := by decide +kernel
theorem dX5_keyAt_10 : decode cX5_keyAt 10 = .ok (.invokevirtual 132, 3) := by decide +kernel
theorem dX5_keyAt_13 : decode cX5_keyAt 13 = .ok (.ireturn, 1) := by decide +kernel
theorem dX5_valueAt_0 : decode cX5_valueAt 0 = .ok (.aload_n 0, 1) := by decide +kernel
theorem dX5_valueAt_1 : decode cX5_valueAt 1 = .ok (.iload_n 1, 1) := by decide +kernel
theorem dX5_valueAt_2 : decode cX5_valueAt 2 = .ok (.invokevirtual 54, 3) := by decide +kernel
theorem dX5_valueAt_5 : decode cX5_valueAt 5 = .ok (.getfield 74, 3) := by decide +kernel
theorem dX5_valueAt_8 : decode cX5_valueAt 8 = .ok (.iload_n 2, 1) := by decide +kernel
theorem dX5_valueAt_9 : decode cX5_valueAt 9 = .ok (.iconst 1, 1) := by decide +kernel
theorem dX5_valueAt_10 : decode cX5_valueAt 10 = .ok (.invokevirtual 132, 3) := by decide +kernel
theorem dX5_valueAt_13 : decode cX5_valueAt 13 = .ok (.ireturn, 1) := by decide +kernel
theorem dX5_pairAt_0 : decode cX5_pairAt 0 = .ok (.aload_n 0, 1) := by decide +kernel
theorem dX5_pairAt_1 : decode cX5_pairAt 1 = .ok (.iload_n 1, 1) := by decide +kernel
theorem dX5_pairAt_2 : decode cX5_pairAt 2 = .ok (.invokevirtual 54, 3) := by decide +kernel
theorem dX5_pairAt_5 : decode cX5_pairAt 5 = .ok (.getfield 74, 3) := by decide +kernel
theorem dX5_pairAt_8 : decode cX5_pairAt 8 = .ok (.iload_n 2, 1) := by decide +kernel
theorem dX5_pairAt_9 : decode cX5_pairAt 9 = .ok (.iconst 2, 1) := by decide +kernel
theorem dX5_pairAt_10 : decode cX5_pairAt 10 = .ok (.invokevirtual 132, 3) := by decide +kernel
theorem dX5_pairAt_13 : decode cX5_pairAt 13 = .ok (.ireturn, 1) := by decide +kernel
theorem dX5_placeOf_0 : decode cX5_placeOf 0 = .ok (.aload_n 0, 1) := by decide +kernel
theorem dX5_placeOf_1 : decode cX5_placeOf 1 = .ok (.iload_n 1, 1) := by decide +kernel
theorem dX5_placeOf_2 : decode cX5_placeOf 2 = .ok (.invokevirtual 54, 3) := by decide +kernel
theorem dX5_placeOf_5 : decode cX5_placeOf 5 = .ok (.astore_n 3, 1) := by decide +kernel
theorem dX5_placeOf_6 : decode cX5_placeOf 6 = .ok (.iload_n 2, 1) := by decide +kernel
theorem dX5_placeOf_7 : decode cX5_placeOf 7 = .ok (.invokestatic 81, 3) := by decide +kernel
theorem dX5_placeOf_10 : decode cX5_placeOf 10 = .ok (.aload_n 3, 1) := by decide +kernel
theorem dX5_placeOf_11 : decode cX5_placeOf 11 = .ok (.getfield 74, 3) := by decide +kernel
theorem dX5_placeOf_14 : decode cX5_placeOf 14 = .ok (.iload_n 2, 1) := by decide +kernel
theorem dX5_placeOf_15 : decode cX5_placeOf 15 = .ok (.invokevirtual 129, 3) := by decide +kernel
theorem dX5_placeOf_18 : decode cX5_placeOf 18 = .ok (.ireturn, 1) := by decide +kernel
theorem dX5_eldest_0 : decode cX5_eldest 0 = .ok (.aload_n 0, 1) := by decide +kernel
theorem dX5_eldest_1 : decode cX5_eldest 1 = .ok (.iload_n 1, 1) := by decide +kernel
theorem dX5_eldest_2 : decode cX5_eldest 2 = .ok (.invokevirtual 54, 3) := by decide +kernel
theorem dX5_eldest_5 : decode cX5_eldest 5 = .ok (.getfield 74, 3) := by decide +kernel
theorem dX5_eldest_8 : decode cX5_eldest 8 = .ok (.iconst 0, 1) := by decide +kernel
theorem dX5_eldest_9 : decode cX5_eldest 9 = .ok (.iconst 0, 1) := by decide +kernel
theorem dX5_eldest_10 : decode cX5_eldest 10 = .ok (.invokevirtual 132, 3) := by decide +kernel
theorem dX5_eldest_13 : decode cX5_eldest 13 = .ok (.ireturn, 1) := by decide +kernel
theorem dX5_latest_0 : decode cX5_latest 0 = .ok (.aload_n 0, 1) := by decide +kernel
theorem dX5_latest_1 : decode cX5_latest 1 = .ok (.iload_n 1, 1) := by decide +kernel
theorem dX5_latest_2 : decode cX5_latest 2 = .ok (.invokevirtual 54, 3) := by decide +kernel
theorem dX5_latest_5 : decode cX5_latest 5 = .ok (.astore_n 2, 1) := by decide +kernel
theorem dX5_latest_6 : decode cX5_latest 6 = .ok (.aload_n 2, 1) := by decide +kernel
theorem dX5_latest_7 : decode cX5_latest 7 = .ok (.getfield 74, 3) := by decide +kernel
theorem dX5_latest_10 : decode cX5_latest 10 = .ok (.aload_n 2, 1) := by decide +kernel
theorem dX5_latest_11 : decode cX5_latest 11 = .ok (.getfield 74, 3) := by decide +kernel
theorem dX5_latest_14 : decode cX5_latest 14 = .ok (.getfield 126, 3) := by decide +kernel
theorem dX5_latest_17 : decode cX5_latest 17 = .ok (.iconst 1, 1) := by decide +kernel
theorem dX5_latest_18 : decode cX5_latest 18 = .ok (.isub, 1) := by decide +kernel
theorem dX5_latest_19 : decode cX5_latest 19 = .ok (.iconst 0, 1) := by decide +kernel
theorem dX5_latest_20 : decode cX5_latest 20 = .ok (.invokevirtual 132, 3) := by decide +kernel
theorem dX5_latest_23 : decode cX5_latest 23 = .ok (.ireturn, 1) := by decide +kernel
theorem dX5_text_0 : decode cX5_text 0 = .ok (.aload_n 0, 1) := by decide +kernel
theorem dX5_text_1 : decode cX5_text 1 = .ok (.iload_n 1, 1) := by decide +kernel
theorem dX5_text_2 : decode cX5_text 2 = .ok (.invokevirtual 54, 3) := by decide +kernel
theorem dX5_text_5 : decode cX5_text 5 = .ok (.astore_n 3, 1) := by decide +kernel
theorem dX5_text_6 : decode cX5_text 6 = .ok (.iload_n 2, 1) := by decide +kernel
theorem dX5_text_7 : decode cX5_text 7 = .ok (.invokestatic 135, 3) := by decide +kernel
theorem dX5_text_10 : decode cX5_text 10 = .ok (.aload_n 3, 1) := by decide +kernel
theorem dX5_text_11 : decode cX5_text 11 = .ok (.getfield 74, 3) := by decide +kernel
theorem dX5_text_14 : decode cX5_text 14 = .ok (.iload_n 2, 1) := by decide +kernel
theorem dX5_text_15 : decode cX5_text 15 = .ok (.invokevirtual 138, 3) := by decide +kernel
theorem dX5_text_18 : decode cX5_text 18 = .ok (.areturn, 1) := by decide +kernel
theorem dX5_ofTable_0 : decode cX5_ofTable 0 = .ok (.aload_n 0, 1) := by decide +kernel
theorem dX5_ofTable_1 : decode cX5_ofTable 1 = .ok (.iload_n 1, 1) := by decide +kernel
theorem dX5_ofTable_2 : decode cX5_ofTable 2 = .ok (.invokevirtual 54, 3) := by decide +kernel
theorem dX5_ofTable_5 : decode cX5_ofTable 5 = .ok (.getfield 74, 3) := by decide +kernel
theorem dX5_ofTable_8 : decode cX5_ofTable 8 = .ok (.astore_n 3, 1) := by decide +kernel
theorem dX5_ofTable_9 : decode cX5_ofTable 9 = .ok (.iload_n 2, 1) := by decide +kernel
theorem dX5_ofTable_10 : decode cX5_ofTable 10 = .ok (.tableswitch 67 0 4 #[34, 47, 52, 57, 62], 34) := by decide +kernel
theorem dX5_ofTable_44 : decode cX5_ofTable 44 = .ok (.aload_n 3, 1) := by decide +kernel
theorem dX5_ofTable_45 : decode cX5_ofTable 45 = .ok (.getfield 142, 3) := by decide +kernel
theorem dX5_ofTable_48 : decode cX5_ofTable 48 = .ok (.ifCond .eq 7, 3) := by decide +kernel
theorem dX5_ofTable_51 : decode cX5_ofTable 51 = .ok (.iconst 1, 1) := by decide +kernel
theorem dX5_ofTable_52 : decode cX5_ofTable 52 = .ok (.goto 4, 3) := by decide +kernel
theorem dX5_ofTable_55 : decode cX5_ofTable 55 = .ok (.iconst 0, 1) := by decide +kernel
theorem dX5_ofTable_56 : decode cX5_ofTable 56 = .ok (.ireturn, 1) := by decide +kernel
theorem dX5_ofTable_57 : decode cX5_ofTable 57 = .ok (.aload_n 3, 1) := by decide +kernel
theorem dX5_ofTable_58 : decode cX5_ofTable 58 = .ok (.getfield 91, 3) := by decide +kernel
theorem dX5_ofTable_61 : decode cX5_ofTable 61 = .ok (.ireturn, 1) := by decide +kernel
theorem dX5_ofTable_62 : decode cX5_ofTable 62 = .ok (.aload_n 3, 1) := by decide +kernel
theorem dX5_ofTable_63 : decode cX5_ofTable 63 = .ok (.getfield 146, 3) := by decide +kernel
theorem dX5_ofTable_66 : decode cX5_ofTable 66 = .ok (.ireturn, 1) := by decide +kernel
theorem dX5_ofTable_67 : decode cX5_ofTable 67 = .ok (.aload_n 3, 1) := by decide +kernel
theorem dX5_ofTable_68 : decode cX5_ofTable 68 = .ok (.getfield 149, 3) := by decide +kernel
theorem dX5_ofTable_71 : decode cX5_ofTable 71 = .ok (.ireturn, 1) := by decide +kernel
theorem dX5_ofTable_72 : decode cX5_ofTable 72 = .ok (.aload_n 3, 1) := by decide +kernel
theorem dX5_ofTable_73 : decode cX5_ofTable 73 = .ok (.invokevirtual 152, 3) := by decide +kernel
theorem dX5_ofTable_76 : decode cX5_ofTable 76 = .ok (.ireturn, 1) := by decide +kernel
theorem dX5_ofTable_77 : decode cX5_ofTable 77 = .ok (.new 58, 3) := by decide +kernel
theorem dX5_ofTable_80 : decode cX5_ofTable 80 = .ok (.dup, 1) := by decide +kernel
theorem dX5_ofTable_81 : decode cX5_ofTable 81 = .ok (.ldc 155, 2) := by decide +kernel
theorem dX5_ofTable_83 : decode cX5_ofTable 83 = .ok (.invokespecial 62, 3) := by decide +kernel
theorem dX5_ofTable_86 : decode cX5_ofTable 86 = .ok (.athrow, 1) := by decide +kernel
theorem dX5_walk_0 : decode cX5_walk 0 = .ok (.aload_n 0, 1) := by decide +kernel
theorem dX5_walk_1 : decode cX5_walk 1 = .ok (.iload_n 1, 1) := by decide +kernel
theorem dX5_walk_2 : decode cX5_walk 2 = .ok (.invokevirtual 54, 3) := by decide +kernel
theorem dX5_walk_5 : decode cX5_walk 5 = .ok (.astore_n 3, 1) := by decide +kernel
theorem dX5_walk_6 : decode cX5_walk 6 = .ok (.iload_n 2, 1) := by decide +kernel
theorem dX5_walk_7 : decode cX5_walk 7 = .ok (.invokestatic 135, 3) := by decide +kernel
theorem dX5_walk_10 : decode cX5_walk 10 = .ok (.aload_n 3, 1) := by decide +kernel
theorem dX5_walk_11 : decode cX5_walk 11 = .ok (.getfield 65, 3) := by decide +kernel
theorem dX5_walk_14 : decode cX5_walk 14 = .ok (.iload_n 2, 1) := by decide +kernel
theorem dX5_walk_15 : decode cX5_walk 15 = .ok (.invokevirtual 157, 3) := by decide +kernel
theorem dX5_walk_18 : decode cX5_walk 18 = .ok (.aload_n 3, 1) := by decide +kernel
theorem dX5_walk_19 : decode cX5_walk 19 = .ok (.getfield 74, 3) := by decide +kernel
theorem dX5_walk_22 : decode cX5_walk 22 = .ok (.getfield 126, 3) := by decide +kernel
theorem dX5_walk_25 : decode cX5_walk 25 = .ok (.ireturn, 1) := by decide +kernel
theorem dX5_step_0 : decode cX5_step 0 = .ok (.aload_n 0, 1) := by decide +kernel
theorem dX5_step_1 : decode cX5_step 1 = .ok (.iload_n 1, 1) := by decide +kernel
theorem dX5_step_2 : decode cX5_step 2 = .ok (.invokevirtual 54, 3) := by decide +kernel
theorem dX5_step_5 : decode cX5_step 5 = .ok (.astore_n 2, 1) := by decide +kernel
theorem dX5_step_6 : decode cX5_step 6 = .ok (.aload_n 2, 1) := by decide +kernel
theorem dX5_step_7 : decode cX5_step 7 = .ok (.getfield 65, 3) := by decide +kernel
theorem dX5_step_10 : decode cX5_step 10 = .ok (.invokevirtual 160, 3) := by decide +kernel
theorem dX5_step_13 : decode cX5_step 13 = .ok (.ifCond .ne 8, 3) := by decide +kernel
theorem dX5_step_16 : decode cX5_step 16 = .ok (.aload_n 0, 1) := by decide +kernel
theorem dX5_step_17 : decode cX5_step 17 = .ok (.invokevirtual 117, 3) := by decide +kernel
theorem dX5_step_20 : decode cX5_step 20 = .ok (.ireturn, 1) := by decide +kernel
theorem dX5_step_21 : decode cX5_step 21 = .ok (.aload_n 2, 1) := by decide +kernel
theorem dX5_step_22 : decode cX5_step 22 = .ok (.getfield 65, 3) := by decide +kernel
theorem dX5_step_25 : decode cX5_step 25 = .ok (.invokevirtual 164, 3) := by decide +kernel
theorem dX5_step_28 : decode cX5_step 28 = .ok (.ifCond .ne 6, 3) := by decide +kernel
theorem dX5_step_31 : decode cX5_step 31 = .ok (.bipush (-8), 2) := by decide +kernel
theorem dX5_step_33 : decode cX5_step 33 = .ok (.ireturn, 1) := by decide +kernel
theorem dX5_step_34 : decode cX5_step 34 = .ok (.aload_n 2, 1) := by decide +kernel
theorem dX5_step_35 : decode cX5_step 35 = .ok (.getfield 65, 3) := by decide +kernel
theorem dX5_step_38 : decode cX5_step 38 = .ok (.invokevirtual 167, 3) := by decide +kernel
theorem dX5_step_41 : decode cX5_step 41 = .ok (.ireturn, 1) := by decide +kernel
theorem dX5_cut_0 : decode cX5_cut 0 = .ok (.aload_n 0, 1) := by decide +kernel
theorem dX5_cut_1 : decode cX5_cut 1 = .ok (.iload_n 1, 1) := by decide +kernel
theorem dX5_cut_2 : decode cX5_cut 2 = .ok (.invokevirtual 54, 3) := by decide +kernel
theorem dX5_cut_5 : decode cX5_cut 5 = .ok (.astore_n 2, 1) := by decide +kernel
theorem dX5_cut_6 : decode cX5_cut 6 = .ok (.aload_n 2, 1) := by decide +kernel
theorem dX5_cut_7 : decode cX5_cut 7 = .ok (.getfield 65, 3) := by decide +kernel
theorem dX5_cut_10 : decode cX5_cut 10 = .ok (.invokevirtual 170, 3) := by decide +kernel
theorem dX5_cut_13 : decode cX5_cut 13 = .ok (.ifCond .ne 8, 3) := by decide +kernel
theorem dX5_cut_16 : decode cX5_cut 16 = .ok (.aload_n 0, 1) := by decide +kernel
theorem dX5_cut_17 : decode cX5_cut 17 = .ok (.invokevirtual 117, 3) := by decide +kernel
theorem dX5_cut_20 : decode cX5_cut 20 = .ok (.ireturn, 1) := by decide +kernel
theorem dX5_cut_21 : decode cX5_cut 21 = .ok (.aload_n 2, 1) := by decide +kernel
theorem dX5_cut_22 : decode cX5_cut 22 = .ok (.getfield 65, 3) := by decide +kernel
theorem dX5_cut_25 : decode cX5_cut 25 = .ok (.invokevirtual 173, 3) := by decide +kernel
theorem dX5_cut_28 : decode cX5_cut 28 = .ok (.aload_n 2, 1) := by decide +kernel
theorem dX5_cut_29 : decode cX5_cut 29 = .ok (.getfield 74, 3) := by decide +kernel
theorem dX5_cut_32 : decode cX5_cut 32 = .ok (.getfield 126, 3) := by decide +kernel
theorem dX5_cut_35 : decode cX5_cut 35 = .ok (.ireturn, 1) := by decide +kernel
theorem dX5_hasMore_0 : decode cX5_hasMore 0 = .ok (.aload_n 0, 1) := by decide +kernel
theorem dX5_hasMore_1 : decode cX5_hasMore 1 = .ok (.iload_n 1, 1) := by decide +kernel
theorem dX5_hasMore_2 : decode cX5_hasMore 2 = .ok (.invokevirtual 54, 3) := by decide +kernel
theorem dX5_hasMore_5 : decode cX5_hasMore 5 = .ok (.getfield 65, 3) := by decide +kernel
theorem dX5_hasMore_8 : decode cX5_hasMore 8 = .ok (.invokevirtual 164, 3) := by decide +kernel
theorem dX5_hasMore_11 : decode cX5_hasMore 11 = .ok (.ireturn, 1) := by decide +kernel
theorem dX5_isStale_0 : decode cX5_isStale 0 = .ok (.aload_n 0, 1) := by decide +kernel
theorem dX5_isStale_1 : decode cX5_isStale 1 = .ok (.iload_n 1, 1) := by decide +kernel
theorem dX5_isStale_2 : decode cX5_isStale 2 = .ok (.invokevirtual 54, 3) := by decide +kernel
theorem dX5_isStale_5 : decode cX5_isStale 5 = .ok (.getfield 65, 3) := by decide +kernel
theorem dX5_isStale_8 : decode cX5_isStale 8 = .ok (.invokevirtual 176, 3) := by decide +kernel
theorem dX5_isStale_11 : decode cX5_isStale 11 = .ok (.ireturn, 1) := by decide +kernel
theorem dX5_rest_0 : decode cX5_rest 0 = .ok (.aload_n 0, 1) := by decide +kernel
theorem dX5_rest_1 : decode cX5_rest 1 = .ok (.iload_n 1, 1) := by decide +kernel
theorem dX5_rest_2 : decode cX5_rest 2 = .ok (.invokevirtual 54, 3) := by decide +kernel
theorem dX5_rest_5 : decode cX5_rest 5 = .ok (.astore_n 2, 1) := by decide +kernel
theorem dX5_rest_6 : decode cX5_rest 6 = .ok (.aload_n 2, 1) := by decide +kernel
theorem dX5_rest_7 : decode cX5_rest 7 = .ok (.getfield 65, 3) := by decide +kernel
theorem dX5_rest_10 : decode cX5_rest 10 = .ok (.invokevirtual 160, 3) := by decide +kernel
theorem dX5_rest_13 : decode cX5_rest 13 = .ok (.ifCond .ne 8, 3) := by decide +kernel
theorem dX5_rest_16 : decode cX5_rest 16 = .ok (.aload_n 0, 1) := by decide +kernel
theorem dX5_rest_17 : decode cX5_rest 17 = .ok (.invokevirtual 117, 3) := by decide +kernel
theorem dX5_rest_20 : decode cX5_rest 20 = .ok (.ireturn, 1) := by decide +kernel
theorem dX5_rest_21 : decode cX5_rest 21 = .ok (.aload_n 2, 1) := by decide +kernel
theorem dX5_rest_22 : decode cX5_rest 22 = .ok (.getfield 65, 3) := by decide +kernel
theorem dX5_rest_25 : decode cX5_rest 25 = .ok (.invokevirtual 179, 3) := by decide +kernel
theorem dX5_rest_28 : decode cX5_rest 28 = .ok (.ireturn, 1) := by decide +kernel
theorem dX5_ask_0 : decode cX5_ask 0 = .ok (.iload_n 1, 1) := by decide +kernel
theorem dX5_ask_1 : decode cX5_ask 1 = .ok (.invokestatic 81, 3) := by decide +kernel
theorem dX5_ask_4 : decode cX5_ask 4 = .ok (.aload_n 0, 1) := by decide +kernel
theorem dX5_ask_5 : decode cX5_ask 5 = .ok (.iconst 1, 1) := by decide +kernel
theorem dX5_ask_6 : decode cX5_ask 6 = .ok (.invokevirtual 182, 3) := by decide +kernel
theorem dX5_ask_9 : decode cX5_ask 9 = .ok (.aload_n 0, 1) := by decide +kernel
theorem dX5_ask_10 : decode cX5_ask 10 = .ok (.iload_n 1, 1) := by decide +kernel
theorem dX5_ask_11 : decode cX5_ask 11 = .ok (.invokevirtual 185, 3) := by decide +kernel
theorem dX5_ask_14 : decode cX5_ask 14 = .ok (.ireturn, 1) := by decide +kernel
theorem dX5_askRow_0 : decode cX5_askRow 0 = .ok (.iload_n 1, 1) := by decide +kernel
theorem dX5_askRow_1 : decode cX5_askRow 1 = .ok (.invokestatic 81, 3) := by decide +kernel
theorem dX5_askRow_4 : decode cX5_askRow 4 = .ok (.iload_n 2, 1) := by decide +kernel
theorem dX5_askRow_5 : decode cX5_askRow 5 = .ok (.ifCond .lt 9, 3) := by decide +kernel
theorem dX5_askRow_8 : decode cX5_askRow 8 = .ok (.iload_n 2, 1) := by decide +kernel
theorem dX5_askRow_9 : decode cX5_askRow 9 = .ok (.bipush 20, 2) := by decide +kernel
theorem dX5_askRow_11 : decode cX5_askRow 11 = .ok (.if_icmp .lt 13, 3) := by decide +kernel
theorem dX5_askRow_14 : decode cX5_askRow 14 = .ok (.new 58, 3) := by decide +kernel
theorem dX5_askRow_17 : decode cX5_askRow 17 = .ok (.dup, 1) := by decide +kernel
theorem dX5_askRow_18 : decode cX5_askRow 18 = .ok (.ldc 188, 2) := by decide +kernel
theorem dX5_askRow_20 : decode cX5_askRow 20 = .ok (.invokespecial 62, 3) := by decide +kernel
theorem dX5_askRow_23 : decode cX5_askRow 23 = .ok (.athrow, 1) := by decide +kernel
theorem dX5_askRow_24 : decode cX5_askRow 24 = .ok (.iload_n 3, 1) := by decide +kernel
theorem dX5_askRow_25 : decode cX5_askRow 25 = .ok (.iconst 1, 1) := by decide +kernel
theorem dX5_askRow_26 : decode cX5_askRow 26 = .ok (.if_icmp .lt 9, 3) := by decide +kernel
theorem dX5_askRow_29 : decode cX5_askRow 29 = .ok (.iload_n 3, 1) := by decide +kernel
theorem dX5_askRow_30 : decode cX5_askRow 30 = .ok (.bipush 12, 2) := by decide +kernel
theorem dX5_askRow_32 : decode cX5_askRow 32 = .ok (.if_icmp .le 13, 3) := by decide +kernel
theorem dX5_askRow_35 : decode cX5_askRow 35 = .ok (.new 58, 3) := by decide +kernel
theorem dX5_askRow_38 : decode cX5_askRow 38 = .ok (.dup, 1) := by decide +kernel
theorem dX5_askRow_39 : decode cX5_askRow 39 = .ok (.ldc 190, 2) := by decide +kernel
theorem dX5_askRow_41 : decode cX5_askRow 41 = .ok (.invokespecial 62, 3) := by decide +kernel
theorem dX5_askRow_44 : decode cX5_askRow 44 = .ok (.athrow, 1) := by decide +kernel
theorem dX5_askRow_45 : decode cX5_askRow 45 = .ok (.aload_n 0, 1) := by decide +kernel
theorem dX5_askRow_46 : decode cX5_askRow 46 = .ok (.iload_n 3, 1) := by decide +kernel
theorem dX5_askRow_47 : decode cX5_askRow 47 = .ok (.invokevirtual 182, 3) := by decide +kernel
theorem dX5_askRow_50 : decode cX5_askRow 50 = .ok (.iconst 0, 1) := by decide +kernel
theorem dX5_askRow_51 : decode cX5_askRow 51 = .ok (.istore 4, 2) := by decide +kernel
theorem dX5_askRow_53 : decode cX5_askRow 53 = .ok (.iconst 0, 1) := by decide +kernel
theorem dX5_askRow_54 : decode cX5_askRow 54 = .ok (.istore 5, 2) := by decide +kernel
theorem dX5_askRow_56 : decode cX5_askRow 56 = .ok (.iload 5, 2) := by decide +kernel
theorem dX5_askRow_58 : decode cX5_askRow 58 = .ok (.iload_n 3, 1) := by decide +kernel
theorem dX5_askRow_59 : decode cX5_askRow 59 = .ok (.if_icmp .ge 27, 3) := by decide +kernel
theorem dX5_askRow_62 : decode cX5_askRow 62 = .ok (.iload 4, 2) := by decide +kernel
theorem dX5_askRow_64 : decode cX5_askRow 64 = .ok (.aload_n 0, 1) := by decide +kernel
theorem dX5_askRow_65 : decode cX5_askRow 65 = .ok (.iload_n 1, 1) := by decide +kernel
theorem dX5_askRow_66 : decode cX5_askRow 66 = .ok (.iload 5, 2) := by decide +kernel
theorem dX5_askRow_68 : decode cX5_askRow 68 = .ok (.iload_n 2, 1) := by decide +kernel
theorem dX5_askRow_69 : decode cX5_askRow 69 = .ok (.imul, 1) := by decide +kernel
theorem dX5_askRow_70 : decode cX5_askRow 70 = .ok (.iadd, 1) := by decide +kernel
theorem dX5_askRow_71 : decode cX5_askRow 71 = .ok (.bipush 20, 2) := by decide +kernel
theorem dX5_askRow_73 : decode cX5_askRow 73 = .ok (.irem, 1) := by decide +kernel
theorem dX5_askRow_74 : decode cX5_askRow 74 = .ok (.invokevirtual 185, 3) := by decide +kernel
theorem dX5_askRow_77 : decode cX5_askRow 77 = .ok (.iadd, 1) := by decide +kernel
theorem dX5_askRow_78 : decode cX5_askRow 78 = .ok (.istore 4, 2) := by decide +kernel
theorem dX5_askRow_80 : decode cX5_askRow 80 = .ok (.iinc 5 1, 3) := by decide +kernel
theorem dX5_askRow_83 : decode cX5_askRow 83 = .ok (.goto (-27), 3) := by decide +kernel
theorem dX5_askRow_86 : decode cX5_askRow 86 = .ok (.iload 4, 2) := by decide +kernel
theorem dX5_askRow_88 : decode cX5_askRow 88 = .ok (.ireturn, 1) := by decide +kernel
theorem dX5_forget_0 : decode cX5_forget 0 = .ok (.aload_n 0, 1) := by decide +kernel
theorem dX5_forget_1 : decode cX5_forget 1 = .ok (.getfield 18, 3) := by decide +kernel
theorem dX5_forget_4 : decode cX5_forget 4 = .ok (.getfield 192, 3) := by decide +kernel
theorem dX5_forget_7 : decode cX5_forget 7 = .ok (.istore_n 1, 1) := by decide +kernel
theorem dX5_forget_8 : decode cX5_forget 8 = .ok (.aload_n 0, 1) := by decide +kernel
theorem dX5_forget_9 : decode cX5_forget 9 = .ok (.getfield 18, 3) := by decide +kernel
theorem dX5_forget_12 : decode cX5_forget 12 = .ok (.iconst 0, 1) := by decide +kernel
theorem dX5_forget_13 : decode cX5_forget 13 = .ok (.putfield 192, 3) := by decide +kernel
theorem dX5_forget_16 : decode cX5_forget 16 = .ok (.aload_n 0, 1) := by decide +kernel
theorem dX5_forget_17 : decode cX5_forget 17 = .ok (.getfield 27, 3) := by decide +kernel
theorem dX5_forget_20 : decode cX5_forget 20 = .ok (.iconst 1, 1) := by decide +kernel
theorem dX5_forget_21 : decode cX5_forget 21 = .ok (.iconst (-1), 1) := by decide +kernel
theorem dX5_forget_22 : decode cX5_forget 22 = .ok (.invokevirtual 77, 3) := by decide +kernel
theorem dX5_forget_25 : decode cX5_forget 25 = .ok (.pop, 1) := by decide +kernel
theorem dX5_forget_26 : decode cX5_forget 26 = .ok (.aload_n 0, 1) := by decide +kernel
theorem dX5_forget_27 : decode cX5_forget 27 = .ok (.getfield 33, 3) := by decide +kernel
theorem dX5_forget_30 : decode cX5_forget 30 = .ok (.astore_n 2, 1) := by decide +kernel
theorem dX5_forget_31 : decode cX5_forget 31 = .ok (.aload_n 2, 1) := by decide +kernel
theorem dX5_forget_32 : decode cX5_forget 32 = .ok (.arraylength, 1) := by decide +kernel
theorem dX5_forget_33 : decode cX5_forget 33 = .ok (.istore_n 3, 1) := by decide +kernel
theorem dX5_forget_34 : decode cX5_forget 34 = .ok (.iconst 0, 1) := by decide +kernel
theorem dX5_forget_35 : decode cX5_forget 35 = .ok (.istore 4, 2) := by decide +kernel
theorem dX5_forget_37 : decode cX5_forget 37 = .ok (.iload 4, 2) := by decide +kernel
theorem dX5_forget_39 : decode cX5_forget 39 = .ok (.iload_n 3, 1) := by decide +kernel
theorem dX5_forget_40 : decode cX5_forget 40 = .ok (.if_icmp .ge 20, 3) := by decide +kernel
theorem dX5_forget_43 : decode cX5_forget 43 = .ok (.aload_n 2, 1) := by decide +kernel
theorem dX5_forget_44 : decode cX5_forget 44 = .ok (.iload 4, 2) := by decide +kernel
theorem dX5_forget_46 : decode cX5_forget 46 = .ok (.aaload, 1) := by decide +kernel
theorem dX5_forget_47 : decode cX5_forget 47 = .ok (.astore 5, 2) := by decide +kernel
theorem dX5_forget_49 : decode cX5_forget 49 = .ok (.aload 5, 2) := by decide +kernel
theorem dX5_forget_51 : decode cX5_forget 51 = .ok (.invokevirtual 193, 3) := by decide +kernel
theorem dX5_forget_54 : decode cX5_forget 54 = .ok (.iinc 4 1, 3) := by decide +kernel
theorem dX5_forget_57 : decode cX5_forget 57 = .ok (.goto (-20), 3) := by decide +kernel
theorem dX5_forget_60 : decode cX5_forget 60 = .ok (.iload_n 1, 1) := by decide +kernel
theorem dX5_forget_61 : decode cX5_forget 61 = .ok (.ireturn, 1) := by decide +kernel
theorem dX5_asked_0 : decode cX5_asked 0 = .ok (.aload_n 0, 1) := by decide +kernel
theorem dX5_asked_1 : decode cX5_asked 1 = .ok (.getfield 18, 3) := by decide +kernel
theorem dX5_asked_4 : decode cX5_asked 4 = .ok (.getfield 192, 3) := by decide +kernel
theorem dX5_asked_7 : decode cX5_asked 7 = .ok (.ireturn, 1) := by decide +kernel
theorem dX5_askedAt_0 : decode cX5_askedAt 0 = .ok (.aload_n 0, 1) := by decide +kernel
theorem dX5_askedAt_1 : decode cX5_askedAt 1 = .ok (.getfield 18, 3) := by decide +kernel
theorem dX5_askedAt_4 : decode cX5_askedAt 4 = .ok (.iload_n 1, 1) := by decide +kernel
theorem dX5_askedAt_5 : decode cX5_askedAt 5 = .ok (.invokevirtual 196, 3) := by decide +kernel
theorem dX5_askedAt_8 : decode cX5_askedAt 8 = .ok (.ifCond .eq 15, 3) := by decide +kernel
theorem dX5_askedAt_11 : decode cX5_askedAt 11 = .ok (.aload_n 0, 1) := by decide +kernel
theorem dX5_askedAt_12 : decode cX5_askedAt 12 = .ok (.getfield 18, 3) := by decide +kernel
theorem dX5_askedAt_15 : decode cX5_askedAt 15 = .ok (.getfield 199, 3) := by decide +kernel
theorem dX5_askedAt_18 : decode cX5_askedAt 18 = .ok (.iload_n 1, 1) := by decide +kernel
theorem dX5_askedAt_19 : decode cX5_askedAt 19 = .ok (.iaload, 1) := by decide +kernel
theorem dX5_askedAt_20 : decode cX5_askedAt 20 = .ok (.goto 4, 3) := by decide +kernel
theorem dX5_askedAt_23 : decode cX5_askedAt 23 = .ok (.iconst (-1), 1) := by decide +kernel
theorem dX5_askedAt_24 : decode cX5_askedAt 24 = .ok (.ireturn, 1) := by decide +kernel
theorem dX5_depthAt_0 : decode cX5_depthAt 0 = .ok (.aload_n 0, 1) := by decide +kernel
theorem dX5_depthAt_1 : decode cX5_depthAt 1 = .ok (.getfield 18, 3) := by decide +kernel
theorem dX5_depthAt_4 : decode cX5_depthAt 4 = .ok (.iload_n 1, 1) := by decide +kernel
theorem dX5_depthAt_5 : decode cX5_depthAt 5 = .ok (.invokevirtual 196, 3) := by decide +kernel
theorem dX5_depthAt_8 : decode cX5_depthAt 8 = .ok (.ifCond .eq 15, 3) := by decide +kernel
theorem dX5_depthAt_11 : decode cX5_depthAt 11 = .ok (.aload_n 0, 1) := by decide +kernel
theorem dX5_depthAt_12 : decode cX5_depthAt 12 = .ok (.getfield 18, 3) := by decide +kernel
theorem dX5_depthAt_15 : decode cX5_depthAt 15 = .ok (.getfield 202, 3) := by decide +kernel
theorem dX5_depthAt_18 : decode cX5_depthAt 18 = .ok (.iload_n 1, 1) := by decide +kernel
theorem dX5_depthAt_19 : decode cX5_depthAt 19 = .ok (.iaload, 1) := by decide +kernel
theorem dX5_depthAt_20 : decode cX5_depthAt 20 = .ok (.goto 4, 3) := by decide +kernel
theorem dX5_depthAt_23 : decode cX5_depthAt 23 = .ok (.iconst (-1), 1) := by decide +kernel
theorem dX5_depthAt_24 : decode cX5_depthAt 24 = .ok (.ireturn, 1) := by decide +kernel
theorem dX5_depth_0 : decode cX5_depth 0 = .ok (.iload_n 1, 1) := by decide +kernel
theorem dX5_depth_1 : decode cX5_depth 1 = .ok (.invokestatic 81, 3) := by decide +kernel
theorem dX5_depth_4 : decode cX5_depth 4 = .ok (.aload_n 0, 1) := by decide +kernel
theorem dX5_depth_5 : decode cX5_depth 5 = .ok (.iload_n 1, 1) := by decide +kernel
theorem dX5_depth_6 : decode cX5_depth 6 = .ok (.invokevirtual 205, 3) := by decide +kernel
theorem dX5_depth_9 : decode cX5_depth 9 = .ok (.ireturn, 1) := by decide +kernel
theorem dX5_stack_0 : decode cX5_stack 0 = .ok (.aload_n 0, 1) := by decide +kernel
theorem dX5_stack_1 : decode cX5_stack 1 = .ok (.getfield 27, 3) := by decide +kernel
theorem dX5_stack_4 : decode cX5_stack 4 = .ok (.iconst 0, 1) := by decide +kernel
theorem dX5_stack_5 : decode cX5_stack 5 = .ok (.invokevirtual 138, 3) := by decide +kernel
theorem dX5_stack_8 : decode cX5_stack 8 = .ok (.areturn, 1) := by decide +kernel
theorem dX5_kept_0 : decode cX5_kept 0 = .ok (.aload_n 0, 1) := by decide +kernel
theorem dX5_kept_1 : decode cX5_kept 1 = .ok (.iload_n 1, 1) := by decide +kernel
theorem dX5_kept_2 : decode cX5_kept 2 = .ok (.invokevirtual 208, 3) := by decide +kernel
theorem dX5_kept_5 : decode cX5_kept 5 = .ok (.getfield 212, 3) := by decide +kernel
theorem dX5_kept_8 : decode cX5_kept 8 = .ok (.iconst 0, 1) := by decide +kernel
theorem dX5_kept_9 : decode cX5_kept 9 = .ok (.invokevirtual 138, 3) := by decide +kernel
theorem dX5_kept_12 : decode cX5_kept 12 = .ok (.areturn, 1) := by decide +kernel
theorem dX5_keeps_0 : decode cX5_keeps 0 = .ok (.aload_n 0, 1) := by decide +kernel
theorem dX5_keeps_1 : decode cX5_keeps 1 = .ok (.iload_n 1, 1) := by decide +kernel
theorem dX5_keeps_2 : decode cX5_keeps 2 = .ok (.invokevirtual 208, 3) := by decide +kernel
theorem dX5_keeps_5 : decode cX5_keeps 5 = .ok (.astore_n 3, 1) := by decide +kernel
theorem dX5_keeps_6 : decode cX5_keeps 6 = .ok (.iload_n 2, 1) := by decide +kernel
theorem dX5_keeps_7 : decode cX5_keeps 7 = .ok (.invokestatic 81, 3) := by decide +kernel
theorem dX5_keeps_10 : decode cX5_keeps 10 = .ok (.aload_n 3, 1) := by decide +kernel
theorem dX5_keeps_11 : decode cX5_keeps 11 = .ok (.getfield 212, 3) := by decide +kernel
theorem dX5_keeps_14 : decode cX5_keeps 14 = .ok (.iload_n 2, 1) := by decide +kernel
theorem dX5_keeps_15 : decode cX5_keeps 15 = .ok (.invokevirtual 129, 3) := by decide +kernel
theorem dX5_keeps_18 : decode cX5_keeps 18 = .ok (.iconst (-1), 1) := by decide +kernel
theorem dX5_keeps_19 : decode cX5_keeps 19 = .ok (.if_icmp .eq 7, 3) := by decide +kernel
theorem dX5_keeps_22 : decode cX5_keeps 22 = .ok (.iconst 1, 1) := by decide +kernel
theorem dX5_keeps_23 : decode cX5_keeps 23 = .ok (.goto 4, 3) := by decide +kernel
theorem dX5_keeps_26 : decode cX5_keeps 26 = .ok (.iconst 0, 1) := by decide +kernel
theorem dX5_keeps_27 : decode cX5_keeps 27 = .ok (.ireturn, 1) := by decide +kernel
theorem dX5_takenAt_0 : decode cX5_takenAt 0 = .ok (.aload_n 0, 1) := by decide +kernel
theorem dX5_takenAt_1 : decode cX5_takenAt 1 = .ok (.iload_n 1, 1) := by decide +kernel
theorem dX5_takenAt_2 : decode cX5_takenAt 2 = .ok (.invokevirtual 208, 3) := by decide +kernel
theorem dX5_takenAt_5 : decode cX5_takenAt 5 = .ok (.astore_n 3, 1) := by decide +kernel
theorem dX5_takenAt_6 : decode cX5_takenAt 6 = .ok (.iload_n 2, 1) := by decide +kernel
theorem dX5_takenAt_7 : decode cX5_takenAt 7 = .ok (.invokestatic 81, 3) := by decide +kernel
theorem dX5_takenAt_10 : decode cX5_takenAt 10 = .ok (.aload_n 3, 1) := by decide +kernel
theorem dX5_takenAt_11 : decode cX5_takenAt 11 = .ok (.getfield 212, 3) := by decide +kernel
theorem dX5_takenAt_14 : decode cX5_takenAt 14 = .ok (.aload_n 3, 1) := by decide +kernel
theorem dX5_takenAt_15 : decode cX5_takenAt 15 = .ok (.getfield 212, 3) := by decide +kernel
theorem dX5_takenAt_18 : decode cX5_takenAt 18 = .ok (.iload_n 2, 1) := by decide +kernel
theorem dX5_takenAt_19 : decode cX5_takenAt 19 = .ok (.invokevirtual 129, 3) := by decide +kernel
theorem dX5_takenAt_22 : decode cX5_takenAt 22 = .ok (.iconst 1, 1) := by decide +kernel
theorem dX5_takenAt_23 : decode cX5_takenAt 23 = .ok (.invokevirtual 132, 3) := by decide +kernel
theorem dX5_takenAt_26 : decode cX5_takenAt 26 = .ok (.ireturn, 1) := by decide +kernel
theorem dX5_misses_0 : decode cX5_misses 0 = .ok (.aload_n 0, 1) := by decide +kernel
theorem dX5_misses_1 : decode cX5_misses 1 = .ok (.iload_n 1, 1) := by decide +kernel
theorem dX5_misses_2 : decode cX5_misses 2 = .ok (.invokevirtual 208, 3) := by decide +kernel
theorem dX5_misses_5 : decode cX5_misses 5 = .ok (.getfield 213, 3) := by decide +kernel
theorem dX5_misses_8 : decode cX5_misses 8 = .ok (.ireturn, 1) := by decide +kernel
theorem dX5_hits_0 : decode cX5_hits 0 = .ok (.aload_n 0, 1) := by decide +kernel
theorem dX5_hits_1 : decode cX5_hits 1 = .ok (.iload_n 1, 1) := by decide +kernel
theorem dX5_hits_2 : decode cX5_hits 2 = .ok (.invokevirtual 208, 3) := by decide +kernel
theorem dX5_hits_5 : decode cX5_hits 5 = .ok (.getfield 216, 3) := by decide +kernel
theorem dX5_hits_8 : decode cX5_hits 8 = .ok (.ireturn, 1) := by decide +kernel
theorem dX5_lost_0 : decode cX5_lost 0 = .ok (.aload_n 0, 1) := by decide +kernel
theorem dX5_lost_1 : decode cX5_lost 1 = .ok (.iload_n 1, 1) := by decide +kernel
theorem dX5_lost_2 : decode cX5_lost 2 = .ok (.invokevirtual 208, 3) := by decide +kernel
theorem dX5_lost_5 : decode cX5_lost 5 = .ok (.getfield 212, 3) := by decide +kernel
theorem dX5_lost_8 : decode cX5_lost 8 = .ok (.getfield 149, 3) := by decide +kernel
theorem dX5_lost_11 : decode cX5_lost 11 = .ok (.ireturn, 1) := by decide +kernel
theorem dX5_withDepth_0 : decode cX5_withDepth 0 = .ok (.aload_n 0, 1) := by decide +kernel
theorem dX5_withDepth_1 : decode cX5_withDepth 1 = .ok (.getfield 18, 3) := by decide +kernel
theorem dX5_withDepth_4 : decode cX5_withDepth 4 = .ok (.iload_n 1, 1) := by decide +kernel
theorem dX5_withDepth_5 : decode cX5_withDepth 5 = .ok (.invokevirtual 219, 3) := by decide +kernel
theorem dX5_withDepth_8 : decode cX5_withDepth 8 = .ok (.ireturn, 1) := by decide +kernel
theorem dX5_best_0 : decode cX5_best 0 = .ok (.iload_n 1, 1) := by decide +kernel
theorem dX5_best_1 : decode cX5_best 1 = .ok (.invokestatic 222, 3) := by decide +kernel
theorem dX5_best_4 : decode cX5_best 4 = .ok (.aload_n 0, 1) := by decide +kernel
theorem dX5_best_5 : decode cX5_best 5 = .ok (.getfield 18, 3) := by decide +kernel
theorem dX5_best_8 : decode cX5_best 8 = .ok (.iload_n 1, 1) := by decide +kernel
theorem dX5_best_9 : decode cX5_best 9 = .ok (.invokevirtual 225, 3) := by decide +kernel
theorem dX5_best_12 : decode cX5_best 12 = .ok (.ireturn, 1) := by decide +kernel
theorem dX5_house_0 : decode cX5_house 0 = .ok (.iload_n 1, 1) := by decide +kernel
theorem dX5_house_1 : decode cX5_house 1 = .ok (.tableswitch 66 0 4 #[35, 40, 48, 56, 61], 35) := by decide +kernel
theorem dX5_house_36 : decode cX5_house 36 = .ok (.aload_n 0, 1) := by decide +kernel
theorem dX5_house_37 : decode cX5_house 37 = .ok (.invokevirtual 228, 3) := by decide +kernel
theorem dX5_house_40 : decode cX5_house 40 = .ok (.ireturn, 1) := by decide +kernel
theorem dX5_house_41 : decode cX5_house 41 = .ok (.aload_n 0, 1) := by decide +kernel
theorem dX5_house_42 : decode cX5_house 42 = .ok (.getfield 18, 3) := by decide +kernel
theorem dX5_house_45 : decode cX5_house 45 = .ok (.getfield 192, 3) := by decide +kernel
theorem dX5_house_48 : decode cX5_house 48 = .ok (.ireturn, 1) := by decide +kernel
theorem dX5_house_49 : decode cX5_house 49 = .ok (.aload_n 0, 1) := by decide +kernel
theorem dX5_house_50 : decode cX5_house 50 = .ok (.getfield 27, 3) := by decide +kernel
theorem dX5_house_53 : decode cX5_house 53 = .ok (.getfield 126, 3) := by decide +kernel
theorem dX5_house_56 : decode cX5_house 56 = .ok (.ireturn, 1) := by decide +kernel
theorem dX5_house_57 : decode cX5_house 57 = .ok (.aload_n 0, 1) := by decide +kernel
theorem dX5_house_58 : decode cX5_house 58 = .ok (.getfield 41, 3) := by decide +kernel
theorem dX5_house_61 : decode cX5_house 61 = .ok (.ireturn, 1) := by decide +kernel
theorem dX5_house_62 : decode cX5_house 62 = .ok (.aload_n 0, 1) := by decide +kernel
theorem dX5_house_63 : decode cX5_house 63 = .ok (.getfield 45, 3) := by decide +kernel
theorem dX5_house_66 : decode cX5_house 66 = .ok (.ireturn, 1) := by decide +kernel
theorem dX5_house_67 : decode cX5_house 67 = .ok (.new 58, 3) := by decide +kernel
theorem dX5_house_70 : decode cX5_house 70 = .ok (.dup, 1) := by decide +kernel
theorem dX5_house_71 : decode cX5_house 71 = .ok (.ldc 155, 2) := by decide +kernel
theorem dX5_house_73 : decode cX5_house 73 = .ok (.invokespecial 62, 3) := by decide +kernel
theorem dX5_house_76 : decode cX5_house 76 = .ok (.athrow, 1) := by decide +kernel
theorem dX5_knock_0 : decode cX5_knock 0 = .ok (.aload_n 0, 1) := by decide +kernel
theorem dX5_knock_1 : decode cX5_knock 1 = .ok (.dup, 1) := by decide +kernel
theorem dX5_knock_2 : decode cX5_knock 2 = .ok (.getfield 45, 3) := by decide +kernel
theorem dX5_knock_5 : decode cX5_knock 5 = .ok (.iconst 1, 1) := by decide +kernel
theorem dX5_knock_6 : decode cX5_knock 6 = .ok (.iadd, 1) := by decide +kernel
theorem dX5_knock_7 : decode cX5_knock 7 = .ok (.putfield 45, 3) := by decide +kernel
theorem dX5_knock_10 : decode cX5_knock 10 = .ok (.aload_n 0, 1) := by decide +kernel
theorem dX5_knock_11 : decode cX5_knock 11 = .ok (.getfield 45, 3) := by decide +kernel
theorem dX5_knock_14 : decode cX5_knock 14 = .ok (.ireturn, 1) := by decide +kernel
theorem dX5_isSound_0 : decode cX5_isSound 0 = .ok (.iconst 0, 1) := by decide +kernel
theorem dX5_isSound_1 : decode cX5_isSound 1 = .ok (.istore_n 1, 1) := by decide +kernel
theorem dX5_isSound_2 : decode cX5_isSound 2 = .ok (.iload_n 1, 1) := by decide +kernel
theorem dX5_isSound_3 : decode cX5_isSound 3 = .ok (.bipush 6, 2) := by decide +kernel
theorem dX5_isSound_5 : decode cX5_isSound 5 = .ok (.if_icmp .ge 25, 3) := by decide +kernel
theorem dX5_isSound_8 : decode cX5_isSound 8 = .ok (.aload_n 0, 1) := by decide +kernel
theorem dX5_isSound_9 : decode cX5_isSound 9 = .ok (.getfield 37, 3) := by decide +kernel
theorem dX5_isSound_12 : decode cX5_isSound 12 = .ok (.iload_n 1, 1) := by decide +kernel
theorem dX5_isSound_13 : decode cX5_isSound 13 = .ok (.aload_n 0, 1) := by decide +kernel
theorem dX5_isSound_14 : decode cX5_isSound 14 = .ok (.getfield 18, 3) := by decide +kernel
theorem dX5_isSound_17 : decode cX5_isSound 17 = .ok (.iload_n 1, 1) := by decide +kernel
theorem dX5_isSound_18 : decode cX5_isSound 18 = .ok (.iconst 1, 1) := by decide +kernel
theorem dX5_isSound_19 : decode cX5_isSound 19 = .ok (.iadd, 1) := by decide +kernel
theorem dX5_isSound_20 : decode cX5_isSound 20 = .ok (.invokevirtual 225, 3) := by decide +kernel
theorem dX5_isSound_23 : decode cX5_isSound 23 = .ok (.iastore, 1) := by decide +kernel
theorem dX5_isSound_24 : decode cX5_isSound 24 = .ok (.iinc 1 1, 3) := by decide +kernel
theorem dX5_isSound_27 : decode cX5_isSound 27 = .ok (.goto (-25), 3) := by decide +kernel
theorem dX5_isSound_30 : decode cX5_isSound 30 = .ok (.aload_n 0, 1) := by decide +kernel
theorem dX5_isSound_31 : decode cX5_isSound 31 = .ok (.invokevirtual 231, 3) := by decide +kernel
theorem dX5_isSound_34 : decode cX5_isSound 34 = .ok (.ifCond .eq 42, 3) := by decide +kernel
theorem dX5_isSound_37 : decode cX5_isSound 37 = .ok (.aload_n 0, 1) := by decide +kernel
theorem dX5_isSound_38 : decode cX5_isSound 38 = .ok (.invokevirtual 234, 3) := by decide +kernel
theorem dX5_isSound_41 : decode cX5_isSound 41 = .ok (.ifCond .eq 35, 3) := by decide +kernel
theorem dX5_isSound_44 : decode cX5_isSound 44 = .ok (.aload_n 0, 1) := by decide +kernel
theorem dX5_isSound_45 : decode cX5_isSound 45 = .ok (.invokevirtual 237, 3) := by decide +kernel
theorem dX5_isSound_48 : decode cX5_isSound 48 = .ok (.ifCond .eq 28, 3) := by decide +kernel
theorem dX5_isSound_51 : decode cX5_isSound 51 = .ok (.aload_n 0, 1) := by decide +kernel
theorem dX5_isSound_52 : decode cX5_isSound 52 = .ok (.invokevirtual 240, 3) := by decide +kernel
theorem dX5_isSound_55 : decode cX5_isSound 55 = .ok (.ifCond .eq 21, 3) := by decide +kernel
theorem dX5_isSound_58 : decode cX5_isSound 58 = .ok (.aload_n 0, 1) := by decide +kernel
theorem dX5_isSound_59 : decode cX5_isSound 59 = .ok (.invokevirtual 243, 3) := by decide +kernel
theorem dX5_isSound_62 : decode cX5_isSound 62 = .ok (.ifCond .eq 14, 3) := by decide +kernel
theorem dX5_isSound_65 : decode cX5_isSound 65 = .ok (.aload_n 0, 1) := by decide +kernel
theorem dX5_isSound_66 : decode cX5_isSound 66 = .ok (.invokevirtual 246, 3) := by decide +kernel
theorem dX5_isSound_69 : decode cX5_isSound 69 = .ok (.ifCond .eq 7, 3) := by decide +kernel
theorem dX5_isSound_72 : decode cX5_isSound 72 = .ok (.iconst 1, 1) := by decide +kernel
theorem dX5_isSound_73 : decode cX5_isSound 73 = .ok (.goto 4, 3) := by decide +kernel
theorem dX5_isSound_76 : decode cX5_isSound 76 = .ok (.iconst 0, 1) := by decide +kernel
theorem dX5_isSound_77 : decode cX5_isSound 77 = .ok (.ireturn, 1) := by decide +kernel
theorem dX5_digest_0 : decode cX5_digest 0 = .ok (.ldc2_w 249, 3) := by decide +kernel
theorem dX5_digest_3 : decode cX5_digest 3 = .ok (.lstore_n 1, 1) := by decide +kernel
theorem dX5_digest_4 : decode cX5_digest 4 = .ok (.iconst 0, 1) := by decide +kernel
theorem dX5_digest_5 : decode cX5_digest 5 = .ok (.istore_n 3, 1) := by decide +kernel
theorem dX5_digest_6 : decode cX5_digest 6 = .ok (.iload_n 3, 1) := by decide +kernel
theorem dX5_digest_7 : decode cX5_digest 7 = .ok (.iconst 4, 1) := by decide +kernel
theorem dX5_digest_8 : decode cX5_digest 8 = .ok (.if_icmp .gt 19, 3) := by decide +kernel
theorem dX5_digest_11 : decode cX5_digest 11 = .ok (.lload_n 1, 1) := by decide +kernel
theorem dX5_digest_12 : decode cX5_digest 12 = .ok (.aload_n 0, 1) := by decide +kernel
theorem dX5_digest_13 : decode cX5_digest 13 = .ok (.iload_n 3, 1) := by decide +kernel
theorem dX5_digest_14 : decode cX5_digest 14 = .ok (.invokevirtual 251, 3) := by decide +kernel
theorem dX5_digest_17 : decode cX5_digest 17 = .ok (.invokestatic 254, 3) := by decide +kernel
theorem dX5_digest_20 : decode cX5_digest 20 = .ok (.lstore_n 1, 1) := by decide +kernel
theorem dX5_digest_21 : decode cX5_digest 21 = .ok (.iinc 3 1, 3) := by decide +kernel
theorem dX5_digest_24 : decode cX5_digest 24 = .ok (.goto (-18), 3) := by decide +kernel
theorem dX5_digest_27 : decode cX5_digest 27 = .ok (.iconst 0, 1) := by decide +kernel
theorem dX5_digest_28 : decode cX5_digest 28 = .ok (.istore_n 3, 1) := by decide +kernel
theorem dX5_digest_29 : decode cX5_digest 29 = .ok (.iload_n 3, 1) := by decide +kernel
theorem dX5_digest_30 : decode cX5_digest 30 = .ok (.iconst 4, 1) := by decide +kernel
theorem dX5_digest_31 : decode cX5_digest 31 = .ok (.if_icmp .ge 16, 3) := by decide +kernel
theorem dX5_digest_34 : decode cX5_digest 34 = .ok (.aload_n 0, 1) := by decide +kernel
theorem dX5_digest_35 : decode cX5_digest 35 = .ok (.lload_n 1, 1) := by decide +kernel
theorem dX5_digest_36 : decode cX5_digest 36 = .ok (.iload_n 3, 1) := by decide +kernel
theorem dX5_digest_37 : decode cX5_digest 37 = .ok (.invokevirtual 258, 3) := by decide +kernel
theorem dX5_digest_40 : decode cX5_digest 40 = .ok (.lstore_n 1, 1) := by decide +kernel
theorem dX5_digest_41 : decode cX5_digest 41 = .ok (.iinc 3 1, 3) := by decide +kernel
theorem dX5_digest_44 : decode cX5_digest 44 = .ok (.goto (-15), 3) := by decide +kernel
theorem dX5_digest_47 : decode cX5_digest 47 = .ok (.iconst 0, 1) := by decide +kernel
theorem dX5_digest_48 : decode cX5_digest 48 = .ok (.istore_n 3, 1) := by decide +kernel
theorem dX5_digest_49 : decode cX5_digest 49 = .ok (.iload_n 3, 1) := by decide +kernel
theorem dX5_digest_50 : decode cX5_digest 50 = .ok (.aload_n 0, 1) := by decide +kernel
theorem dX5_digest_51 : decode cX5_digest 51 = .ok (.getfield 18, 3) := by decide +kernel
theorem dX5_digest_54 : decode cX5_digest 54 = .ok (.getfield 192, 3) := by decide +kernel
theorem dX5_digest_57 : decode cX5_digest 57 = .ok (.if_icmp .ge 29, 3) := by decide +kernel
theorem dX5_digest_60 : decode cX5_digest 60 = .ok (.lload_n 1, 1) := by decide +kernel
theorem dX5_digest_61 : decode cX5_digest 61 = .ok (.aload_n 0, 1) := by decide +kernel
theorem dX5_digest_62 : decode cX5_digest 62 = .ok (.iload_n 3, 1) := by decide +kernel
theorem dX5_digest_63 : decode cX5_digest 63 = .ok (.invokevirtual 261, 3) := by decide +kernel
theorem dX5_digest_66 : decode cX5_digest 66 = .ok (.invokestatic 254, 3) := by decide +kernel
theorem dX5_digest_69 : decode cX5_digest 69 = .ok (.lstore_n 1, 1) := by decide +kernel
theorem dX5_digest_70 : decode cX5_digest 70 = .ok (.lload_n 1, 1) := by decide +kernel
theorem dX5_digest_71 : decode cX5_digest 71 = .ok (.aload_n 0, 1) := by decide +kernel
theorem dX5_digest_72 : decode cX5_digest 72 = .ok (.iload_n 3, 1) := by decide +kernel
theorem dX5_digest_73 : decode cX5_digest 73 = .ok (.invokevirtual 264, 3) := by decide +kernel
theorem dX5_digest_76 : decode cX5_digest 76 = .ok (.invokestatic 254, 3) := by decide +kernel
theorem dX5_digest_79 : decode cX5_digest 79 = .ok (.lstore_n 1, 1) := by decide +kernel
theorem dX5_digest_80 : decode cX5_digest 80 = .ok (.iinc 3 1, 3) := by decide +kernel
theorem dX5_digest_83 : decode cX5_digest 83 = .ok (.goto (-34), 3) := by decide +kernel
theorem dX5_digest_86 : decode cX5_digest 86 = .ok (.iconst 0, 1) := by decide +kernel
theorem dX5_digest_87 : decode cX5_digest 87 = .ok (.istore_n 3, 1) := by decide +kernel
theorem dX5_digest_88 : decode cX5_digest 88 = .ok (.iload_n 3, 1) := by decide +kernel
theorem dX5_digest_89 : decode cX5_digest 89 = .ok (.aload_n 0, 1) := by decide +kernel
theorem dX5_digest_90 : decode cX5_digest 90 = .ok (.getfield 27, 3) := by decide +kernel
theorem dX5_digest_93 : decode cX5_digest 93 = .ok (.getfield 126, 3) := by decide +kernel
theorem dX5_digest_96 : decode cX5_digest 96 = .ok (.if_icmp .ge 23, 3) := by decide +kernel
theorem dX5_digest_99 : decode cX5_digest 99 = .ok (.lload_n 1, 1) := by decide +kernel
theorem dX5_digest_100 : decode cX5_digest 100 = .ok (.aload_n 0, 1) := by decide +kernel
theorem dX5_digest_101 : decode cX5_digest 101 = .ok (.getfield 27, 3) := by decide +kernel
theorem dX5_digest_104 : decode cX5_digest 104 = .ok (.iload_n 3, 1) := by decide +kernel
theorem dX5_digest_105 : decode cX5_digest 105 = .ok (.iconst 0, 1) := by decide +kernel
theorem dX5_digest_106 : decode cX5_digest 106 = .ok (.invokevirtual 132, 3) := by decide +kernel
theorem dX5_digest_109 : decode cX5_digest 109 = .ok (.invokestatic 254, 3) := by decide +kernel
theorem dX5_digest_112 : decode cX5_digest 112 = .ok (.lstore_n 1, 1) := by decide +kernel
theorem dX5_digest_113 : decode cX5_digest 113 = .ok (.iinc 3 1, 3) := by decide +kernel
theorem dX5_digest_116 : decode cX5_digest 116 = .ok (.goto (-28), 3) := by decide +kernel
theorem dX5_digest_119 : decode cX5_digest 119 = .ok (.iconst 1, 1) := by decide +kernel
theorem dX5_digest_120 : decode cX5_digest 120 = .ok (.istore_n 3, 1) := by decide +kernel
theorem dX5_digest_121 : decode cX5_digest 121 = .ok (.iload_n 3, 1) := by decide +kernel
theorem dX5_digest_122 : decode cX5_digest 122 = .ok (.bipush 6, 2) := by decide +kernel
theorem dX5_digest_124 : decode cX5_digest 124 = .ok (.if_icmp .gt 16, 3) := by decide +kernel
theorem dX5_digest_127 : decode cX5_digest 127 = .ok (.aload_n 0, 1) := by decide +kernel
theorem dX5_digest_128 : decode cX5_digest 128 = .ok (.lload_n 1, 1) := by decide +kernel
theorem dX5_digest_129 : decode cX5_digest 129 = .ok (.iload_n 3, 1) := by decide +kernel
theorem dX5_digest_130 : decode cX5_digest 130 = .ok (.invokevirtual 267, 3) := by decide +kernel
theorem dX5_digest_133 : decode cX5_digest 133 = .ok (.lstore_n 1, 1) := by decide +kernel
theorem dX5_digest_134 : decode cX5_digest 134 = .ok (.iinc 3 1, 3) := by decide +kernel
theorem dX5_digest_137 : decode cX5_digest 137 = .ok (.goto (-16), 3) := by decide +kernel
theorem dX5_digest_140 : decode cX5_digest 140 = .ok (.lload_n 1, 1) := by decide +kernel
theorem dX5_digest_141 : decode cX5_digest 141 = .ok (.aload_n 0, 1) := by decide +kernel
theorem dX5_digest_142 : decode cX5_digest 142 = .ok (.invokevirtual 270, 3) := by decide +kernel
theorem dX5_digest_145 : decode cX5_digest 145 = .ok (.ifCond .eq 7, 3) := by decide +kernel
theorem dX5_digest_148 : decode cX5_digest 148 = .ok (.iconst 1, 1) := by decide +kernel
theorem dX5_digest_149 : decode cX5_digest 149 = .ok (.goto 4, 3) := by decide +kernel
theorem dX5_digest_152 : decode cX5_digest 152 = .ok (.iconst 0, 1) := by decide +kernel
theorem dX5_digest_153 : decode cX5_digest 153 = .ok (.invokestatic 254, 3) := by decide +kernel
theorem dX5_digest_156 : decode cX5_digest 156 = .ok (.lreturn, 1) := by decide +kernel
theorem dX5_mixed_0 : decode cX5_mixed 0 = .ok (.lload_n 0, 1) := by decide +kernel
theorem dX5_mixed_1 : decode cX5_mixed 1 = .ok (.ldc2_w 273, 3) := by decide +kernel
theorem dX5_mixed_4 : decode cX5_mixed 4 = .ok (.lmul, 1) := by decide +kernel
theorem dX5_mixed_5 : decode cX5_mixed 5 = .ok (.iload_n 2, 1) := by decide +kernel
theorem dX5_mixed_6 : decode cX5_mixed 6 = .ok (.i2l, 1) := by decide +kernel
theorem dX5_mixed_7 : decode cX5_mixed 7 = .ok (.ladd, 1) := by decide +kernel
theorem dX5_mixed_8 : decode cX5_mixed 8 = .ok (.lreturn, 1) := by decide +kernel
theorem dX5_mixedWithTable_0 : decode cX5_mixedWithTable 0 = .ok (.lload_n 1, 1) := by decide +kernel
theorem dX5_mixedWithTable_1 : decode cX5_mixedWithTable 1 = .ok (.lstore 4, 2) := by decide +kernel
theorem dX5_mixedWithTable_3 : decode cX5_mixedWithTable 3 = .ok (.iconst 0, 1) := by decide +kernel
theorem dX5_mixedWithTable_4 : decode cX5_mixedWithTable 4 = .ok (.istore 6, 2) := by decide +kernel
theorem dX5_mixedWithTable_6 : decode cX5_mixedWithTable 6 = .ok (.iload 6, 2) := by decide +kernel
theorem dX5_mixedWithTable_8 : decode cX5_mixedWithTable 8 = .ok (.iconst 4, 1) := by decide +kernel
theorem dX5_mixedWithTable_9 : decode cX5_mixedWithTable 9 = .ok (.if_icmp .gt 23, 3) := by decide +kernel
theorem dX5_mixedWithTable_12 : decode cX5_mixedWithTable 12 = .ok (.lload 4, 2) := by decide +kernel
theorem dX5_mixedWithTable_14 : decode cX5_mixedWithTable 14 = .ok (.aload_n 0, 1) := by decide +kernel
theorem dX5_mixedWithTable_15 : decode cX5_mixedWithTable 15 = .ok (.iload_n 3, 1) := by decide +kernel
theorem dX5_mixedWithTable_16 : decode cX5_mixedWithTable 16 = .ok (.iload 6, 2) := by decide +kernel
theorem dX5_mixedWithTable_18 : decode cX5_mixedWithTable 18 = .ok (.invokevirtual 275, 3) := by decide +kernel
theorem dX5_mixedWithTable_21 : decode cX5_mixedWithTable 21 = .ok (.invokestatic 254, 3) := by decide +kernel
theorem dX5_mixedWithTable_24 : decode cX5_mixedWithTable 24 = .ok (.lstore 4, 2) := by decide +kernel
theorem dX5_mixedWithTable_26 : decode cX5_mixedWithTable 26 = .ok (.iinc 6 1, 3) := by decide +kernel
theorem dX5_mixedWithTable_29 : decode cX5_mixedWithTable 29 = .ok (.goto (-23), 3) := by decide +kernel
theorem dX5_mixedWithTable_32 : decode cX5_mixedWithTable 32 = .ok (.iconst 0, 1) := by decide +kernel
theorem dX5_mixedWithTable_33 : decode cX5_mixedWithTable 33 = .ok (.istore 6, 2) := by decide +kernel
theorem dX5_mixedWithTable_35 : decode cX5_mixedWithTable 35 = .ok (.iload 6, 2) := by decide +kernel
theorem dX5_mixedWithTable_37 : decode cX5_mixedWithTable 37 = .ok (.aload_n 0, 1) := by decide +kernel
theorem dX5_mixedWithTable_38 : decode cX5_mixedWithTable 38 = .ok (.iload_n 3, 1) := by decide +kernel
theorem dX5_mixedWithTable_39 : decode cX5_mixedWithTable 39 = .ok (.invokevirtual 278, 3) := by decide +kernel
theorem dX5_mixedWithTable_42 : decode cX5_mixedWithTable 42 = .ok (.if_icmp .ge 23, 3) := by decide +kernel
theorem dX5_mixedWithTable_45 : decode cX5_mixedWithTable 45 = .ok (.lload 4, 2) := by decide +kernel
theorem dX5_mixedWithTable_47 : decode cX5_mixedWithTable 47 = .ok (.aload_n 0, 1) := by decide +kernel
theorem dX5_mixedWithTable_48 : decode cX5_mixedWithTable 48 = .ok (.iload_n 3, 1) := by decide +kernel
theorem dX5_mixedWithTable_49 : decode cX5_mixedWithTable 49 = .ok (.iload 6, 2) := by decide +kernel
theorem dX5_mixedWithTable_51 : decode cX5_mixedWithTable 51 = .ok (.invokevirtual 281, 3) := by decide +kernel
theorem dX5_mixedWithTable_54 : decode cX5_mixedWithTable 54 = .ok (.invokestatic 254, 3) := by decide +kernel
theorem dX5_mixedWithTable_57 : decode cX5_mixedWithTable 57 = .ok (.lstore 4, 2) := by decide +kernel
theorem dX5_mixedWithTable_59 : decode cX5_mixedWithTable 59 = .ok (.iinc 6 1, 3) := by decide +kernel
theorem dX5_mixedWithTable_62 : decode cX5_mixedWithTable 62 = .ok (.goto (-27), 3) := by decide +kernel
theorem dX5_mixedWithTable_65 : decode cX5_mixedWithTable 65 = .ok (.lload 4, 2) := by decide +kernel
theorem dX5_mixedWithTable_67 : decode cX5_mixedWithTable 67 = .ok (.aload_n 0, 1) := by decide +kernel
theorem dX5_mixedWithTable_68 : decode cX5_mixedWithTable 68 = .ok (.iload_n 3, 1) := by decide +kernel
theorem dX5_mixedWithTable_69 : decode cX5_mixedWithTable 69 = .ok (.invokevirtual 284, 3) := by decide +kernel
theorem dX5_mixedWithTable_72 : decode cX5_mixedWithTable 72 = .ok (.ifCond .eq 7, 3) := by decide +kernel
theorem dX5_mixedWithTable_75 : decode cX5_mixedWithTable 75 = .ok (.iconst 1, 1) := by decide +kernel
theorem dX5_mixedWithTable_76 : decode cX5_mixedWithTable 76 = .ok (.goto 4, 3) := by decide +kernel
theorem dX5_mixedWithTable_79 : decode cX5_mixedWithTable 79 = .ok (.iconst 0, 1) := by decide +kernel
theorem dX5_mixedWithTable_80 : decode cX5_mixedWithTable 80 = .ok (.invokestatic 254, 3) := by decide +kernel
theorem dX5_mixedWithTable_83 : decode cX5_mixedWithTable 83 = .ok (.lstore 4, 2) := by decide +kernel
theorem dX5_mixedWithTable_85 : decode cX5_mixedWithTable 85 = .ok (.lload 4, 2) := by decide +kernel
theorem dX5_mixedWithTable_87 : decode cX5_mixedWithTable 87 = .ok (.aload_n 0, 1) := by decide +kernel
theorem dX5_mixedWithTable_88 : decode cX5_mixedWithTable 88 = .ok (.iload_n 3, 1) := by decide +kernel
theorem dX5_mixedWithTable_89 : decode cX5_mixedWithTable 89 = .ok (.invokevirtual 287, 3) := by decide +kernel
theorem dX5_mixedWithTable_92 : decode cX5_mixedWithTable 92 = .ok (.ifCond .eq 7, 3) := by decide +kernel
theorem dX5_mixedWithTable_95 : decode cX5_mixedWithTable 95 = .ok (.iconst 1, 1) := by decide +kernel
theorem dX5_mixedWithTable_96 : decode cX5_mixedWithTable 96 = .ok (.goto 4, 3) := by decide +kernel
theorem dX5_mixedWithTable_99 : decode cX5_mixedWithTable 99 = .ok (.iconst 0, 1) := by decide +kernel
theorem dX5_mixedWithTable_100 : decode cX5_mixedWithTable 100 = .ok (.invokestatic 254, 3) := by decide +kernel
theorem dX5_mixedWithTable_103 : decode cX5_mixedWithTable 103 = .ok (.lreturn, 1) := by decide +kernel
theorem dX5_mixedWithKeeper_0 : decode cX5_mixedWithKeeper 0 = .ok (.lload_n 1, 1) := by decide +kernel
theorem dX5_mixedWithKeeper_1 : decode cX5_mixedWithKeeper 1 = .ok (.lstore 4, 2) := by decide +kernel
theorem dX5_mixedWithKeeper_3 : decode cX5_mixedWithKeeper 3 = .ok (.lload 4, 2) := by decide +kernel
theorem dX5_mixedWithKeeper_5 : decode cX5_mixedWithKeeper 5 = .ok (.aload_n 0, 1) := by decide +kernel
theorem dX5_mixedWithKeeper_6 : decode cX5_mixedWithKeeper 6 = .ok (.iload_n 3, 1) := by decide +kernel
theorem dX5_mixedWithKeeper_7 : decode cX5_mixedWithKeeper 7 = .ok (.invokevirtual 290, 3) := by decide +kernel
theorem dX5_mixedWithKeeper_10 : decode cX5_mixedWithKeeper 10 = .ok (.invokestatic 254, 3) := by decide +kernel
theorem dX5_mixedWithKeeper_13 : decode cX5_mixedWithKeeper 13 = .ok (.lstore 4, 2) := by decide +kernel
theorem dX5_mixedWithKeeper_15 : decode cX5_mixedWithKeeper 15 = .ok (.lload 4, 2) := by decide +kernel
theorem dX5_mixedWithKeeper_17 : decode cX5_mixedWithKeeper 17 = .ok (.aload_n 0, 1) := by decide +kernel
theorem dX5_mixedWithKeeper_18 : decode cX5_mixedWithKeeper 18 = .ok (.iload_n 3, 1) := by decide +kernel
theorem dX5_mixedWithKeeper_19 : decode cX5_mixedWithKeeper 19 = .ok (.invokevirtual 293, 3) := by decide +kernel
theorem dX5_mixedWithKeeper_22 : decode cX5_mixedWithKeeper 22 = .ok (.invokestatic 254, 3) := by decide +kernel
theorem dX5_mixedWithKeeper_25 : decode cX5_mixedWithKeeper 25 = .ok (.lstore 4, 2) := by decide +kernel
theorem dX5_mixedWithKeeper_27 : decode cX5_mixedWithKeeper 27 = .ok (.lload 4, 2) := by decide +kernel
theorem dX5_mixedWithKeeper_29 : decode cX5_mixedWithKeeper 29 = .ok (.aload_n 0, 1) := by decide +kernel
theorem dX5_mixedWithKeeper_30 : decode cX5_mixedWithKeeper 30 = .ok (.iload_n 3, 1) := by decide +kernel
theorem dX5_mixedWithKeeper_31 : decode cX5_mixedWithKeeper 31 = .ok (.invokevirtual 296, 3) := by decide +kernel
theorem dX5_mixedWithKeeper_34 : decode cX5_mixedWithKeeper 34 = .ok (.invokestatic 254, 3) := by decide +kernel
theorem dX5_mixedWithKeeper_37 : decode cX5_mixedWithKeeper 37 = .ok (.lstore 4, 2) := by decide +kernel
theorem dX5_mixedWithKeeper_39 : decode cX5_mixedWithKeeper 39 = .ok (.iconst 0, 1) := by decide +kernel
theorem dX5_mixedWithKeeper_40 : decode cX5_mixedWithKeeper 40 = .ok (.istore 6, 2) := by decide +kernel
theorem dX5_mixedWithKeeper_42 : decode cX5_mixedWithKeeper 42 = .ok (.iload 6, 2) := by decide +kernel
theorem dX5_mixedWithKeeper_44 : decode cX5_mixedWithKeeper 44 = .ok (.bipush 20, 2) := by decide +kernel
theorem dX5_mixedWithKeeper_46 : decode cX5_mixedWithKeeper 46 = .ok (.if_icmp .ge 23, 3) := by decide +kernel
theorem dX5_mixedWithKeeper_49 : decode cX5_mixedWithKeeper 49 = .ok (.lload 4, 2) := by decide +kernel
theorem dX5_mixedWithKeeper_51 : decode cX5_mixedWithKeeper 51 = .ok (.aload_n 0, 1) := by decide +kernel
theorem dX5_mixedWithKeeper_52 : decode cX5_mixedWithKeeper 52 = .ok (.iload_n 3, 1) := by decide +kernel
theorem dX5_mixedWithKeeper_53 : decode cX5_mixedWithKeeper 53 = .ok (.iload 6, 2) := by decide +kernel
theorem dX5_mixedWithKeeper_55 : decode cX5_mixedWithKeeper 55 = .ok (.invokevirtual 299, 3) := by decide +kernel
theorem dX5_mixedWithKeeper_58 : decode cX5_mixedWithKeeper 58 = .ok (.invokestatic 254, 3) := by decide +kernel
theorem dX5_mixedWithKeeper_61 : decode cX5_mixedWithKeeper 61 = .ok (.lstore 4, 2) := by decide +kernel
theorem dX5_mixedWithKeeper_63 : decode cX5_mixedWithKeeper 63 = .ok (.iinc 6 1, 3) := by decide +kernel
theorem dX5_mixedWithKeeper_66 : decode cX5_mixedWithKeeper 66 = .ok (.goto (-24), 3) := by decide +kernel
theorem dX5_mixedWithKeeper_69 : decode cX5_mixedWithKeeper 69 = .ok (.lload 4, 2) := by decide +kernel
theorem dX5_mixedWithKeeper_71 : decode cX5_mixedWithKeeper 71 = .ok (.lreturn, 1) := by decide +kernel
theorem dX5_tableOf_0 : decode cX5_tableOf 0 = .ok (.iload_n 1, 1) := by decide +kernel
theorem dX5_tableOf_1 : decode cX5_tableOf 1 = .ok (.ifCond .lt 8, 3) := by decide +kernel
theorem dX5_tableOf_4 : decode cX5_tableOf 4 = .ok (.iload_n 1, 1) := by decide +kernel
theorem dX5_tableOf_5 : decode cX5_tableOf 5 = .ok (.iconst 4, 1) := by decide +kernel
theorem dX5_tableOf_6 : decode cX5_tableOf 6 = .ok (.if_icmp .lt 14, 3) := by decide +kernel
theorem dX5_tableOf_9 : decode cX5_tableOf 9 = .ok (.new 302, 3) := by decide +kernel
theorem dX5_tableOf_12 : decode cX5_tableOf 12 = .ok (.dup, 1) := by decide +kernel
theorem dX5_tableOf_13 : decode cX5_tableOf 13 = .ok (.ldc_w 304, 3) := by decide +kernel
theorem dX5_tableOf_16 : decode cX5_tableOf 16 = .ok (.invokespecial 306, 3) := by decide +kernel
theorem dX5_tableOf_19 : decode cX5_tableOf 19 = .ok (.athrow, 1) := by decide +kernel
