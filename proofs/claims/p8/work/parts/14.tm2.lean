def tx_X8_addAskings : ev_X := fun _ _ => some none
noncomputable def tb_X8_addAskings_c0 (X : ev_E) : List (Nat × (ev_S → ev_N)) := [(0, i_ll 1 1), (1, i_ls 3 2), (2, i_psh (.int (0)) 3), (3, i_is 5 5), (5, i_il 5 7), (7, i_al 0 8), (8, i_gf X 13 4 11), (11, i_cV X 24 0 4 1 14), (14, i_icge 73 17), (17, i_ll 3 18), (18, i_psh (.long 31) 21), (21, i_l2 (fun a b => a * b) 22), (22, i_al 0 23), (23, i_gf X 13 4 26), (26, i_il 5 28), (28, i_cV X 129 1 4 2 31), (31, i_cco X 2 34), (34, i_cV X 12 0 2 1 37), (37, i_i2l 38), (38, i_l2 (fun a b => a + b) 39), (39, i_psh (.long 31) 42), (42, i_l2 (fun a b => a * b) 43), (43, i_al 0 44), (44, i_al 0 45), (45, i_gf X 13 4 48), (48, i_il 5 50), (50, i_cV X 129 1 4 2 53), (53, i_cco X 2 56), (56, i_cV X 12 0 2 1 59), (59, i_il 5 61), (61, i_cV X 257 2 13 4 64), (64, i_i2l 65), (65, i_l2 (fun a b => a + b) 66), (66, i_ls 3 67), (67, i_inc 5 (1) 70), (70, i_goto 5), (73, i_al 0 74), (74, i_psh (.int (2)) 75), (75, i_cV X 258 1 13 7 78), (78, i_is 5 80), (80, i_il 5 82), (82, i_ifle 112 85), (85, i_ll 3 86), (86, i_psh (.long 31) 89), (89, i_l2 (fun a b => a * b) 90), (90, i_al 0 91), (91, i_il 5 93), (93, i_al 0 94), (94, i_gf X 13 4 97), (97, i_cV X 24 0 4 1 100), (100, i_cV X 271 2 13 4 103), (103, i_i2l 104), (104, i_l2 (fun a b => a + b) 105), (105, i_ls 3 106), (106, i_inc 5 (-1) 109), (109, i_goto 80), (112, i_psh (.int (1)) 113), (113, i_is 5 115), (115, i_il 5 117), (117, i_psh (.int (6)) 119)]
noncomputable def tb_X8_addAskings_c1 (X : ev_E) : List (Nat × (ev_S → ev_N)) := [(119, i_icgt 198 122), (122, i_ll 3 123), (123, i_psh (.long 31) 126), (126, i_l2 (fun a b => a * b) 127), (127, i_al 0 128), (128, i_il 5 130), (130, i_cV X 283 1 13 4 133), (133, i_i2l 134), (134, i_l2 (fun a b => a + b) 135), (135, i_psh (.long 31) 138), (138, i_l2 (fun a b => a * b) 139), (139, i_al 0 140), (140, i_il 5 142), (142, i_cV X 232 1 13 8 145), (145, i_i2l 146), (146, i_l2 (fun a b => a + b) 147), (147, i_psh (.long 31) 150), (150, i_l2 (fun a b => a * b) 151), (151, i_al 0 152), (152, i_il 5 154), (154, i_cV X 282 1 13 3 157), (157, i_i2l 158), (158, i_l2 (fun a b => a + b) 159), (159, i_ls 3 160), (160, i_psh (.int (0)) 161), (161, i_is 6 163), (163, i_il 6 165), (165, i_psh (.int (20)) 167), (167, i_icge 192 170), (170, i_ll 3 171), (171, i_psh (.long 31) 174), (174, i_l2 (fun a b => a * b) 175), (175, i_al 0 176), (176, i_il 5 178), (178, i_il 6 180), (180, i_cV X 284 2 13 4 183), (183, i_i2l 184), (184, i_l2 (fun a b => a + b) 185), (185, i_ls 3 186), (186, i_inc 6 (1) 189), (189, i_goto 163), (192, i_inc 5 (1) 195), (195, i_goto 115), (198, i_ll 3 199), (199, i_lr)]
noncomputable def tb_X8_addAskings (X : ev_E) : List (Nat × (ev_S → ev_N)) := tb_X8_addAskings_c0 X ++ (tb_X8_addAskings_c1 X)
theorem s_X8_addAskings_0 {X : ev_E} {l : Launch} (hG : ev_Good X) (hl : l.stackTraces = false) : ev_Snd X l ev_ms x_X8_addAskings tx_X8_addAskings 0 (i_ll 1 1) := s_lload_n dX8_addAskings_0 rfl
theorem s_X8_addAskings_1 {X : ev_E} {l : Launch} (hG : ev_Good X) (hl : l.stackTraces = false) : ev_Snd X l ev_ms x_X8_addAskings tx_X8_addAskings 1 (i_ls 3 2) := s_lstore_n dX8_addAskings_1 rfl (Nat.le_of_ble_eq_true rfl)
theorem s_X8_addAskings_2 {X : ev_E} {l : Launch} (hG : ev_Good X) (hl : l.stackTraces = false) : ev_Snd X l ev_ms x_X8_addAskings tx_X8_addAskings 2 (i_psh (.int (0)) 3) := s_iconst dX8_addAskings_2 rfl
theorem s_X8_addAskings_3 {X : ev_E} {l : Launch} (hG : ev_Good X) (hl : l.stackTraces = false) : ev_Snd X l ev_ms x_X8_addAskings tx_X8_addAskings 3 (i_is 5 5) := s_istore dX8_addAskings_3 (Nat.le_of_ble_eq_true rfl)
theorem s_X8_addAskings_5 {X : ev_E} {l : Launch} (hG : ev_Good X) (hl : l.stackTraces = false) : ev_Snd X l ev_ms x_X8_addAskings tx_X8_addAskings 5 (i_il 5 7) := s_iload dX8_addAskings_5
theorem s_X8_addAskings_7 {X : ev_E} {l : Launch} (hG : ev_Good X) (hl : l.stackTraces = false) : ev_Snd X l ev_ms x_X8_addAskings tx_X8_addAskings 7 (i_al 0 8) := s_aload_n dX8_addAskings_7 rfl
theorem s_X8_addAskings_8 {X : ev_E} {l : Launch} (hG : ev_Good X) (hl : l.stackTraces = false) : ev_Snd X l ev_ms x_X8_addAskings tx_X8_addAskings 8 (i_gf X 13 4 11) := s_getfield hG (ci := 13) (r := (RX8, TX8, 5)) rfl cw_13 (k := 4) (Nat.le_of_ble_eq_true rfl) w_1264 rfl (Or.inl rfl) dX8_addAskings_8
theorem s_X8_addAskings_11 {X : ev_E} {l : Launch} (hG : ev_Good X) (hl : l.stackTraces = false) : ev_Snd X l ev_ms x_X8_addAskings tx_X8_addAskings 11 (i_cV X 24 0 4 1 14) := s_invokevirtual hG (mi := 24) (n := 0) (ci := 4) (r := (RJx4a65c, TJx4a65c, 3)) rfl (cal_Jx4a65c_size_8abf5 (Nat.le_of_ble_eq_true rfl)) w_1294 w_1295 w_1296 dX8_addAskings_11
theorem s_X8_addAskings_14 {X : ev_E} {l : Launch} (hG : ev_Good X) (hl : l.stackTraces = false) : ev_Snd X l ev_ms x_X8_addAskings tx_X8_addAskings 14 (i_icge 73 17) := s_icge dX8_addAskings_14 rfl
theorem s_X8_addAskings_17 {X : ev_E} {l : Launch} (hG : ev_Good X) (hl : l.stackTraces = false) : ev_Snd X l ev_ms x_X8_addAskings tx_X8_addAskings 17 (i_ll 3 18) := s_lload_n dX8_addAskings_17 rfl
theorem s_X8_addAskings_18 {X : ev_E} {l : Launch} (hG : ev_Good X) (hl : l.stackTraces = false) : ev_Snd X l ev_ms x_X8_addAskings tx_X8_addAskings 18 (i_psh (.long 31) 21) := s_ldc2 hG w_1746 rfl dX8_addAskings_18
theorem s_X8_addAskings_21 {X : ev_E} {l : Launch} (hG : ev_Good X) (hl : l.stackTraces = false) : ev_Snd X l ev_ms x_X8_addAskings tx_X8_addAskings 21 (i_l2 (fun a b => a * b) 22) := s_lmul dX8_addAskings_21
theorem s_X8_addAskings_22 {X : ev_E} {l : Launch} (hG : ev_Good X) (hl : l.stackTraces = false) : ev_Snd X l ev_ms x_X8_addAskings tx_X8_addAskings 22 (i_al 0 23) := s_aload_n dX8_addAskings_22 rfl
theorem s_X8_addAskings_23 {X : ev_E} {l : Launch} (hG : ev_Good X) (hl : l.stackTraces = false) : ev_Snd X l ev_ms x_X8_addAskings tx_X8_addAskings 23 (i_gf X 13 4 26) := s_getfield hG (ci := 13) (r := (RX8, TX8, 5)) rfl cw_13 (k := 4) (Nat.le_of_ble_eq_true rfl) w_1264 rfl (Or.inl rfl) dX8_addAskings_23
theorem s_X8_addAskings_26 {X : ev_E} {l : Launch} (hG : ev_Good X) (hl : l.stackTraces = false) : ev_Snd X l ev_ms x_X8_addAskings tx_X8_addAskings 26 (i_il 5 28) := s_iload dX8_addAskings_26
theorem s_X8_addAskings_28 {X : ev_E} {l : Launch} (hG : ev_Good X) (hl : l.stackTraces = false) : ev_Snd X l ev_ms x_X8_addAskings tx_X8_addAskings 28 (i_cV X 129 1 4 2 31) := s_invokevirtual hG (mi := 129) (n := 1) (ci := 4) (r := (RJx4a65c, TJx4a65c, 3)) rfl (cal_Jx4a65c_get_915e3 (Nat.le_of_ble_eq_true rfl)) w_1328 w_1316 w_1317 dX8_addAskings_28
theorem s_X8_addAskings_31 {X : ev_E} {l : Launch} (hG : ev_Good X) (hl : l.stackTraces = false) : ev_Snd X l ev_ms x_X8_addAskings tx_X8_addAskings 31 (i_cco X 2 34) := s_castO hG (ci := 2) (r := (RJ6, TJ6, 1)) rfl w_1595 dX8_addAskings_31
theorem s_X8_addAskings_34 {X : ev_E} {l : Launch} (hG : ev_Good X) (hl : l.stackTraces = false) : ev_Snd X l ev_ms x_X8_addAskings tx_X8_addAskings 34 (i_cV X 12 0 2 1 37) := s_invokevirtual hG (mi := 12) (n := 0) (ci := 2) (r := (RJ6, TJ6, 1)) rfl (cal_J6_intValue_8abf5 (Nat.le_of_ble_eq_true rfl)) w_1596 w_1597 w_1598 dX8_addAskings_34
theorem s_X8_addAskings_37 {X : ev_E} {l : Launch} (hG : ev_Good X) (hl : l.stackTraces = false) : ev_Snd X l ev_ms x_X8_addAskings tx_X8_addAskings 37 (i_i2l 38) := s_i2l dX8_addAskings_37
theorem s_X8_addAskings_38 {X : ev_E} {l : Launch} (hG : ev_Good X) (hl : l.stackTraces = false) : ev_Snd X l ev_ms x_X8_addAskings tx_X8_addAskings 38 (i_l2 (fun a b => a + b) 39) := s_ladd dX8_addAskings_38
theorem s_X8_addAskings_39 {X : ev_E} {l : Launch} (hG : ev_Good X) (hl : l.stackTraces = false) : ev_Snd X l ev_ms x_X8_addAskings tx_X8_addAskings 39 (i_psh (.long 31) 42) := s_ldc2 hG w_1746 rfl dX8_addAskings_39
theorem s_X8_addAskings_42 {X : ev_E} {l : Launch} (hG : ev_Good X) (hl : l.stackTraces = false) : ev_Snd X l ev_ms x_X8_addAskings tx_X8_addAskings 42 (i_l2 (fun a b => a * b) 43) := s_lmul dX8_addAskings_42
theorem s_X8_addAskings_43 {X : ev_E} {l : Launch} (hG : ev_Good X) (hl : l.stackTraces = false) : ev_Snd X l ev_ms x_X8_addAskings tx_X8_addAskings 43 (i_al 0 44) := s_aload_n dX8_addAskings_43 rfl
theorem s_X8_addAskings_44 {X : ev_E} {l : Launch} (hG : ev_Good X) (hl : l.stackTraces = false) : ev_Snd X l ev_ms x_X8_addAskings tx_X8_addAskings 44 (i_al 0 45) := s_aload_n dX8_addAskings_44 rfl
theorem s_X8_addAskings_45 {X : ev_E} {l : Launch} (hG : ev_Good X) (hl : l.stackTraces = false) : ev_Snd X l ev_ms x_X8_addAskings tx_X8_addAskings 45 (i_gf X 13 4 48) := s_getfield hG (ci := 13) (r := (RX8, TX8, 5)) rfl cw_13 (k := 4) (Nat.le_of_ble_eq_true rfl) w_1264 rfl (Or.inl rfl) dX8_addAskings_45
theorem s_X8_addAskings_48 {X : ev_E} {l : Launch} (hG : ev_Good X) (hl : l.stackTraces = false) : ev_Snd X l ev_ms x_X8_addAskings tx_X8_addAskings 48 (i_il 5 50) := s_iload dX8_addAskings_48
theorem s_X8_addAskings_50 {X : ev_E} {l : Launch} (hG : ev_Good X) (hl : l.stackTraces = false) : ev_Snd X l ev_ms x_X8_addAskings tx_X8_addAskings 50 (i_cV X 129 1 4 2 53) := s_invokevirtual hG (mi := 129) (n := 1) (ci := 4) (r := (RJx4a65c, TJx4a65c, 3)) rfl (cal_Jx4a65c_get_915e3 (Nat.le_of_ble_eq_true rfl)) w_1328 w_1316 w_1317 dX8_addAskings_50
theorem s_X8_addAskings_53 {X : ev_E} {l : Launch} (hG : ev_Good X) (hl : l.stackTraces = false) : ev_Snd X l ev_ms x_X8_addAskings tx_X8_addAskings 53 (i_cco X 2 56) := s_castO hG (ci := 2) (r := (RJ6, TJ6, 1)) rfl w_1595 dX8_addAskings_53
theorem s_X8_addAskings_56 {X : ev_E} {l : Launch} (hG : ev_Good X) (hl : l.stackTraces = false) : ev_Snd X l ev_ms x_X8_addAskings tx_X8_addAskings 56 (i_cV X 12 0 2 1 59) := s_invokevirtual hG (mi := 12) (n := 0) (ci := 2) (r := (RJ6, TJ6, 1)) rfl (cal_J6_intValue_8abf5 (Nat.le_of_ble_eq_true rfl)) w_1596 w_1597 w_1598 dX8_addAskings_56
theorem s_X8_addAskings_59 {X : ev_E} {l : Launch} (hG : ev_Good X) (hl : l.stackTraces = false) : ev_Snd X l ev_ms x_X8_addAskings tx_X8_addAskings 59 (i_il 5 61) := s_iload dX8_addAskings_59
theorem s_X8_addAskings_61 {X : ev_E} {l : Launch} (hG : ev_Good X) (hl : l.stackTraces = false) : ev_Snd X l ev_ms x_X8_addAskings tx_X8_addAskings 61 (i_cV X 257 2 13 4 64) := s_invokevirtual hG (mi := 257) (n := 2) (ci := 13) (r := (RX8, TX8, 5)) rfl (cal_X8_depthOf (Nat.le_of_ble_eq_true rfl)) w_1587 w_1589 w_34 dX8_addAskings_61
theorem s_X8_addAskings_64 {X : ev_E} {l : Launch} (hG : ev_Good X) (hl : l.stackTraces = false) : ev_Snd X l ev_ms x_X8_addAskings tx_X8_addAskings 64 (i_i2l 65) := s_i2l dX8_addAskings_64
theorem s_X8_addAskings_65 {X : ev_E} {l : Launch} (hG : ev_Good X) (hl : l.stackTraces = false) : ev_Snd X l ev_ms x_X8_addAskings tx_X8_addAskings 65 (i_l2 (fun a b => a + b) 66) := s_ladd dX8_addAskings_65
theorem s_X8_addAskings_66 {X : ev_E} {l : Launch} (hG : ev_Good X) (hl : l.stackTraces = false) : ev_Snd X l ev_ms x_X8_addAskings tx_X8_addAskings 66 (i_ls 3 67) := s_lstore_n dX8_addAskings_66 rfl (Nat.le_of_ble_eq_true rfl)
theorem s_X8_addAskings_67 {X : ev_E} {l : Launch} (hG : ev_Good X) (hl : l.stackTraces = false) : ev_Snd X l ev_ms x_X8_addAskings tx_X8_addAskings 67 (i_inc 5 (1) 70) := s_iinc dX8_addAskings_67 rfl (Nat.le_of_ble_eq_true rfl)
theorem s_X8_addAskings_70 {X : ev_E} {l : Launch} (hG : ev_Good X) (hl : l.stackTraces = false) : ev_Snd X l ev_ms x_X8_addAskings tx_X8_addAskings 70 (i_goto 5) := s_goto dX8_addAskings_70 rfl
theorem s_X8_addAskings_73 {X : ev_E} {l : Launch} (hG : ev_Good X) (hl : l.stackTraces = false) : ev_Snd X l ev_ms x_X8_addAskings tx_X8_addAskings 73 (i_al 0 74) := s_aload_n dX8_addAskings_73 rfl
theorem s_X8_addAskings_74 {X : ev_E} {l : Launch} (hG : ev_Good X) (hl : l.stackTraces = false) : ev_Snd X l ev_ms x_X8_addAskings tx_X8_addAskings 74 (i_psh (.int (2)) 75) := s_iconst dX8_addAskings_74 rfl
theorem s_X8_addAskings_75 {X : ev_E} {l : Launch} (hG : ev_Good X) (hl : l.stackTraces = false) : ev_Snd X l ev_ms x_X8_addAskings tx_X8_addAskings 75 (i_cV X 258 1 13 7 78) := s_invokevirtual hG (mi := 258) (n := 1) (ci := 13) (r := (RX8, TX8, 5)) rfl (cal_X8_houseNow (Nat.le_of_ble_eq_true rfl)) w_1729 w_1731 w_46 dX8_addAskings_75
theorem s_X8_addAskings_78 {X : ev_E} {l : Launch} (hG : ev_Good X) (hl : l.stackTraces = false) : ev_Snd X l ev_ms x_X8_addAskings tx_X8_addAskings 78 (i_is 5 80) := s_istore dX8_addAskings_78 (Nat.le_of_ble_eq_true rfl)
theorem s_X8_addAskings_80 {X : ev_E} {l : Launch} (hG : ev_Good X) (hl : l.stackTraces = false) : ev_Snd X l ev_ms x_X8_addAskings tx_X8_addAskings 80 (i_il 5 82) := s_iload dX8_addAskings_80
theorem s_X8_addAskings_82 {X : ev_E} {l : Launch} (hG : ev_Good X) (hl : l.stackTraces = false) : ev_Snd X l ev_ms x_X8_addAskings tx_X8_addAskings 82 (i_ifle 112 85) := s_ifle dX8_addAskings_82 rfl
theorem s_X8_addAskings_85 {X : ev_E} {l : Launch} (hG : ev_Good X) (hl : l.stackTraces = false) : ev_Snd X l ev_ms x_X8_addAskings tx_X8_addAskings 85 (i_ll 3 86) := s_lload_n dX8_addAskings_85 rfl
theorem s_X8_addAskings_86 {X : ev_E} {l : Launch} (hG : ev_Good X) (hl : l.stackTraces = false) : ev_Snd X l ev_ms x_X8_addAskings tx_X8_addAskings 86 (i_psh (.long 31) 89) := s_ldc2 hG w_1746 rfl dX8_addAskings_86
theorem s_X8_addAskings_89 {X : ev_E} {l : Launch} (hG : ev_Good X) (hl : l.stackTraces = false) : ev_Snd X l ev_ms x_X8_addAskings tx_X8_addAskings 89 (i_l2 (fun a b => a * b) 90) := s_lmul dX8_addAskings_89
theorem s_X8_addAskings_90 {X : ev_E} {l : Launch} (hG : ev_Good X) (hl : l.stackTraces = false) : ev_Snd X l ev_ms x_X8_addAskings tx_X8_addAskings 90 (i_al 0 91) := s_aload_n dX8_addAskings_90 rfl
theorem s_X8_addAskings_91 {X : ev_E} {l : Launch} (hG : ev_Good X) (hl : l.stackTraces = false) : ev_Snd X l ev_ms x_X8_addAskings tx_X8_addAskings 91 (i_il 5 93) := s_iload dX8_addAskings_91
theorem s_X8_addAskings_93 {X : ev_E} {l : Launch} (hG : ev_Good X) (hl : l.stackTraces = false) : ev_Snd X l ev_ms x_X8_addAskings tx_X8_addAskings 93 (i_al 0 94) := s_aload_n dX8_addAskings_93 rfl
theorem s_X8_addAskings_94 {X : ev_E} {l : Launch} (hG : ev_Good X) (hl : l.stackTraces = false) : ev_Snd X l ev_ms x_X8_addAskings tx_X8_addAskings 94 (i_gf X 13 4 97) := s_getfield hG (ci := 13) (r := (RX8, TX8, 5)) rfl cw_13 (k := 4) (Nat.le_of_ble_eq_true rfl) w_1264 rfl (Or.inl rfl) dX8_addAskings_94
theorem s_X8_addAskings_97 {X : ev_E} {l : Launch} (hG : ev_Good X) (hl : l.stackTraces = false) : ev_Snd X l ev_ms x_X8_addAskings tx_X8_addAskings 97 (i_cV X 24 0 4 1 100) := s_invokevirtual hG (mi := 24) (n := 0) (ci := 4) (r := (RJx4a65c, TJx4a65c, 3)) rfl (cal_Jx4a65c_size_8abf5 (Nat.le_of_ble_eq_true rfl)) w_1294 w_1295 w_1296 dX8_addAskings_97
theorem s_X8_addAskings_100 {X : ev_E} {l : Launch} (hG : ev_Good X) (hl : l.stackTraces = false) : ev_Snd X l ev_ms x_X8_addAskings tx_X8_addAskings 100 (i_cV X 271 2 13 4 103) := s_invokevirtual hG (mi := 271) (n := 2) (ci := 13) (r := (RX8, TX8, 5)) rfl (cal_X8_keyWith (Nat.le_of_ble_eq_true rfl)) w_1660 w_1662 w_39 dX8_addAskings_100
theorem s_X8_addAskings_103 {X : ev_E} {l : Launch} (hG : ev_Good X) (hl : l.stackTraces = false) : ev_Snd X l ev_ms x_X8_addAskings tx_X8_addAskings 103 (i_i2l 104) := s_i2l dX8_addAskings_103
theorem s_X8_addAskings_104 {X : ev_E} {l : Launch} (hG : ev_Good X) (hl : l.stackTraces = false) : ev_Snd X l ev_ms x_X8_addAskings tx_X8_addAskings 104 (i_l2 (fun a b => a + b) 105) := s_ladd dX8_addAskings_104
theorem s_X8_addAskings_105 {X : ev_E} {l : Launch} (hG : ev_Good X) (hl : l.stackTraces = false) : ev_Snd X l ev_ms x_X8_addAskings tx_X8_addAskings 105 (i_ls 3 106) := s_lstore_n dX8_addAskings_105 rfl (Nat.le_of_ble_eq_true rfl)
theorem s_X8_addAskings_106 {X : ev_E} {l : Launch} (hG : ev_Good X) (hl : l.stackTraces = false) : ev_Snd X l ev_ms x_X8_addAskings tx_X8_addAskings 106 (i_inc 5 (-1) 109) := s_iinc dX8_addAskings_106 rfl (Nat.le_of_ble_eq_true rfl)
theorem s_X8_addAskings_109 {X : ev_E} {l : Launch} (hG : ev_Good X) (hl : l.stackTraces = false) : ev_Snd X l ev_ms x_X8_addAskings tx_X8_addAskings 109 (i_goto 80) := s_goto dX8_addAskings_109 rfl
theorem s_X8_addAskings_112 {X : ev_E} {l : Launch} (hG : ev_Good X) (hl : l.stackTraces = false) : ev_Snd X l ev_ms x_X8_addAskings tx_X8_addAskings 112 (i_psh (.int (1)) 113) := s_iconst dX8_addAskings_112 rfl
theorem s_X8_addAskings_113 {X : ev_E} {l : Launch} (hG : ev_Good X) (hl : l.stackTraces = false) : ev_Snd X l ev_ms x_X8_addAskings tx_X8_addAskings 113 (i_is 5 115) := s_istore dX8_addAskings_113 (Nat.le_of_ble_eq_true rfl)
theorem s_X8_addAskings_115 {X : ev_E} {l : Launch} (hG : ev_Good X) (hl : l.stackTraces = false) : ev_Snd X l ev_ms x_X8_addAskings tx_X8_addAskings 115 (i_il 5 117) := s_iload dX8_addAskings_115
theorem s_X8_addAskings_117 {X : ev_E} {l : Launch} (hG : ev_Good X) (hl : l.stackTraces = false) : ev_Snd X l ev_ms x_X8_addAskings tx_X8_addAskings 117 (i_psh (.int (6)) 119) := s_bipush dX8_addAskings_117 rfl
theorem s_X8_addAskings_119 {X : ev_E} {l : Launch} (hG : ev_Good X) (hl : l.stackTraces = false) : ev_Snd X l ev_ms x_X8_addAskings tx_X8_addAskings 119 (i_icgt 198 122) := s_icgt dX8_addAskings_119 rfl
theorem s_X8_addAskings_122 {X : ev_E} {l : Launch} (hG : ev_Good X) (hl : l.stackTraces = false) : ev_Snd X l ev_ms x_X8_addAskings tx_X8_addAskings 122 (i_ll 3 123) := s_lload_n dX8_addAskings_122 rfl
theorem s_X8_addAskings_123 {X : ev_E} {l : Launch} (hG : ev_Good X) (hl : l.stackTraces = false) : ev_Snd X l ev_ms x_X8_addAskings tx_X8_addAskings 123 (i_psh (.long 31) 126) := s_ldc2 hG w_1746 rfl dX8_addAskings_123
theorem s_X8_addAskings_126 {X : ev_E} {l : Launch} (hG : ev_Good X) (hl : l.stackTraces = false) : ev_Snd X l ev_ms x_X8_addAskings tx_X8_addAskings 126 (i_l2 (fun a b => a * b) 127) := s_lmul dX8_addAskings_126
theorem s_X8_addAskings_127 {X : ev_E} {l : Launch} (hG : ev_Good X) (hl : l.stackTraces = false) : ev_Snd X l ev_ms x_X8_addAskings tx_X8_addAskings 127 (i_al 0 128) := s_aload_n dX8_addAskings_127 rfl
theorem s_X8_addAskings_128 {X : ev_E} {l : Launch} (hG : ev_Good X) (hl : l.stackTraces = false) : ev_Snd X l ev_ms x_X8_addAskings tx_X8_addAskings 128 (i_il 5 130) := s_iload dX8_addAskings_128
theorem s_X8_addAskings_130 {X : ev_E} {l : Launch} (hG : ev_Good X) (hl : l.stackTraces = false) : ev_Snd X l ev_ms x_X8_addAskings tx_X8_addAskings 130 (i_cV X 283 1 13 4 133) := s_invokevirtual hG (mi := 283) (n := 1) (ci := 13) (r := (RX8, TX8, 5)) rfl (cal_X8_missesNow (Nat.le_of_ble_eq_true rfl)) w_1697 w_1699 w_43 dX8_addAskings_130
theorem s_X8_addAskings_133 {X : ev_E} {l : Launch} (hG : ev_Good X) (hl : l.stackTraces = false) : ev_Snd X l ev_ms x_X8_addAskings tx_X8_addAskings 133 (i_i2l 134) := s_i2l dX8_addAskings_133
theorem s_X8_addAskings_134 {X : ev_E} {l : Launch} (hG : ev_Good X) (hl : l.stackTraces = false) : ev_Snd X l ev_ms x_X8_addAskings tx_X8_addAskings 134 (i_l2 (fun a b => a + b) 135) := s_ladd dX8_addAskings_134
theorem s_X8_addAskings_135 {X : ev_E} {l : Launch} (hG : ev_Good X) (hl : l.stackTraces = false) : ev_Snd X l ev_ms x_X8_addAskings tx_X8_addAskings 135 (i_psh (.long 31) 138) := s_ldc2 hG w_1746 rfl dX8_addAskings_135
theorem s_X8_addAskings_138 {X : ev_E} {l : Launch} (hG : ev_Good X) (hl : l.stackTraces = false) : ev_Snd X l ev_ms x_X8_addAskings tx_X8_addAskings 138 (i_l2 (fun a b => a * b) 139) := s_lmul dX8_addAskings_138
theorem s_X8_addAskings_139 {X : ev_E} {l : Launch} (hG : ev_Good X) (hl : l.stackTraces = false) : ev_Snd X l ev_ms x_X8_addAskings tx_X8_addAskings 139 (i_al 0 140) := s_aload_n dX8_addAskings_139 rfl
theorem s_X8_addAskings_140 {X : ev_E} {l : Launch} (hG : ev_Good X) (hl : l.stackTraces = false) : ev_Snd X l ev_ms x_X8_addAskings tx_X8_addAskings 140 (i_il 5 142) := s_iload dX8_addAskings_140
theorem s_X8_addAskings_142 {X : ev_E} {l : Launch} (hG : ev_Good X) (hl : l.stackTraces = false) : ev_Snd X l ev_ms x_X8_addAskings tx_X8_addAskings 142 (i_cV X 232 1 13 8 145) := s_invokevirtual hG (mi := 232) (n := 1) (ci := 13) (r := (RX8, TX8, 5)) rfl (cal_X8_bestNow (Nat.le_of_ble_eq_true rfl)) w_1721 w_1723 w_45 dX8_addAskings_142
theorem s_X8_addAskings_145 {X : ev_E} {l : Launch} (hG : ev_Good X) (hl : l.stackTraces = false) : ev_Snd X l ev_ms x_X8_addAskings tx_X8_addAskings 145 (i_i2l 146) := s_i2l dX8_addAskings_145
theorem s_X8_addAskings_146 {X : ev_E} {l : Launch} (hG : ev_Good X) (hl : l.stackTraces = false) : ev_Snd X l ev_ms x_X8_addAskings tx_X8_addAskings 146 (i_l2 (fun a b => a + b) 147) := s_ladd dX8_addAskings_146
theorem s_X8_addAskings_147 {X : ev_E} {l : Launch} (hG : ev_Good X) (hl : l.stackTraces = false) : ev_Snd X l ev_ms x_X8_addAskings tx_X8_addAskings 147 (i_psh (.long 31) 150) := s_ldc2 hG w_1746 rfl dX8_addAskings_147
theorem s_X8_addAskings_150 {X : ev_E} {l : Launch} (hG : ev_Good X) (hl : l.stackTraces = false) : ev_Snd X l ev_ms x_X8_addAskings tx_X8_addAskings 150 (i_l2 (fun a b => a * b) 151) := s_lmul dX8_addAskings_150
theorem s_X8_addAskings_151 {X : ev_E} {l : Launch} (hG : ev_Good X) (hl : l.stackTraces = false) : ev_Snd X l ev_ms x_X8_addAskings tx_X8_addAskings 151 (i_al 0 152) := s_aload_n dX8_addAskings_151 rfl
theorem s_X8_addAskings_152 {X : ev_E} {l : Launch} (hG : ev_Good X) (hl : l.stackTraces = false) : ev_Snd X l ev_ms x_X8_addAskings tx_X8_addAskings 152 (i_il 5 154) := s_iload dX8_addAskings_152
theorem s_X8_addAskings_154 {X : ev_E} {l : Launch} (hG : ev_Good X) (hl : l.stackTraces = false) : ev_Snd X l ev_ms x_X8_addAskings tx_X8_addAskings 154 (i_cV X 282 1 13 3 157) := s_invokevirtual hG (mi := 282) (n := 1) (ci := 13) (r := (RX8, TX8, 5)) rfl (cal_X8_lostNow (Nat.le_of_ble_eq_true rfl)) w_1709 w_1711 w_44 dX8_addAskings_154
theorem s_X8_addAskings_157 {X : ev_E} {l : Launch} (hG : ev_Good X) (hl : l.stackTraces = false) : ev_Snd X l ev_ms x_X8_addAskings tx_X8_addAskings 157 (i_i2l 158) := s_i2l dX8_addAskings_157
theorem s_X8_addAskings_158 {X : ev_E} {l : Launch} (hG : ev_Good X) (hl : l.stackTraces = false) : ev_Snd X l ev_ms x_X8_addAskings tx_X8_addAskings 158 (i_l2 (fun a b => a + b) 159) := s_ladd dX8_addAskings_158
theorem s_X8_addAskings_159 {X : ev_E} {l : Launch} (hG : ev_Good X) (hl : l.stackTraces = false) : ev_Snd X l ev_ms x_X8_addAskings tx_X8_addAskings 159 (i_ls 3 160) := s_lstore_n dX8_addAskings_159 rfl (Nat.le_of_ble_eq_true rfl)
theorem s_X8_addAskings_160 {X : ev_E} {l : Launch} (hG : ev_Good X) (hl : l.stackTraces = false) : ev_Snd X l ev_ms x_X8_addAskings tx_X8_addAskings 160 (i_psh (.int (0)) 161) := s_iconst dX8_addAskings_160 rfl
theorem s_X8_addAskings_161 {X : ev_E} {l : Launch} (hG : ev_Good X) (hl : l.stackTraces = false) : ev_Snd X l ev_ms x_X8_addAskings tx_X8_addAskings 161 (i_is 6 163) := s_istore dX8_addAskings_161 (Nat.le_of_ble_eq_true rfl)
theorem s_X8_addAskings_163 {X : ev_E} {l : Launch} (hG : ev_Good X) (hl : l.stackTraces = false) : ev_Snd X l ev_ms x_X8_addAskings tx_X8_addAskings 163 (i_il 6 165) := s_iload dX8_addAskings_163
theorem s_X8_addAskings_165 {X : ev_E} {l : Launch} (hG : ev_Good X) (hl : l.stackTraces = false) : ev_Snd X l ev_ms x_X8_addAskings tx_X8_addAskings 165 (i_psh (.int (20)) 167) := s_bipush dX8_addAskings_165 rfl
theorem s_X8_addAskings_167 {X : ev_E} {l : Launch} (hG : ev_Good X) (hl : l.stackTraces = false) : ev_Snd X l ev_ms x_X8_addAskings tx_X8_addAskings 167 (i_icge 192 170) := s_icge dX8_addAskings_167 rfl
theorem s_X8_addAskings_170 {X : ev_E} {l : Launch} (hG : ev_Good X) (hl : l.stackTraces = false) : ev_Snd X l ev_ms x_X8_addAskings tx_X8_addAskings 170 (i_ll 3 171) := s_lload_n dX8_addAskings_170 rfl
theorem s_X8_addAskings_171 {X : ev_E} {l : Launch} (hG : ev_Good X) (hl : l.stackTraces = false) : ev_Snd X l ev_ms x_X8_addAskings tx_X8_addAskings 171 (i_psh (.long 31) 174) := s_ldc2 hG w_1746 rfl dX8_addAskings_171
theorem s_X8_addAskings_174 {X : ev_E} {l : Launch} (hG : ev_Good X) (hl : l.stackTraces = false) : ev_Snd X l ev_ms x_X8_addAskings tx_X8_addAskings 174 (i_l2 (fun a b => a * b) 175) := s_lmul dX8_addAskings_174
theorem s_X8_addAskings_175 {X : ev_E} {l : Launch} (hG : ev_Good X) (hl : l.stackTraces = false) : ev_Snd X l ev_ms x_X8_addAskings tx_X8_addAskings 175 (i_al 0 176) := s_aload_n dX8_addAskings_175 rfl
theorem s_X8_addAskings_176 {X : ev_E} {l : Launch} (hG : ev_Good X) (hl : l.stackTraces = false) : ev_Snd X l ev_ms x_X8_addAskings tx_X8_addAskings 176 (i_il 5 178) := s_iload dX8_addAskings_176
theorem s_X8_addAskings_178 {X : ev_E} {l : Launch} (hG : ev_Good X) (hl : l.stackTraces = false) : ev_Snd X l ev_ms x_X8_addAskings tx_X8_addAskings 178 (i_il 6 180) := s_iload dX8_addAskings_178
theorem s_X8_addAskings_180 {X : ev_E} {l : Launch} (hG : ev_Good X) (hl : l.stackTraces = false) : ev_Snd X l ev_ms x_X8_addAskings tx_X8_addAskings 180 (i_cV X 284 2 13 4 183) := s_invokevirtual hG (mi := 284) (n := 2) (ci := 13) (r := (RX8, TX8, 5)) rfl (cal_X8_takenNow (Nat.le_of_ble_eq_true rfl)) w_1685 w_1687 w_41 dX8_addAskings_180
theorem s_X8_addAskings_183 {X : ev_E} {l : Launch} (hG : ev_Good X) (hl : l.stackTraces = false) : ev_Snd X l ev_ms x_X8_addAskings tx_X8_addAskings 183 (i_i2l 184) := s_i2l dX8_addAskings_183
theorem s_X8_addAskings_184 {X : ev_E} {l : Launch} (hG : ev_Good X) (hl : l.stackTraces = false) : ev_Snd X l ev_ms x_X8_addAskings tx_X8_addAskings 184 (i_l2 (fun a b => a + b) 185) := s_ladd dX8_addAskings_184
theorem s_X8_addAskings_185 {X : ev_E} {l : Launch} (hG : ev_Good X) (hl : l.stackTraces = false) : ev_Snd X l ev_ms x_X8_addAskings tx_X8_addAskings 185 (i_ls 3 186) := s_lstore_n dX8_addAskings_185 rfl (Nat.le_of_ble_eq_true rfl)
theorem s_X8_addAskings_186 {X : ev_E} {l : Launch} (hG : ev_Good X) (hl : l.stackTraces = false) : ev_Snd X l ev_ms x_X8_addAskings tx_X8_addAskings 186 (i_inc 6 (1) 189) := s_iinc dX8_addAskings_186 rfl (Nat.le_of_ble_eq_true rfl)
theorem s_X8_addAskings_189 {X : ev_E} {l : Launch} (hG : ev_Good X) (hl : l.stackTraces = false) : ev_Snd X l ev_ms x_X8_addAskings tx_X8_addAskings 189 (i_goto 163) := s_goto dX8_addAskings_189 rfl
theorem s_X8_addAskings_192 {X : ev_E} {l : Launch} (hG : ev_Good X) (hl : l.stackTraces = false) : ev_Snd X l ev_ms x_X8_addAskings tx_X8_addAskings 192 (i_inc 5 (1) 195) := s_iinc dX8_addAskings_192 rfl (Nat.le_of_ble_eq_true rfl)
theorem s_X8_addAskings_195 {X : ev_E} {l : Launch} (hG : ev_Good X) (hl : l.stackTraces = false) : ev_Snd X l ev_ms x_X8_addAskings tx_X8_addAskings 195 (i_goto 115) := s_goto dX8_addAskings_195 rfl
theorem s_X8_addAskings_198 {X : ev_E} {l : Launch} (hG : ev_Good X) (hl : l.stackTraces = false) : ev_Snd X l ev_ms x_X8_addAskings tx_X8_addAskings 198 (i_ll 3 199) := s_lload_n dX8_addAskings_198 rfl
theorem s_X8_addAskings_199 {X : ev_E} {l : Launch} (hG : ev_Good X) (hl : l.stackTraces = false) : ev_Snd X l ev_ms x_X8_addAskings tx_X8_addAskings 199 (i_lr) := s_lreturn rfl dX8_addAskings_199
theorem sa_X8_addAskings_c0 {X : ev_E} {l : Launch} (hG : ev_Good X) (hl : l.stackTraces = false) : ∀ q ∈ tb_X8_addAskings_c0 X, ev_Snd X l ev_ms x_X8_addAskings tx_X8_addAskings q.1 q.2 := by
  intro q hq
  unfold tb_X8_addAskings_c0 at hq
  simp only [List.mem_cons, List.not_mem_nil, or_false] at hq
  rcases hq with rfl | rfl | rfl | rfl | rfl | rfl | rfl | rfl | rfl | rfl | rfl | rfl | rfl | rfl | rfl | rfl | rfl | rfl | rfl | rfl | rfl | rfl | rfl | rfl | rfl | rfl | rfl | rfl | rfl | rfl | rfl | rfl | rfl | rfl | rfl | rfl | rfl | rfl | rfl | rfl | rfl | rfl | rfl | rfl | rfl | rfl | rfl | rfl | rfl | rfl | rfl | rfl | rfl | rfl | rfl | rfl | rfl | rfl | rfl | rfl
  · exact s_X8_addAskings_0 hG hl
  · exact s_X8_addAskings_1 hG hl
  · exact s_X8_addAskings_2 hG hl
  · exact s_X8_addAskings_3 hG hl
  · exact s_X8_addAskings_5 hG hl
  · exact s_X8_addAskings_7 hG hl
  · exact s_X8_addAskings_8 hG hl
  · exact s_X8_addAskings_11 hG hl
  · exact s_X8_addAskings_14 hG hl
  · exact s_X8_addAskings_17 hG hl
  · exact s_X8_addAskings_18 hG hl
  · exact s_X8_addAskings_21 hG hl
  · exact s_X8_addAskings_22 hG hl
  · exact s_X8_addAskings_23 hG hl
  · exact s_X8_addAskings_26 hG hl
  · exact s_X8_addAskings_28 hG hl
  · exact s_X8_addAskings_31 hG hl
  · exact s_X8_addAskings_34 hG hl
  · exact s_X8_addAskings_37 hG hl
  · exact s_X8_addAskings_38 hG hl
  · exact s_X8_addAskings_39 hG hl
  · exact s_X8_addAskings_42 hG hl
  · exact s_X8_addAskings_43 hG hl
  · exact s_X8_addAskings_44 hG hl
  · exact s_X8_addAskings_45 hG hl
  · exact s_X8_addAskings_48 hG hl
  · exact s_X8_addAskings_50 hG hl
  · exact s_X8_addAskings_53 hG hl
  · exact s_X8_addAskings_56 hG hl
  · exact s_X8_addAskings_59 hG hl
  · exact s_X8_addAskings_61 hG hl
  · exact s_X8_addAskings_64 hG hl
  · exact s_X8_addAskings_65 hG hl
  · exact s_X8_addAskings_66 hG hl
  · exact s_X8_addAskings_67 hG hl
  · exact s_X8_addAskings_70 hG hl
  · exact s_X8_addAskings_73 hG hl
  · exact s_X8_addAskings_74 hG hl
  · exact s_X8_addAskings_75 hG hl
  · exact s_X8_addAskings_78 hG hl
  · exact s_X8_addAskings_80 hG hl
  · exact s_X8_addAskings_82 hG hl
  · exact s_X8_addAskings_85 hG hl
  · exact s_X8_addAskings_86 hG hl
  · exact s_X8_addAskings_89 hG hl
  · exact s_X8_addAskings_90 hG hl
  · exact s_X8_addAskings_91 hG hl
  · exact s_X8_addAskings_93 hG hl
  · exact s_X8_addAskings_94 hG hl
  · exact s_X8_addAskings_97 hG hl
  · exact s_X8_addAskings_100 hG hl
  · exact s_X8_addAskings_103 hG hl
  · exact s_X8_addAskings_104 hG hl
  · exact s_X8_addAskings_105 hG hl
  · exact s_X8_addAskings_106 hG hl
  · exact s_X8_addAskings_109 hG hl
  · exact s_X8_addAskings_112 hG hl
  · exact s_X8_addAskings_113 hG hl
  · exact s_X8_addAskings_115 hG hl
  · exact s_X8_addAskings_117 hG hl
theorem sa_X8_addAskings_c1 {X : ev_E} {l : Launch} (hG : ev_Good X) (hl : l.stackTraces = false) : ∀ q ∈ tb_X8_addAskings_c1 X, ev_Snd X l ev_ms x_X8_addAskings tx_X8_addAskings q.1 q.2 := by
  intro q hq
  unfold tb_X8_addAskings_c1 at hq
  simp only [List.mem_cons, List.not_mem_nil, or_false] at hq
  rcases hq with rfl | rfl | rfl | rfl | rfl | rfl | rfl | rfl | rfl | rfl | rfl | rfl | rfl | rfl | rfl | rfl | rfl | rfl | rfl | rfl | rfl | rfl | rfl | rfl | rfl | rfl | rfl | rfl | rfl | rfl | rfl | rfl | rfl | rfl | rfl | rfl | rfl | rfl | rfl | rfl | rfl | rfl | rfl | rfl | rfl
  · exact s_X8_addAskings_119 hG hl
  · exact s_X8_addAskings_122 hG hl
  · exact s_X8_addAskings_123 hG hl
  · exact s_X8_addAskings_126 hG hl
  · exact s_X8_addAskings_127 hG hl
  · exact s_X8_addAskings_128 hG hl
  · exact s_X8_addAskings_130 hG hl
  · exact s_X8_addAskings_133 hG hl
  · exact s_X8_addAskings_134 hG hl
  · exact s_X8_addAskings_135 hG hl
  · exact s_X8_addAskings_138 hG hl
  · exact s_X8_addAskings_139 hG hl
  · exact s_X8_addAskings_140 hG hl
  · exact s_X8_addAskings_142 hG hl
  · exact s_X8_addAskings_145 hG hl
  · exact s_X8_addAskings_146 hG hl
  · exact s_X8_addAskings_147 hG hl
  · exact s_X8_addAskings_150 hG hl
  · exact s_X8_addAskings_151 hG hl
  · exact s_X8_addAskings_152 hG hl
  · exact s_X8_addAskings_154 hG hl
  · exact s_X8_addAskings_157 hG hl
  · exact s_X8_addAskings_158 hG hl
  · exact s_X8_addAskings_159 hG hl
  · exact s_X8_addAskings_160 hG hl
  · exact s_X8_addAskings_161 hG hl
  · exact s_X8_addAskings_163 hG hl
  · exact s_X8_addAskings_165 hG hl
  · exact s_X8_addAskings_167 hG hl
  · exact s_X8_addAskings_170 hG hl
  · exact s_X8_addAskings_171 hG hl
  · exact s_X8_addAskings_174 hG hl
  · exact s_X8_addAskings_175 hG hl
  · exact s_X8_addAskings_176 hG hl
  · exact s_X8_addAskings_178 hG hl
  · exact s_X8_addAskings_180 hG hl
  · exact s_X8_addAskings_183 hG hl
  · exact s_X8_addAskings_184 hG hl
  · exact s_X8_addAskings_185 hG hl
  · exact s_X8_addAskings_186 hG hl
  · exact s_X8_addAskings_189 hG hl
  · exact s_X8_addAskings_192 hG hl
  · exact s_X8_addAskings_195 hG hl
  · exact s_X8_addAskings_198 hG hl
  · exact s_X8_addAskings_199 hG hl
theorem sa_X8_addAskings {X : ev_E} {l : Launch} (hG : ev_Good X) (hl : l.stackTraces = false) : ∀ q ∈ tb_X8_addAskings X, ev_Snd X l ev_ms x_X8_addAskings tx_X8_addAskings q.1 q.2 := List.forall_mem_append.mpr ⟨sa_X8_addAskings_c0 hG hl, sa_X8_addAskings_c1 hG hl⟩
def tx_X8_ask : ev_X := fun _ _ => some none
noncomputable def tb_X8_ask (X : ev_E) : List (Nat × (ev_S → ev_N)) := [(0, i_al 0 1), (1, i_il 1 2), (2, i_psh (.int (20)) 4), (4, i_cS 65 2 2 7), (7, i_al 0 8), (8, i_gf X 13 4 11), (11, i_cV X 24 0 4 1 14), (14, i_psh (.int (60)) 16), (16, i_icne 23 19), (19, i_psh (.int (1)) 20), (20, i_goto 24), (23, i_psh (.int (0)) 24), (24, i_psh (.int (0)) 25), (25, i_cV X 63 3 13 4 28), (28, i_ifeq 35 31), (31, i_psh (.int (0)) 32), (32, i_goto 40), (35, i_al 0 36), (36, i_il 1 37), (37, i_cV X 279 1 13 3 40), (40, i_ir (.int))]
theorem s_X8_ask_0 {X : ev_E} {l : Launch} (hG : ev_Good X) (hl : l.stackTraces = false) : ev_Snd X l ev_ms x_X8_ask tx_X8_ask 0 (i_al 0 1) := s_aload_n dX8_ask_0 rfl
theorem s_X8_ask_1 {X : ev_E} {l : Launch} (hG : ev_Good X) (hl : l.stackTraces = false) : ev_Snd X l ev_ms x_X8_ask tx_X8_ask 1 (i_il 1 2) := s_iload_n dX8_ask_1 rfl
theorem s_X8_ask_2 {X : ev_E} {l : Launch} (hG : ev_Good X) (hl : l.stackTraces = false) : ev_Snd X l ev_ms x_X8_ask tx_X8_ask 2 (i_psh (.int (20)) 4) := s_bipush dX8_ask_2 rfl
theorem s_X8_ask_4 {X : ev_E} {l : Launch} (hG : ev_Good X) (hl : l.stackTraces = false) : ev_Snd X l ev_ms x_X8_ask tx_X8_ask 4 (i_cS 65 2 2 7) := s_invokestatic hG (mi := 65) (n := 2) (cal_X8_isOut (Nat.le_of_ble_eq_true rfl)) w_1287 w_1288 dX8_ask_4
theorem s_X8_ask_7 {X : ev_E} {l : Launch} (hG : ev_Good X) (hl : l.stackTraces = false) : ev_Snd X l ev_ms x_X8_ask tx_X8_ask 7 (i_al 0 8) := s_aload_n dX8_ask_7 rfl
theorem s_X8_ask_8 {X : ev_E} {l : Launch} (hG : ev_Good X) (hl : l.stackTraces = false) : ev_Snd X l ev_ms x_X8_ask tx_X8_ask 8 (i_gf X 13 4 11) := s_getfield hG (ci := 13) (r := (RX8, TX8, 5)) rfl cw_13 (k := 4) (Nat.le_of_ble_eq_true rfl) w_1264 rfl (Or.inl rfl) dX8_ask_8
theorem s_X8_ask_11 {X : ev_E} {l : Launch} (hG : ev_Good X) (hl : l.stackTraces = false) : ev_Snd X l ev_ms x_X8_ask tx_X8_ask 11 (i_cV X 24 0 4 1 14) := s_invokevirtual hG (mi := 24) (n := 0) (ci := 4) (r := (RJx4a65c, TJx4a65c, 3)) rfl (cal_Jx4a65c_size_8abf5 (Nat.le_of_ble_eq_true rfl)) w_1294 w_1295 w_1296 dX8_ask_11
theorem s_X8_ask_14 {X : ev_E} {l : Launch} (hG : ev_Good X) (hl : l.stackTraces = false) : ev_Snd X l ev_ms x_X8_ask tx_X8_ask 14 (i_psh (.int (60)) 16) := s_bipush dX8_ask_14 rfl
theorem s_X8_ask_16 {X : ev_E} {l : Launch} (hG : ev_Good X) (hl : l.stackTraces = false) : ev_Snd X l ev_ms x_X8_ask tx_X8_ask 16 (i_icne 23 19) := s_icne dX8_ask_16 rfl
theorem s_X8_ask_19 {X : ev_E} {l : Launch} (hG : ev_Good X) (hl : l.stackTraces = false) : ev_Snd X l ev_ms x_X8_ask tx_X8_ask 19 (i_psh (.int (1)) 20) := s_iconst dX8_ask_19 rfl
theorem s_X8_ask_20 {X : ev_E} {l : Launch} (hG : ev_Good X) (hl : l.stackTraces = false) : ev_Snd X l ev_ms x_X8_ask tx_X8_ask 20 (i_goto 24) := s_goto dX8_ask_20 rfl
theorem s_X8_ask_23 {X : ev_E} {l : Launch} (hG : ev_Good X) (hl : l.stackTraces = false) : ev_Snd X l ev_ms x_X8_ask tx_X8_ask 23 (i_psh (.int (0)) 24) := s_iconst dX8_ask_23 rfl
theorem s_X8_ask_24 {X : ev_E} {l : Launch} (hG : ev_Good X) (hl : l.stackTraces = false) : ev_Snd X l ev_ms x_X8_ask tx_X8_ask 24 (i_psh (.int (0)) 25) := s_iconst dX8_ask_24 rfl
theorem s_X8_ask_25 {X : ev_E} {l : Launch} (hG : ev_Good X) (hl : l.stackTraces = false) : ev_Snd X l ev_ms x_X8_ask tx_X8_ask 25 (i_cV X 63 3 13 4 28) := s_invokevirtual hG (mi := 63) (n := 3) (ci := 13) (r := (RX8, TX8, 5)) rfl (cal_X8_fails (Nat.le_of_ble_eq_true rfl)) w_1290 w_1292 w_22 dX8_ask_25
theorem s_X8_ask_28 {X : ev_E} {l : Launch} (hG : ev_Good X) (hl : l.stackTraces = false) : ev_Snd X l ev_ms x_X8_ask tx_X8_ask 28 (i_ifeq 35 31) := s_ifeq dX8_ask_28 rfl
theorem s_X8_ask_31 {X : ev_E} {l : Launch} (hG : ev_Good X) (hl : l.stackTraces = false) : ev_Snd X l ev_ms x_X8_ask tx_X8_ask 31 (i_psh (.int (0)) 32) := s_iconst dX8_ask_31 rfl
theorem s_X8_ask_32 {X : ev_E} {l : Launch} (hG : ev_Good X) (hl : l.stackTraces = false) : ev_Snd X l ev_ms x_X8_ask tx_X8_ask 32 (i_goto 40) := s_goto dX8_ask_32 rfl
theorem s_X8_ask_35 {X : ev_E} {l : Launch} (hG : ev_Good X) (hl : l.stackTraces = false) : ev_Snd X l ev_ms x_X8_ask tx_X8_ask 35 (i_al 0 36) := s_aload_n dX8_ask_35 rfl
theorem s_X8_ask_36 {X : ev_E} {l : Launch} (hG : ev_Good X) (hl : l.stackTraces = false) : ev_Snd X l ev_ms x_X8_ask tx_X8_ask 36 (i_il 1 37) := s_iload_n dX8_ask_36 rfl
theorem s_X8_ask_37 {X : ev_E} {l : Launch} (hG : ev_Good X) (hl : l.stackTraces = false) : ev_Snd X l ev_ms x_X8_ask tx_X8_ask 37 (i_cV X 279 1 13 3 40) := s_invokevirtual hG (mi := 279) (n := 1) (ci := 13) (r := (RX8, TX8, 5)) rfl (cal_X8_asks (Nat.le_of_ble_eq_true rfl)) w_1583 w_1585 w_33 dX8_ask_37
theorem s_X8_ask_40 {X : ev_E} {l : Launch} (hG : ev_Good X) (hl : l.stackTraces = false) : ev_Snd X l ev_ms x_X8_ask tx_X8_ask 40 (i_ir (.int)) := s_ireturn rfl dX8_ask_40
theorem sa_X8_ask {X : ev_E} {l : Launch} (hG : ev_Good X) (hl : l.stackTraces = false) : ∀ q ∈ tb_X8_ask X, ev_Snd X l ev_ms x_X8_ask tx_X8_ask q.1 q.2 := by
  intro q hq
  unfold tb_X8_ask at hq
  simp only [List.mem_cons, List.not_mem_nil, or_false] at hq
  rcases hq with rfl | rfl | rfl | rfl | rfl | rfl | rfl | rfl | rfl | rfl | rfl | rfl | rfl | rfl | rfl | rfl | rfl | rfl | rfl | rfl | rfl
  · exact s_X8_ask_0 hG hl
  · exact s_X8_ask_1 hG hl
  · exact s_X8_ask_2 hG hl
  · exact s_X8_ask_4 hG hl
  · exact s_X8_ask_7 hG hl
  · exact s_X8_ask_8 hG hl
  · exact s_X8_ask_11 hG hl
  · exact s_X8_ask_14 hG hl
  · exact s_X8_ask_16 hG hl
  · exact s_X8_ask_19 hG hl
  · exact s_X8_ask_20 hG hl
  · exact s_X8_ask_23 hG hl
  · exact s_X8_ask_24 hG hl
  · exact s_X8_ask_25 hG hl
  · exact s_X8_ask_28 hG hl
  · exact s_X8_ask_31 hG hl
  · exact s_X8_ask_32 hG hl
  · exact s_X8_ask_35 hG hl
  · exact s_X8_ask_36 hG hl
  · exact s_X8_ask_37 hG hl
  · exact s_X8_ask_40 hG hl
def tx_X8_askRow : ev_X := fun _ _ => some none
noncomputable def tb_X8_askRow (X : ev_E) : List (Nat × (ev_S → ev_N)) := [(0, i_al 0 1), (1, i_il 1 2), (2, i_psh (.int (20)) 4), (4, i_cS 65 2 2 7), (7, i_ifne 30 10), (10, i_il 2 11), (11, i_psh (.int (20)) 13), (13, i_cS 65 2 2 16), (16, i_ifne 30 19), (19, i_il 3 20), (20, i_psh (.int (1)) 21), (21, i_ii (fun a b => a - b) 22), (22, i_psh (.int (12)) 24), (24, i_cS 65 2 2 27), (27, i_ifeq 34 30), (30, i_psh (.int (1)) 31), (31, i_goto 35), (34, i_psh (.int (0)) 35), (35, i_al 0 36), (36, i_gf X 13 4 39), (39, i_cV X 24 0 4 1 42), (42, i_il 3 43), (43, i_ii (fun a b => a + b) 44), (44, i_psh (.int (60)) 46), (46, i_icle 53 49), (49, i_psh (.int (1)) 50), (50, i_goto 54), (53, i_psh (.int (0)) 54), (54, i_psh (.int (0)) 55), (55, i_cV X 63 3 13 4 58), (58, i_ifeq 63 61), (61, i_psh (.int (0)) 62), (62, i_ir (.int)), (63, i_psh (.int (0)) 64), (64, i_is 4 66), (66, i_psh (.int (0)) 67), (67, i_is 5 69), (69, i_il 5 71), (71, i_il 3 72), (72, i_icge 99 75), (75, i_il 4 77), (77, i_al 0 78), (78, i_il 1 79), (79, i_il 5 81), (81, i_il 2 82), (82, i_ii (fun a b => a * b) 83), (83, i_ii (fun a b => a + b) 84), (84, i_psh (.int (20)) 86), (86, i_iid (fun a b => a - a / b * b) 87), (87, i_cV X 279 1 13 3 90), (90, i_ii (fun a b => a + b) 91), (91, i_is 4 93), (93, i_inc 5 (1) 96), (96, i_goto 69), (99, i_il 4 101), (101, i_ir (.int))]
theorem s_X8_askRow_0 {X : ev_E} {l : Launch} (hG : ev_Good X) (hl : l.stackTraces = false) : ev_Snd X l ev_ms x_X8_askRow tx_X8_askRow 0 (i_al 0 1) := s_aload_n dX8_askRow_0 rfl
theorem s_X8_askRow_1 {X : ev_E} {l : Launch} (hG : ev_Good X) (hl : l.stackTraces = false) : ev_Snd X l ev_ms x_X8_askRow tx_X8_askRow 1 (i_il 1 2) := s_iload_n dX8_askRow_1 rfl
theorem s_X8_askRow_2 {X : ev_E} {l : Launch} (hG : ev_Good X) (hl : l.stackTraces = false) : ev_Snd X l ev_ms x_X8_askRow tx_X8_askRow 2 (i_psh (.int (20)) 4) := s_bipush dX8_askRow_2 rfl
theorem s_X8_askRow_4 {X : ev_E} {l : Launch} (hG : ev_Good X) (hl : l.stackTraces = false) : ev_Snd X l ev_ms x_X8_askRow tx_X8_askRow 4 (i_cS 65 2 2 7) := s_invokestatic hG (mi := 65) (n := 2) (cal_X8_isOut (Nat.le_of_ble_eq_true rfl)) w_1287 w_1288 dX8_askRow_4
theorem s_X8_askRow_7 {X : ev_E} {l : Launch} (hG : ev_Good X) (hl : l.stackTraces = false) : ev_Snd X l ev_ms x_X8_askRow tx_X8_askRow 7 (i_ifne 30 10) := s_ifne dX8_askRow_7 rfl
theorem s_X8_askRow_10 {X : ev_E} {l : Launch} (hG : ev_Good X) (hl : l.stackTraces = false) : ev_Snd X l ev_ms x_X8_askRow tx_X8_askRow 10 (i_il 2 11) := s_iload_n dX8_askRow_10 rfl
theorem s_X8_askRow_11 {X : ev_E} {l : Launch} (hG : ev_Good X) (hl : l.stackTraces = false) : ev_Snd X l ev_ms x_X8_askRow tx_X8_askRow 11 (i_psh (.int (20)) 13) := s_bipush dX8_askRow_11 rfl
theorem s_X8_askRow_13 {X : ev_E} {l : Launch} (hG : ev_Good X) (hl : l.stackTraces = false) : ev_Snd X l ev_ms x_X8_askRow tx_X8_askRow 13 (i_cS 65 2 2 16) := s_invokestatic hG (mi := 65) (n := 2) (cal_X8_isOut (Nat.le_of_ble_eq_true rfl)) w_1287 w_1288 dX8_askRow_13
theorem s_X8_askRow_16 {X : ev_E} {l : Launch} (hG : ev_Good X) (hl : l.stackTraces = false) : ev_Snd X l ev_ms x_X8_askRow tx_X8_askRow 16 (i_ifne 30 19) := s_ifne dX8_askRow_16 rfl
theorem s_X8_askRow_19 {X : ev_E} {l : Launch} (hG : ev_Good X) (hl : l.stackTraces = false) : ev_Snd X l ev_ms x_X8_askRow tx_X8_askRow 19 (i_il 3 20) := s_iload_n dX8_askRow_19 rfl
theorem s_X8_askRow_20 {X : ev_E} {l : Launch} (hG : ev_Good X) (hl : l.stackTraces = false) : ev_Snd X l ev_ms x_X8_askRow tx_X8_askRow 20 (i_psh (.int (1)) 21) := s_iconst dX8_askRow_20 rfl
theorem s_X8_askRow_21 {X : ev_E} {l : Launch} (hG : ev_Good X) (hl : l.stackTraces = false) : ev_Snd X l ev_ms x_X8_askRow tx_X8_askRow 21 (i_ii (fun a b => a - b) 22) := s_isub dX8_askRow_21
theorem s_X8_askRow_22 {X : ev_E} {l : Launch} (hG : ev_Good X) (hl : l.stackTraces = false) : ev_Snd X l ev_ms x_X8_askRow tx_X8_askRow 22 (i_psh (.int (12)) 24) := s_bipush dX8_askRow_22 rfl
theorem s_X8_askRow_24 {X : ev_E} {l : Launch} (hG : ev_Good X) (hl : l.stackTraces = false) : ev_Snd X l ev_ms x_X8_askRow tx_X8_askRow 24 (i_cS 65 2 2 27) := s_invokestatic hG (mi := 65) (n := 2) (cal_X8_isOut (Nat.le_of_ble_eq_true rfl)) w_1287 w_1288 dX8_askRow_24
theorem s_X8_askRow_27 {X : ev_E} {l : Launch} (hG : ev_Good X) (hl : l.stackTraces = false) : ev_Snd X l ev_ms x_X8_askRow tx_X8_askRow 27 (i_ifeq 34 30) := s_ifeq dX8_askRow_27 rfl
theorem s_X8_askRow_30 {X : ev_E} {l : Launch} (hG : ev_Good X) (hl : l.stackTraces = false) : ev_Snd X l ev_ms x_X8_askRow tx_X8_askRow 30 (i_psh (.int (1)) 31) := s_iconst dX8_askRow_30 rfl
theorem s_X8_askRow_31 {X : ev_E} {l : Launch} (hG : ev_Good X) (hl : l.stackTraces = false) : ev_Snd X l ev_ms x_X8_askRow tx_X8_askRow 31 (i_goto 35) := s_goto dX8_askRow_31 rfl
theorem s_X8_askRow_34 {X : ev_E} {l : Launch} (hG : ev_Good X) (hl : l.stackTraces = false) : ev_Snd X l ev_ms x_X8_askRow tx_X8_askRow 34 (i_psh (.int (0)) 35) := s_iconst dX8_askRow_34 rfl
theorem s_X8_askRow_35 {X : ev_E} {l : Launch} (hG : ev_Good X) (hl : l.stackTraces = false) : ev_Snd X l ev_ms x_X8_askRow tx_X8_askRow 35 (i_al 0 36) := s_aload_n dX8_askRow_35 rfl
theorem s_X8_askRow_36 {X : ev_E} {l : Launch} (hG : ev_Good X) (hl : l.stackTraces = false) : ev_Snd X l ev_ms x_X8_askRow tx_X8_askRow 36 (i_gf X 13 4 39) := s_getfield hG (ci := 13) (r := (RX8, TX8, 5)) rfl cw_13 (k := 4) (Nat.le_of_ble_eq_true rfl) w_1264 rfl (Or.inl rfl) dX8_askRow_36
theorem s_X8_askRow_39 {X : ev_E} {l : Launch} (hG : ev_Good X) (hl : l.stackTraces = false) : ev_Snd X l ev_ms x_X8_askRow tx_X8_askRow 39 (i_cV X 24 0 4 1 42) := s_invokevirtual hG (mi := 24) (n := 0) (ci := 4) (r := (RJx4a65c, TJx4a65c, 3)) rfl (cal_Jx4a65c_size_8abf5 (Nat.le_of_ble_eq_true rfl)) w_1294 w_1295 w_1296 dX8_askRow_39
theorem s_X8_askRow_42 {X : ev_E} {l : Launch} (hG : ev_Good X) (hl : l.stackTraces = false) : ev_Snd X l ev_ms x_X8_askRow tx_X8_askRow 42 (i_il 3 43) := s_iload_n dX8_askRow_42 rfl
theorem s_X8_askRow_43 {X : ev_E} {l : Launch} (hG : ev_Good X) (hl : l.stackTraces = false) : ev_Snd X l ev_ms x_X8_askRow tx_X8_askRow 43 (i_ii (fun a b => a + b) 44) := s_iadd dX8_askRow_43
theorem s_X8_askRow_44 {X : ev_E} {l : Launch} (hG : ev_Good X) (hl : l.stackTraces = false) : ev_Snd X l ev_ms x_X8_askRow tx_X8_askRow 44 (i_psh (.int (60)) 46) := s_bipush dX8_askRow_44 rfl
theorem s_X8_askRow_46 {X : ev_E} {l : Launch} (hG : ev_Good X) (hl : l.stackTraces = false) : ev_Snd X l ev_ms x_X8_askRow tx_X8_askRow 46 (i_icle 53 49) := s_icle dX8_askRow_46 rfl
theorem s_X8_askRow_49 {X : ev_E} {l : Launch} (hG : ev_Good X) (hl : l.stackTraces = false) : ev_Snd X l ev_ms x_X8_askRow tx_X8_askRow 49 (i_psh (.int (1)) 50) := s_iconst dX8_askRow_49 rfl
theorem s_X8_askRow_50 {X : ev_E} {l : Launch} (hG : ev_Good X) (hl : l.stackTraces = false) : ev_Snd X l ev_ms x_X8_askRow tx_X8_askRow 50 (i_goto 54) := s_goto dX8_askRow_50 rfl
theorem s_X8_askRow_53 {X : ev_E} {l : Launch} (hG : ev_Good X) (hl : l.stackTraces = false) : ev_Snd X l ev_ms x_X8_askRow tx_X8_askRow 53 (i_psh (.int (0)) 54) := s_iconst dX8_askRow_53 rfl
theorem s_X8_askRow_54 {X : ev_E} {l : Launch} (hG : ev_Good X) (hl : l.stackTraces = false) : ev_Snd X l ev_ms x_X8_askRow tx_X8_askRow 54 (i_psh (.int (0)) 55) := s_iconst dX8_askRow_54 rfl
theorem s_X8_askRow_55 {X : ev_E} {l : Launch} (hG : ev_Good X) (hl : l.stackTraces = false) : ev_Snd X l ev_ms x_X8_askRow tx_X8_askRow 55 (i_cV X 63 3 13 4 58) := s_invokevirtual hG (mi := 63) (n := 3) (ci := 13) (r := (RX8, TX8, 5)) rfl (cal_X8_fails (Nat.le_of_ble_eq_true rfl)) w_1290 w_1292 w_22 dX8_askRow_55
theorem s_X8_askRow_58 {X : ev_E} {l : Launch} (hG : ev_Good X) (hl : l.stackTraces = false) : ev_Snd X l ev_ms x_X8_askRow tx_X8_askRow 58 (i_ifeq 63 61) := s_ifeq dX8_askRow_58 rfl
theorem s_X8_askRow_61 {X : ev_E} {l : Launch} (hG : ev_Good X) (hl : l.stackTraces = false) : ev_Snd X l ev_ms x_X8_askRow tx_X8_askRow 61 (i_psh (.int (0)) 62) := s_iconst dX8_askRow_61 rfl
theorem s_X8_askRow_62 {X : ev_E} {l : Launch} (hG : ev_Good X) (hl : l.stackTraces = false) : ev_Snd X l ev_ms x_X8_askRow tx_X8_askRow 62 (i_ir (.int)) := s_ireturn rfl dX8_askRow_62
theorem s_X8_askRow_63 {X : ev_E} {l : Launch} (hG : ev_Good X) (hl : l.stackTraces = false) : ev_Snd X l ev_ms x_X8_askRow tx_X8_askRow 63 (i_psh (.int (0)) 64) := s_iconst dX8_askRow_63 rfl
theorem s_X8_askRow_64 {X : ev_E} {l : Launch} (hG : ev_Good X) (hl : l.stackTraces = false) : ev_Snd X l ev_ms x_X8_askRow tx_X8_askRow 64 (i_is 4 66) := s_istore dX8_askRow_64 (Nat.le_of_ble_eq_true rfl)
theorem s_X8_askRow_66 {X : ev_E} {l : Launch} (hG : ev_Good X) (hl : l.stackTraces = false) : ev_Snd X l ev_ms x_X8_askRow tx_X8_askRow 66 (i_psh (.int (0)) 67) := s_iconst dX8_askRow_66 rfl
theorem s_X8_askRow_67 {X : ev_E} {l : Launch} (hG : ev_Good X) (hl : l.stackTraces = false) : ev_Snd X l ev_ms x_X8_askRow tx_X8_askRow 67 (i_is 5 69) := s_istore dX8_askRow_67 (Nat.le_of_ble_eq_true rfl)
theorem s_X8_askRow_69 {X : ev_E} {l : Launch} (hG : ev_Good X) (hl : l.stackTraces = false) : ev_Snd X l ev_ms x_X8_askRow tx_X8_askRow 69 (i_il 5 71) := s_iload dX8_askRow_69
theorem s_X8_askRow_71 {X : ev_E} {l : Launch} (hG : ev_Good X) (hl : l.stackTraces = false) : ev_Snd X l ev_ms x_X8_askRow tx_X8_askRow 71 (i_il 3 72) := s_iload_n dX8_askRow_71 rfl
theorem s_X8_askRow_72 {X : ev_E} {l : Launch} (hG : ev_Good X) (hl : l.stackTraces = false) : ev_Snd X l ev_ms x_X8_askRow tx_X8_askRow 72 (i_icge 99 75) := s_icge dX8_askRow_72 rfl
theorem s_X8_askRow_75 {X : ev_E} {l : Launch} (hG : ev_Good X) (hl : l.stackTraces = false) : ev_Snd X l ev_ms x_X8_askRow tx_X8_askRow 75 (i_il 4 77) := s_iload dX8_askRow_75
theorem s_X8_askRow_77 {X : ev_E} {l : Launch} (hG : ev_Good X) (hl : l.stackTraces = false) : ev_Snd X l ev_ms x_X8_askRow tx_X8_askRow 77 (i_al 0 78) := s_aload_n dX8_askRow_77 rfl
theorem s_X8_askRow_78 {X : ev_E} {l : Launch} (hG : ev_Good X) (hl : l.stackTraces = false) : ev_Snd X l ev_ms x_X8_askRow tx_X8_askRow 78 (i_il 1 79) := s_iload_n dX8_askRow_78 rfl
theorem s_X8_askRow_79 {X : ev_E} {l : Launch} (hG : ev_Good X) (hl : l.stackTraces = false) : ev_Snd X l ev_ms x_X8_askRow tx_X8_askRow 79 (i_il 5 81) := s_iload dX8_askRow_79
theorem s_X8_askRow_81 {X : ev_E} {l : Launch} (hG : ev_Good X) (hl : l.stackTraces = false) : ev_Snd X l ev_ms x_X8_askRow tx_X8_askRow 81 (i_il 2 82) := s_iload_n dX8_askRow_81 rfl
theorem s_X8_askRow_82 {X : ev_E} {l : Launch} (hG : ev_Good X) (hl : l.stackTraces = false) : ev_Snd X l ev_ms x_X8_askRow tx_X8_askRow 82 (i_ii (fun a b => a * b) 83) := s_imul dX8_askRow_82
theorem s_X8_askRow_83 {X : ev_E} {l : Launch} (hG : ev_Good X) (hl : l.stackTraces = false) : ev_Snd X l ev_ms x_X8_askRow tx_X8_askRow 83 (i_ii (fun a b => a + b) 84) := s_iadd dX8_askRow_83
theorem s_X8_askRow_84 {X : ev_E} {l : Launch} (hG : ev_Good X) (hl : l.stackTraces = false) : ev_Snd X l ev_ms x_X8_askRow tx_X8_askRow 84 (i_psh (.int (20)) 86) := s_bipush dX8_askRow_84 rfl
theorem s_X8_askRow_86 {X : ev_E} {l : Launch} (hG : ev_Good X) (hl : l.stackTraces = false) : ev_Snd X l ev_ms x_X8_askRow tx_X8_askRow 86 (i_iid (fun a b => a - a / b * b) 87) := s_irem dX8_askRow_86
theorem s_X8_askRow_87 {X : ev_E} {l : Launch} (hG : ev_Good X) (hl : l.stackTraces = false) : ev_Snd X l ev_ms x_X8_askRow tx_X8_askRow 87 (i_cV X 279 1 13 3 90) := s_invokevirtual hG (mi := 279) (n := 1) (ci := 13) (r := (RX8, TX8, 5)) rfl (cal_X8_asks (Nat.le_of_ble_eq_true rfl)) w_1583 w_1585 w_33 dX8_askRow_87
theorem s_X8_askRow_90 {X : ev_E} {l : Launch} (hG : ev_Good X) (hl : l.stackTraces = false) : ev_Snd X l ev_ms x_X8_askRow tx_X8_askRow 90 (i_ii (fun a b => a + b) 91) := s_iadd dX8_askRow_90
theorem s_X8_askRow_91 {X : ev_E} {l : Launch} (hG : ev_Good X) (hl : l.stackTraces = false) : ev_Snd X l ev_ms x_X8_askRow tx_X8_askRow 91 (i_is 4 93) := s_istore dX8_askRow_91 (Nat.le_of_ble_eq_true rfl)
theorem s_X8_askRow_93 {X : ev_E} {l : Launch} (hG : ev_Good X) (hl : l.stackTraces = false) : ev_Snd X l ev_ms x_X8_askRow tx_X8_askRow 93 (i_inc 5 (1) 96) := s_iinc dX8_askRow_93 rfl (Nat.le_of_ble_eq_true rfl)
theorem s_X8_askRow_96 {X : ev_E} {l : Launch} (hG : ev_Good X) (hl : l.stackTraces = false) : ev_Snd X l ev_ms x_X8_askRow tx_X8_askRow 96 (i_goto 69) := s_goto dX8_askRow_96 rfl
theorem s_X8_askRow_99 {X : ev_E} {l : Launch} (hG : ev_Good X) (hl : l.stackTraces = false) : ev_Snd X l ev_ms x_X8_askRow tx_X8_askRow 99 (i_il 4 101) := s_iload dX8_askRow_99
theorem s_X8_askRow_101 {X : ev_E} {l : Launch} (hG : ev_Good X) (hl : l.stackTraces = false) : ev_Snd X l ev_ms x_X8_askRow tx_X8_askRow 101 (i_ir (.int)) := s_ireturn rfl dX8_askRow_101
theorem sa_X8_askRow {X : ev_E} {l : Launch} (hG : ev_Good X) (hl : l.stackTraces = false) : ∀ q ∈ tb_X8_askRow X, ev_Snd X l ev_ms x_X8_askRow tx_X8_askRow q.1 q.2 := by
  intro q hq
  unfold tb_X8_askRow at hq
  simp only [List.mem_cons, List.not_mem_nil, or_false] at hq
  rcases hq with rfl | rfl | rfl | rfl | rfl | rfl | rfl | rfl | rfl | rfl | rfl | rfl | rfl | rfl | rfl | rfl | rfl | rfl | rfl | rfl | rfl | rfl | rfl | rfl | rfl | rfl | rfl | rfl | rfl | rfl | rfl | rfl | rfl | rfl | rfl | rfl | rfl | rfl | rfl | rfl | rfl | rfl | rfl | rfl | rfl | rfl | rfl | rfl | rfl | rfl | rfl | rfl | rfl | rfl | rfl | rfl
  · exact s_X8_askRow_0 hG hl
  · exact s_X8_askRow_1 hG hl
  · exact s_X8_askRow_2 hG hl
  · exact s_X8_askRow_4 hG hl
  · exact s_X8_askRow_7 hG hl
  · exact s_X8_askRow_10 hG hl
  · exact s_X8_askRow_11 hG hl
  · exact s_X8_askRow_13 hG hl
  · exact s_X8_askRow_16 hG hl
  · exact s_X8_askRow_19 hG hl
  · exact s_X8_askRow_20 hG hl
  · exact s_X8_askRow_21 hG hl
  · exact s_X8_askRow_22 hG hl
  · exact s_X8_askRow_24 hG hl
  · exact s_X8_askRow_27 hG hl
  · exact s_X8_askRow_30 hG hl
  · exact s_X8_askRow_31 hG hl
  · exact s_X8_askRow_34 hG hl
  · exact s_X8_askRow_35 hG hl
  · exact s_X8_askRow_36 hG hl
  · exact s_X8_askRow_39 hG hl
  · exact s_X8_askRow_42 hG hl
  · exact s_X8_askRow_43 hG hl
  · exact s_X8_askRow_44 hG hl
  · exact s_X8_askRow_46 hG hl
  · exact s_X8_askRow_49 hG hl
  · exact s_X8_askRow_50 hG hl
  · exact s_X8_askRow_53 hG hl
  · exact s_X8_askRow_54 hG hl
  · exact s_X8_askRow_55 hG hl
  · exact s_X8_askRow_58 hG hl
  · exact s_X8_askRow_61 hG hl
  · exact s_X8_askRow_62 hG hl
  · exact s_X8_askRow_63 hG hl
  · exact s_X8_askRow_64 hG hl
  · exact s_X8_askRow_66 hG hl
  · exact s_X8_askRow_67 hG hl
  · exact s_X8_askRow_69 hG hl
  · exact s_X8_askRow_71 hG hl
  · exact s_X8_askRow_72 hG hl
  · exact s_X8_askRow_75 hG hl
  · exact s_X8_askRow_77 hG hl
  · exact s_X8_askRow_78 hG hl
  · exact s_X8_askRow_79 hG hl
  · exact s_X8_askRow_81 hG hl
  · exact s_X8_askRow_82 hG hl
  · exact s_X8_askRow_83 hG hl
  · exact s_X8_askRow_84 hG hl
  · exact s_X8_askRow_86 hG hl
  · exact s_X8_askRow_87 hG hl
  · exact s_X8_askRow_90 hG hl
  · exact s_X8_askRow_91 hG hl
  · exact s_X8_askRow_93 hG hl
  · exact s_X8_askRow_96 hG hl
  · exact s_X8_askRow_99 hG hl
  · exact s_X8_askRow_101 hG hl
def tx_X8_got : ev_X := fun _ _ => some none
noncomputable def tb_X8_got (X : ev_E) : List (Nat × (ev_S → ev_N)) := [(0, i_al 0 1), (1, i_gf X 13 3 4), (4, i_il 1 5), (5, i_ald X FieldType.isReference 6), (6, i_as 4 8), (8, i_al 4 10), (10, i_psh (.int (1)) 11), (11, i_pf 12 8 (.boolean) 14), (14, i_al 4 16), (16, i_il 2 17), (17, i_cV X 208 1 12 3 20), (20, i_is 5 22), (22, i_il 5 24), (24, i_psh (.int (-1)) 25), (25, i_icne 30 28), (28, i_il 3 29), (29, i_ir (.int)), (30, i_al 4 32), (32, i_gf X 12 0 35), (35, i_il 5 37), (37, i_cV X 129 1 4 2 40), (40, i_cca 0 43), (43, i_psh (.int (1)) 44), (44, i_ald X ev_tI 45), (45, i_is 6 47), (47, i_al 4 49), (49, i_il 5 51), (51, i_cV X 278 1 12 2 54), (54, i_il 6 56), (56, i_ir (.int))]
theorem s_X8_got_0 {X : ev_E} {l : Launch} (hG : ev_Good X) (hl : l.stackTraces = false) : ev_Snd X l ev_ms x_X8_got tx_X8_got 0 (i_al 0 1) := s_aload_n dX8_got_0 rfl
theorem s_X8_got_1 {X : ev_E} {l : Launch} (hG : ev_Good X) (hl : l.stackTraces = false) : ev_Snd X l ev_ms x_X8_got tx_X8_got 1 (i_gf X 13 3 4) := s_getfield hG (ci := 13) (r := (RX8, TX8, 5)) rfl cw_13 (k := 3) (Nat.le_of_ble_eq_true rfl) w_1263 rfl (Or.inl rfl) dX8_got_1
theorem s_X8_got_4 {X : ev_E} {l : Launch} (hG : ev_Good X) (hl : l.stackTraces = false) : ev_Snd X l ev_ms x_X8_got tx_X8_got 4 (i_il 1 5) := s_iload_n dX8_got_4 rfl
theorem s_X8_got_5 {X : ev_E} {l : Launch} (hG : ev_Good X) (hl : l.stackTraces = false) : ev_Snd X l ev_ms x_X8_got tx_X8_got 5 (i_ald X FieldType.isReference 6) := s_aaload hG dX8_got_5
theorem s_X8_got_6 {X : ev_E} {l : Launch} (hG : ev_Good X) (hl : l.stackTraces = false) : ev_Snd X l ev_ms x_X8_got tx_X8_got 6 (i_as 4 8) := s_astore dX8_got_6 (Nat.le_of_ble_eq_true rfl)
theorem s_X8_got_8 {X : ev_E} {l : Launch} (hG : ev_Good X) (hl : l.stackTraces = false) : ev_Snd X l ev_ms x_X8_got tx_X8_got 8 (i_al 4 10) := s_aload dX8_got_8
theorem s_X8_got_10 {X : ev_E} {l : Launch} (hG : ev_Good X) (hl : l.stackTraces = false) : ev_Snd X l ev_ms x_X8_got tx_X8_got 10 (i_psh (.int (1)) 11) := s_iconst dX8_got_10 rfl
theorem s_X8_got_11 {X : ev_E} {l : Launch} (hG : ev_Good X) (hl : l.stackTraces = false) : ev_Snd X l ev_ms x_X8_got tx_X8_got 11 (i_pf 12 8 (.boolean) 14) := s_putfield hG (ci := 12) (r := (RX7, TX7, 9)) rfl cw_12 ap_12 (k := 8) (Nat.le_of_ble_eq_true rfl) rfl (by decide +kernel) w_1238 rfl (Or.inl rfl) dX8_got_11
theorem s_X8_got_14 {X : ev_E} {l : Launch} (hG : ev_Good X) (hl : l.stackTraces = false) : ev_Snd X l ev_ms x_X8_got tx_X8_got 14 (i_al 4 16) := s_aload dX8_got_14
theorem s_X8_got_16 {X : ev_E} {l : Launch} (hG : ev_Good X) (hl : l.stackTraces = false) : ev_Snd X l ev_ms x_X8_got tx_X8_got 16 (i_il 2 17) := s_iload_n dX8_got_16 rfl
theorem s_X8_got_17 {X : ev_E} {l : Launch} (hG : ev_Good X) (hl : l.stackTraces = false) : ev_Snd X l ev_ms x_X8_got tx_X8_got 17 (i_cV X 208 1 12 3 20) := s_invokevirtual hG (mi := 208) (n := 1) (ci := 12) (r := (RX7, TX7, 9)) rfl (cal_X7_place (Nat.le_of_ble_eq_true rfl)) w_1310 w_1311 w_1312 dX8_got_17
theorem s_X8_got_20 {X : ev_E} {l : Launch} (hG : ev_Good X) (hl : l.stackTraces = false) : ev_Snd X l ev_ms x_X8_got tx_X8_got 20 (i_is 5 22) := s_istore dX8_got_20 (Nat.le_of_ble_eq_true rfl)
theorem s_X8_got_22 {X : ev_E} {l : Launch} (hG : ev_Good X) (hl : l.stackTraces = false) : ev_Snd X l ev_ms x_X8_got tx_X8_got 22 (i_il 5 24) := s_iload dX8_got_22
theorem s_X8_got_24 {X : ev_E} {l : Launch} (hG : ev_Good X) (hl : l.stackTraces = false) : ev_Snd X l ev_ms x_X8_got tx_X8_got 24 (i_psh (.int (-1)) 25) := s_iconst dX8_got_24 rfl
theorem s_X8_got_25 {X : ev_E} {l : Launch} (hG : ev_Good X) (hl : l.stackTraces = false) : ev_Snd X l ev_ms x_X8_got tx_X8_got 25 (i_icne 30 28) := s_icne dX8_got_25 rfl
theorem s_X8_got_28 {X : ev_E} {l : Launch} (hG : ev_Good X) (hl : l.stackTraces = false) : ev_Snd X l ev_ms x_X8_got tx_X8_got 28 (i_il 3 29) := s_iload_n dX8_got_28 rfl
theorem s_X8_got_29 {X : ev_E} {l : Launch} (hG : ev_Good X) (hl : l.stackTraces = false) : ev_Snd X l ev_ms x_X8_got tx_X8_got 29 (i_ir (.int)) := s_ireturn rfl dX8_got_29
theorem s_X8_got_30 {X : ev_E} {l : Launch} (hG : ev_Good X) (hl : l.stackTraces = false) : ev_Snd X l ev_ms x_X8_got tx_X8_got 30 (i_al 4 32) := s_aload dX8_got_30
theorem s_X8_got_32 {X : ev_E} {l : Launch} (hG : ev_Good X) (hl : l.stackTraces = false) : ev_Snd X l ev_ms x_X8_got tx_X8_got 32 (i_gf X 12 0 35) := s_getfield hG (ci := 12) (r := (RX7, TX7, 9)) rfl cw_12 (k := 0) (Nat.le_of_ble_eq_true rfl) w_1222 rfl (Or.inl rfl) dX8_got_32
theorem s_X8_got_35 {X : ev_E} {l : Launch} (hG : ev_Good X) (hl : l.stackTraces = false) : ev_Snd X l ev_ms x_X8_got tx_X8_got 35 (i_il 5 37) := s_iload dX8_got_35
theorem s_X8_got_37 {X : ev_E} {l : Launch} (hG : ev_Good X) (hl : l.stackTraces = false) : ev_Snd X l ev_ms x_X8_got tx_X8_got 37 (i_cV X 129 1 4 2 40) := s_invokevirtual hG (mi := 129) (n := 1) (ci := 4) (r := (RJx4a65c, TJx4a65c, 3)) rfl (cal_Jx4a65c_get_915e3 (Nat.le_of_ble_eq_true rfl)) w_1328 w_1316 w_1317 dX8_got_37
theorem s_X8_got_40 {X : ev_E} {l : Launch} (hG : ev_Good X) (hl : l.stackTraces = false) : ev_Snd X l ev_ms x_X8_got tx_X8_got 40 (i_cca 0 43) := s_castA hG (kd := 0) (Nat.le_of_ble_eq_true rfl) (by decide +kernel) w_1329 dX8_got_40
theorem s_X8_got_43 {X : ev_E} {l : Launch} (hG : ev_Good X) (hl : l.stackTraces = false) : ev_Snd X l ev_ms x_X8_got tx_X8_got 43 (i_psh (.int (1)) 44) := s_iconst dX8_got_43 rfl
theorem s_X8_got_44 {X : ev_E} {l : Launch} (hG : ev_Good X) (hl : l.stackTraces = false) : ev_Snd X l ev_ms x_X8_got tx_X8_got 44 (i_ald X ev_tI 45) := s_iaload hG dX8_got_44
theorem s_X8_got_45 {X : ev_E} {l : Launch} (hG : ev_Good X) (hl : l.stackTraces = false) : ev_Snd X l ev_ms x_X8_got tx_X8_got 45 (i_is 6 47) := s_istore dX8_got_45 (Nat.le_of_ble_eq_true rfl)
theorem s_X8_got_47 {X : ev_E} {l : Launch} (hG : ev_Good X) (hl : l.stackTraces = false) : ev_Snd X l ev_ms x_X8_got tx_X8_got 47 (i_al 4 49) := s_aload dX8_got_47
theorem s_X8_got_49 {X : ev_E} {l : Launch} (hG : ev_Good X) (hl : l.stackTraces = false) : ev_Snd X l ev_ms x_X8_got tx_X8_got 49 (i_il 5 51) := s_iload dX8_got_49
theorem s_X8_got_51 {X : ev_E} {l : Launch} (hG : ev_Good X) (hl : l.stackTraces = false) : ev_Snd X l ev_ms x_X8_got tx_X8_got 51 (i_cV X 278 1 12 2 54) := s_invokevirtual hG (mi := 278) (n := 1) (ci := 12) (r := (RX7, TX7, 9)) rfl (cal_X7_asked (Nat.le_of_ble_eq_true rfl)) w_1330 w_1331 w_1332 dX8_got_51
theorem s_X8_got_54 {X : ev_E} {l : Launch} (hG : ev_Good X) (hl : l.stackTraces = false) : ev_Snd X l ev_ms x_X8_got tx_X8_got 54 (i_il 6 56) := s_iload dX8_got_54
theorem s_X8_got_56 {X : ev_E} {l : Launch} (hG : ev_Good X) (hl : l.stackTraces = false) : ev_Snd X l ev_ms x_X8_got tx_X8_got 56 (i_ir (.int)) := s_ireturn rfl dX8_got_56
theorem sa_X8_got {X : ev_E} {l : Launch} (hG : ev_Good X) (hl : l.stackTraces = false) : ∀ q ∈ tb_X8_got X, ev_Snd X l ev_ms x_X8_got tx_X8_got q.1 q.2 := by
  intro q hq
  unfold tb_X8_got at hq
  simp only [List.mem_cons, List.not_mem_nil, or_false] at hq
  rcases hq with rfl | rfl | rfl | rfl | rfl | rfl | rfl | rfl | rfl | rfl | rfl | rfl | rfl | rfl | rfl | rfl | rfl | rfl | rfl | rfl | rfl | rfl | rfl | rfl | rfl | rfl | rfl | rfl | rfl | rfl
  · exact s_X8_got_0 hG hl
  · exact s_X8_got_1 hG hl
  · exact s_X8_got_4 hG hl
  · exact s_X8_got_5 hG hl
  · exact s_X8_got_6 hG hl
  · exact s_X8_got_8 hG hl
  · exact s_X8_got_10 hG hl
  · exact s_X8_got_11 hG hl
  · exact s_X8_got_14 hG hl
  · exact s_X8_got_16 hG hl
  · exact s_X8_got_17 hG hl
  · exact s_X8_got_20 hG hl
  · exact s_X8_got_22 hG hl
  · exact s_X8_got_24 hG hl
  · exact s_X8_got_25 hG hl
  · exact s_X8_got_28 hG hl
  · exact s_X8_got_29 hG hl
  · exact s_X8_got_30 hG hl
  · exact s_X8_got_32 hG hl
  · exact s_X8_got_35 hG hl
  · exact s_X8_got_37 hG hl
  · exact s_X8_got_40 hG hl
  · exact s_X8_got_43 hG hl
  · exact s_X8_got_44 hG hl
  · exact s_X8_got_45 hG hl
  · exact s_X8_got_47 hG hl
  · exact s_X8_got_49 hG hl
  · exact s_X8_got_51 hG hl
  · exact s_X8_got_54 hG hl
  · exact s_X8_got_56 hG hl
def tx_X8_hits : ev_X := fun _ _ => some none
noncomputable def tb_X8_hits (X : ev_E) : List (Nat × (ev_S → ev_N)) := [(0, i_al 0 1), (1, i_il 1 2), (2, i_cS 119 1 1 5), (5, i_psh (.int (0)) 6), (6, i_psh (.int (0)) 7), (7, i_cV X 63 3 13 4 10), (10, i_ifeq 17 13), (13, i_psh (.int (0)) 14), (14, i_goto 30), (17, i_al 0 18), (18, i_gf X 13 4 21), (21, i_cV X 24 0 4 1 24), (24, i_al 0 25), (25, i_il 1 26), (26, i_cV X 283 1 13 4 29), (29, i_ii (fun a b => a - b) 30), (30, i_ir (.int))]
theorem s_X8_hits_0 {X : ev_E} {l : Launch} (hG : ev_Good X) (hl : l.stackTraces = false) : ev_Snd X l ev_ms x_X8_hits tx_X8_hits 0 (i_al 0 1) := s_aload_n dX8_hits_0 rfl
theorem s_X8_hits_1 {X : ev_E} {l : Launch} (hG : ev_Good X) (hl : l.stackTraces = false) : ev_Snd X l ev_ms x_X8_hits tx_X8_hits 1 (i_il 1 2) := s_iload_n dX8_hits_1 rfl
theorem s_X8_hits_2 {X : ev_E} {l : Launch} (hG : ev_Good X) (hl : l.stackTraces = false) : ev_Snd X l ev_ms x_X8_hits tx_X8_hits 2 (i_cS 119 1 1 5) := s_invokestatic hG (mi := 119) (n := 1) (cal_X8_isNoSize (Nat.le_of_ble_eq_true rfl)) w_1670 w_1671 dX8_hits_2
theorem s_X8_hits_5 {X : ev_E} {l : Launch} (hG : ev_Good X) (hl : l.stackTraces = false) : ev_Snd X l ev_ms x_X8_hits tx_X8_hits 5 (i_psh (.int (0)) 6) := s_iconst dX8_hits_5 rfl
theorem s_X8_hits_6 {X : ev_E} {l : Launch} (hG : ev_Good X) (hl : l.stackTraces = false) : ev_Snd X l ev_ms x_X8_hits tx_X8_hits 6 (i_psh (.int (0)) 7) := s_iconst dX8_hits_6 rfl
theorem s_X8_hits_7 {X : ev_E} {l : Launch} (hG : ev_Good X) (hl : l.stackTraces = false) : ev_Snd X l ev_ms x_X8_hits tx_X8_hits 7 (i_cV X 63 3 13 4 10) := s_invokevirtual hG (mi := 63) (n := 3) (ci := 13) (r := (RX8, TX8, 5)) rfl (cal_X8_fails (Nat.le_of_ble_eq_true rfl)) w_1290 w_1292 w_22 dX8_hits_7
theorem s_X8_hits_10 {X : ev_E} {l : Launch} (hG : ev_Good X) (hl : l.stackTraces = false) : ev_Snd X l ev_ms x_X8_hits tx_X8_hits 10 (i_ifeq 17 13) := s_ifeq dX8_hits_10 rfl
theorem s_X8_hits_13 {X : ev_E} {l : Launch} (hG : ev_Good X) (hl : l.stackTraces = false) : ev_Snd X l ev_ms x_X8_hits tx_X8_hits 13 (i_psh (.int (0)) 14) := s_iconst dX8_hits_13 rfl
theorem s_X8_hits_14 {X : ev_E} {l : Launch} (hG : ev_Good X) (hl : l.stackTraces = false) : ev_Snd X l ev_ms x_X8_hits tx_X8_hits 14 (i_goto 30) := s_goto dX8_hits_14 rfl
theorem s_X8_hits_17 {X : ev_E} {l : Launch} (hG : ev_Good X) (hl : l.stackTraces = false) : ev_Snd X l ev_ms x_X8_hits tx_X8_hits 17 (i_al 0 18) := s_aload_n dX8_hits_17 rfl
theorem s_X8_hits_18 {X : ev_E} {l : Launch} (hG : ev_Good X) (hl : l.stackTraces = false) : ev_Snd X l ev_ms x_X8_hits tx_X8_hits 18 (i_gf X 13 4 21) := s_getfield hG (ci := 13) (r := (RX8, TX8, 5)) rfl cw_13 (k := 4) (Nat.le_of_ble_eq_true rfl) w_1264 rfl (Or.inl rfl) dX8_hits_18
theorem s_X8_hits_21 {X : ev_E} {l : Launch} (hG : ev_Good X) (hl : l.stackTraces = false) : ev_Snd X l ev_ms x_X8_hits tx_X8_hits 21 (i_cV X 24 0 4 1 24) := s_invokevirtual hG (mi := 24) (n := 0) (ci := 4) (r := (RJx4a65c, TJx4a65c, 3)) rfl (cal_Jx4a65c_size_8abf5 (Nat.le_of_ble_eq_true rfl)) w_1294 w_1295 w_1296 dX8_hits_21
theorem s_X8_hits_24 {X : ev_E} {l : Launch} (hG : ev_Good X) (hl : l.stackTraces = false) : ev_Snd X l ev_ms x_X8_hits tx_X8_hits 24 (i_al 0 25) := s_aload_n dX8_hits_24 rfl
theorem s_X8_hits_25 {X : ev_E} {l : Launch} (hG : ev_Good X) (hl : l.stackTraces = false) : ev_Snd X l ev_ms x_X8_hits tx_X8_hits 25 (i_il 1 26) := s_iload_n dX8_hits_25 rfl
theorem s_X8_hits_26 {X : ev_E} {l : Launch} (hG : ev_Good X) (hl : l.stackTraces = false) : ev_Snd X l ev_ms x_X8_hits tx_X8_hits 26 (i_cV X 283 1 13 4 29) := s_invokevirtual hG (mi := 283) (n := 1) (ci := 13) (r := (RX8, TX8, 5)) rfl (cal_X8_missesNow (Nat.le_of_ble_eq_true rfl)) w_1697 w_1699 w_43 dX8_hits_26
theorem s_X8_hits_29 {X : ev_E} {l : Launch} (hG : ev_Good X) (hl : l.stackTraces = false) : ev_Snd X l ev_ms x_X8_hits tx_X8_hits 29 (i_ii (fun a b => a - b) 30) := s_isub dX8_hits_29
theorem s_X8_hits_30 {X : ev_E} {l : Launch} (hG : ev_Good X) (hl : l.stackTraces = false) : ev_Snd X l ev_ms x_X8_hits tx_X8_hits 30 (i_ir (.int)) := s_ireturn rfl dX8_hits_30
theorem sa_X8_hits {X : ev_E} {l : Launch} (hG : ev_Good X) (hl : l.stackTraces = false) : ∀ q ∈ tb_X8_hits X, ev_Snd X l ev_ms x_X8_hits tx_X8_hits q.1 q.2 := by
  intro q hq
  unfold tb_X8_hits at hq
  simp only [List.mem_cons, List.not_mem_nil, or_false] at hq
  rcases hq with rfl | rfl | rfl | rfl | rfl | rfl | rfl | rfl | rfl | rfl | rfl | rfl | rfl | rfl | rfl | rfl | rfl
  · exact s_X8_hits_0 hG hl
  · exact s_X8_hits_1 hG hl
  · exact s_X8_hits_2 hG hl
  · exact s_X8_hits_5 hG hl
  · exact s_X8_hits_6 hG hl
  · exact s_X8_hits_7 hG hl
  · exact s_X8_hits_10 hG hl
  · exact s_X8_hits_13 hG hl
  · exact s_X8_hits_14 hG hl
  · exact s_X8_hits_17 hG hl
  · exact s_X8_hits_18 hG hl
  · exact s_X8_hits_21 hG hl
  · exact s_X8_hits_24 hG hl
  · exact s_X8_hits_25 hG hl
  · exact s_X8_hits_26 hG hl
  · exact s_X8_hits_29 hG hl
  · exact s_X8_hits_30 hG hl
def tx_X8_lost : ev_X := fun _ _ => some none
noncomputable def tb_X8_lost (X : ev_E) : List (Nat × (ev_S → ev_N)) := [(0, i_al 0 1), (1, i_il 1 2), (2, i_cS 119 1 1 5), (5, i_psh (.int (0)) 6), (6, i_psh (.int (0)) 7), (7, i_cV X 63 3 13 4 10), (10, i_ifeq 17 13), (13, i_psh (.int (0)) 14), (14, i_goto 22), (17, i_al 0 18), (18, i_il 1 19), (19, i_cV X 282 1 13 3 22), (22, i_ir (.int))]
theorem s_X8_lost_0 {X : ev_E} {l : Launch} (hG : ev_Good X) (hl : l.stackTraces = false) : ev_Snd X l ev_ms x_X8_lost tx_X8_lost 0 (i_al 0 1) := s_aload_n dX8_lost_0 rfl
theorem s_X8_lost_1 {X : ev_E} {l : Launch} (hG : ev_Good X) (hl : l.stackTraces = false) : ev_Snd X l ev_ms x_X8_lost tx_X8_lost 1 (i_il 1 2) := s_iload_n dX8_lost_1 rfl
theorem s_X8_lost_2 {X : ev_E} {l : Launch} (hG : ev_Good X) (hl : l.stackTraces = false) : ev_Snd X l ev_ms x_X8_lost tx_X8_lost 2 (i_cS 119 1 1 5) := s_invokestatic hG (mi := 119) (n := 1) (cal_X8_isNoSize (Nat.le_of_ble_eq_true rfl)) w_1670 w_1671 dX8_lost_2
theorem s_X8_lost_5 {X : ev_E} {l : Launch} (hG : ev_Good X) (hl : l.stackTraces = false) : ev_Snd X l ev_ms x_X8_lost tx_X8_lost 5 (i_psh (.int (0)) 6) := s_iconst dX8_lost_5 rfl
theorem s_X8_lost_6 {X : ev_E} {l : Launch} (hG : ev_Good X) (hl : l.stackTraces = false) : ev_Snd X l ev_ms x_X8_lost tx_X8_lost 6 (i_psh (.int (0)) 7) := s_iconst dX8_lost_6 rfl
theorem s_X8_lost_7 {X : ev_E} {l : Launch} (hG : ev_Good X) (hl : l.stackTraces = false) : ev_Snd X l ev_ms x_X8_lost tx_X8_lost 7 (i_cV X 63 3 13 4 10) := s_invokevirtual hG (mi := 63) (n := 3) (ci := 13) (r := (RX8, TX8, 5)) rfl (cal_X8_fails (Nat.le_of_ble_eq_true rfl)) w_1290 w_1292 w_22 dX8_lost_7
theorem s_X8_lost_10 {X : ev_E} {l : Launch} (hG : ev_Good X) (hl : l.stackTraces = false) : ev_Snd X l ev_ms x_X8_lost tx_X8_lost 10 (i_ifeq 17 13) := s_ifeq dX8_lost_10 rfl
theorem s_X8_lost_13 {X : ev_E} {l : Launch} (hG : ev_Good X) (hl : l.stackTraces = false) : ev_Snd X l ev_ms x_X8_lost tx_X8_lost 13 (i_psh (.int (0)) 14) := s_iconst dX8_lost_13 rfl
theorem s_X8_lost_14 {X : ev_E} {l : Launch} (hG : ev_Good X) (hl : l.stackTraces = false) : ev_Snd X l ev_ms x_X8_lost tx_X8_lost 14 (i_goto 22) := s_goto dX8_lost_14 rfl
theorem s_X8_lost_17 {X : ev_E} {l : Launch} (hG : ev_Good X) (hl : l.stackTraces = false) : ev_Snd X l ev_ms x_X8_lost tx_X8_lost 17 (i_al 0 18) := s_aload_n dX8_lost_17 rfl
theorem s_X8_lost_18 {X : ev_E} {l : Launch} (hG : ev_Good X) (hl : l.stackTraces = false) : ev_Snd X l ev_ms x_X8_lost tx_X8_lost 18 (i_il 1 19) := s_iload_n dX8_lost_18 rfl
theorem s_X8_lost_19 {X : ev_E} {l : Launch} (hG : ev_Good X) (hl : l.stackTraces = false) : ev_Snd X l ev_ms x_X8_lost tx_X8_lost 19 (i_cV X 282 1 13 3 22) := s_invokevirtual hG (mi := 282) (n := 1) (ci := 13) (r := (RX8, TX8, 5)) rfl (cal_X8_lostNow (Nat.le_of_ble_eq_true rfl)) w_1709 w_1711 w_44 dX8_lost_19
theorem s_X8_lost_22 {X : ev_E} {l : Launch} (hG : ev_Good X) (hl : l.stackTraces = false) : ev_Snd X l ev_ms x_X8_lost tx_X8_lost 22 (i_ir (.int)) := s_ireturn rfl dX8_lost_22
theorem sa_X8_lost {X : ev_E} {l : Launch} (hG : ev_Good X) (hl : l.stackTraces = false) : ∀ q ∈ tb_X8_lost X, ev_Snd X l ev_ms x_X8_lost tx_X8_lost q.1 q.2 := by
  intro q hq
  unfold tb_X8_lost at hq
  simp only [List.mem_cons, List.not_mem_nil, or_false] at hq
  rcases hq with rfl | rfl | rfl | rfl | rfl | rfl | rfl | rfl | rfl | rfl | rfl | rfl | rfl
  · exact s_X8_lost_0 hG hl
  · exact s_X8_lost_1 hG hl
  · exact s_X8_lost_2 hG hl
  · exact s_X8_lost_5 hG hl
  · exact s_X8_lost_6 hG hl
  · exact s_X8_lost_7 hG hl
  · exact s_X8_lost_10 hG hl
  · exact s_X8_lost_13 hG hl
  · exact s_X8_lost_14 hG hl
  · exact s_X8_lost_17 hG hl
  · exact s_X8_lost_18 hG hl
  · exact s_X8_lost_19 hG hl
  · exact s_X8_lost_22 hG hl
def tx_X8_misses : ev_X := fun _ _ => some none
noncomputable def tb_X8_misses (X : ev_E) : List (Nat × (ev_S → ev_N)) := [(0, i_al 0 1), (1, i_il 1 2), (2, i_cS 119 1 1 5), (5, i_psh (.int (0)) 6), (6, i_psh (.int (0)) 7), (7, i_cV X 63 3 13 4 10), (10, i_ifeq 17 13), (13, i_psh (.int (0)) 14), (14, i_goto 22), (17, i_al 0 18), (18, i_il 1 19), (19, i_cV X 283 1 13 4 22), (22, i_ir (.int))]
theorem s_X8_misses_0 {X : ev_E} {l : Launch} (hG : ev_Good X) (hl : l.stackTraces = false) : ev_Snd X l ev_ms x_X8_misses tx_X8_misses 0 (i_al 0 1) := s_aload_n dX8_misses_0 rfl
theorem s_X8_misses_1 {X : ev_E} {l : Launch} (hG : ev_Good X) (hl : l.stackTraces = false) : ev_Snd X l ev_ms x_X8_misses tx_X8_misses 1 (i_il 1 2) := s_iload_n dX8_misses_1 rfl
theorem s_X8_misses_2 {X : ev_E} {l : Launch} (hG : ev_Good X) (hl : l.stackTraces = false) : ev_Snd X l ev_ms x_X8_misses tx_X8_misses 2 (i_cS 119 1 1 5) := s_invokestatic hG (mi := 119) (n := 1) (cal_X8_isNoSize (Nat.le_of_ble_eq_true rfl)) w_1670 w_1671 dX8_misses_2
theorem s_X8_misses_5 {X : ev_E} {l : Launch} (hG : ev_Good X) (hl : l.stackTraces = false) : ev_Snd X l ev_ms x_X8_misses tx_X8_misses 5 (i_psh (.int (0)) 6) := s_iconst dX8_misses_5 rfl
theorem s_X8_misses_6 {X : ev_E} {l : Launch} (hG : ev_Good X) (hl : l.stackTraces = false) : ev_Snd X l ev_ms x_X8_misses tx_X8_misses 6 (i_psh (.int (0)) 7) := s_iconst dX8_misses_6 rfl
theorem s_X8_misses_7 {X : ev_E} {l : Launch} (hG : ev_Good X) (hl : l.stackTraces = false) : ev_Snd X l ev_ms x_X8_misses tx_X8_misses 7 (i_cV X 63 3 13 4 10) := s_invokevirtual hG (mi := 63) (n := 3) (ci := 13) (r := (RX8, TX8, 5)) rfl (cal_X8_fails (Nat.le_of_ble_eq_true rfl)) w_1290 w_1292 w_22 dX8_misses_7
theorem s_X8_misses_10 {X : ev_E} {l : Launch} (hG : ev_Good X) (hl : l.stackTraces = false) : ev_Snd X l ev_ms x_X8_misses tx_X8_misses 10 (i_ifeq 17 13) := s_ifeq dX8_misses_10 rfl
theorem s_X8_misses_13 {X : ev_E} {l : Launch} (hG : ev_Good X) (hl : l.stackTraces = false) : ev_Snd X l ev_ms x_X8_misses tx_X8_misses 13 (i_psh (.int (0)) 14) := s_iconst dX8_misses_13 rfl
theorem s_X8_misses_14 {X : ev_E} {l : Launch} (hG : ev_Good X) (hl : l.stackTraces = false) : ev_Snd X l ev_ms x_X8_misses tx_X8_misses 14 (i_goto 22) := s_goto dX8_misses_14 rfl
theorem s_X8_misses_17 {X : ev_E} {l : Launch} (hG : ev_Good X) (hl : l.stackTraces = false) : ev_Snd X l ev_ms x_X8_misses tx_X8_misses 17 (i_al 0 18) := s_aload_n dX8_misses_17 rfl
theorem s_X8_misses_18 {X : ev_E} {l : Launch} (hG : ev_Good X) (hl : l.stackTraces = false) : ev_Snd X l ev_ms x_X8_misses tx_X8_misses 18 (i_il 1 19) := s_iload_n dX8_misses_18 rfl
theorem s_X8_misses_19 {X : ev_E} {l : Launch} (hG : ev_Good X) (hl : l.stackTraces = false) : ev_Snd X l ev_ms x_X8_misses tx_X8_misses 19 (i_cV X 283 1 13 4 22) := s_invokevirtual hG (mi := 283) (n := 1) (ci := 13) (r := (RX8, TX8, 5)) rfl (cal_X8_missesNow (Nat.le_of_ble_eq_true rfl)) w_1697 w_1699 w_43 dX8_misses_19
theorem s_X8_misses_22 {X : ev_E} {l : Launch} (hG : ev_Good X) (hl : l.stackTraces = false) : ev_Snd X l ev_ms x_X8_misses tx_X8_misses 22 (i_ir (.int)) := s_ireturn rfl dX8_misses_22
theorem sa_X8_misses {X : ev_E} {l : Launch} (hG : ev_Good X) (hl : l.stackTraces = false) : ∀ q ∈ tb_X8_misses X, ev_Snd X l ev_ms x_X8_misses tx_X8_misses q.1 q.2 := by
  intro q hq
  unfold tb_X8_misses at hq
  simp only [List.mem_cons, List.not_mem_nil, or_false] at hq
  rcases hq with rfl | rfl | rfl | rfl | rfl | rfl | rfl | rfl | rfl | rfl | rfl | rfl | rfl
  · exact s_X8_misses_0 hG hl
  · exact s_X8_misses_1 hG hl
  · exact s_X8_misses_2 hG hl
  · exact s_X8_misses_5 hG hl
  · exact s_X8_misses_6 hG hl
  · exact s_X8_misses_7 hG hl
  · exact s_X8_misses_10 hG hl
  · exact s_X8_misses_13 hG hl
  · exact s_X8_misses_14 hG hl
  · exact s_X8_misses_17 hG hl
  · exact s_X8_misses_18 hG hl
  · exact s_X8_misses_19 hG hl
  · exact s_X8_misses_22 hG hl
def tx_X8_put : ev_X := fun _ _ => some none
noncomputable def tb_X8_put_c0 (X : ev_E) : List (Nat × (ev_S → ev_N)) := [(0, i_al 0 1), (1, i_il 1 2), (2, i_cS 118 1 1 5), (5, i_il 2 6), (6, i_psh (.int (20)) 8), (8, i_cS 65 2 2 11), (11, i_ifne 23 14), (14, i_il 3 15), (15, i_psh (.int (100)) 17), (17, i_cS 65 2 2 20), (20, i_ifeq 27 23), (23, i_psh (.int (1)) 24), (24, i_goto 28), (27, i_psh (.int (0)) 28), (28, i_psh (.int (0)) 29), (29, i_cV X 63 3 13 4 32), (32, i_ifeq 37 35), (35, i_psh (.int (0)) 36), (36, i_ir (.int)), (37, i_al 0 38), (38, i_gf X 13 3 41), (41, i_il 1 42), (42, i_ald X FieldType.isReference 43), (43, i_as 4 45), (45, i_al 4 47), (47, i_psh (.int (1)) 48), (48, i_pf 12 8 (.boolean) 51), (51, i_al 4 53), (53, i_il 2 54), (54, i_cV X 208 1 12 3 57), (57, i_is 5 59), (59, i_il 5 61), (61, i_psh (.int (-1)) 62), (62, i_iceq 108 65), (65, i_al 4 67), (67, i_gf X 12 0 70), (70, i_il 5 72), (72, i_cV X 129 1 4 2 75), (75, i_cca 0 78), (78, i_psh (.int (1)) 79), (79, i_ald X ev_tI 80), (80, i_is 6 82), (82, i_al 4 84), (84, i_gf X 12 0 87), (87, i_il 5 89), (89, i_cV X 129 1 4 2 92), (92, i_cca 0 95), (95, i_psh (.int (1)) 96), (96, i_il 3 97), (97, i_ast ev_tI (fun v => v) 98), (98, i_al 4 100), (100, i_il 5 102), (102, i_cV X 278 1 12 2 105), (105, i_il 6 107), (107, i_ir (.int)), (108, i_al 4 110), (110, i_gf X 12 0 113), (113, i_psh (.int (2)) 114), (114, i_na 0 (.int 0) 116), (116, i_dup 117)]
noncomputable def tb_X8_put_c1 (X : ev_E) : List (Nat × (ev_S → ev_N)) := [(117, i_psh (.int (0)) 118), (118, i_il 2 119), (119, i_ast ev_tI (fun v => v) 120), (120, i_dup 121), (121, i_psh (.int (1)) 122), (122, i_il 3 123), (123, i_ast ev_tI (fun v => v) 124), (124, i_cV X 262 1 4 2 127), (127, i_pop 128), (128, i_al 4 130), (130, i_gf X 12 2 133), (133, i_psh (.int (-1)) 134), (134, i_iceq 183 137), (137, i_al 4 139), (139, i_gf X 12 0 142), (142, i_cV X 24 0 4 1 145), (145, i_al 4 147), (147, i_gf X 12 2 150), (150, i_icle 183 153), (153, i_al 4 155), (155, i_dup 156), (156, i_gf X 12 3 159), (159, i_psh (.int (1)) 160), (160, i_ii (fun a b => a + b) 161), (161, i_pf 12 3 (.int) 164), (164, i_al 4 166), (166, i_al 4 168), (168, i_gf X 12 0 171), (171, i_psh (.int (0)) 172), (172, i_cV X 131 1 4 4 175), (175, i_cca 0 178), (178, i_psh (.int (0)) 179), (179, i_ald X ev_tI 180), (180, i_pf 12 4 (.int) 183), (183, i_psh (.int (-1)) 184), (184, i_ir (.int))]
noncomputable def tb_X8_put (X : ev_E) : List (Nat × (ev_S → ev_N)) := tb_X8_put_c0 X ++ (tb_X8_put_c1 X)
theorem s_X8_put_0 {X : ev_E} {l : Launch} (hG : ev_Good X) (hl : l.stackTraces = false) : ev_Snd X l ev_ms x_X8_put tx_X8_put 0 (i_al 0 1) := s_aload_n dX8_put_0 rfl
theorem s_X8_put_1 {X : ev_E} {l : Launch} (hG : ev_Good X) (hl : l.stackTraces = false) : ev_Snd X l ev_ms x_X8_put tx_X8_put 1 (i_il 1 2) := s_iload_n dX8_put_1 rfl
theorem s_X8_put_2 {X : ev_E} {l : Launch} (hG : ev_Good X) (hl : l.stackTraces = false) : ev_Snd X l ev_ms x_X8_put tx_X8_put 2 (i_cS 118 1 1 5) := s_invokestatic hG (mi := 118) (n := 1) (cal_X8_isNo (Nat.le_of_ble_eq_true rfl)) w_1284 w_1285 dX8_put_2
theorem s_X8_put_5 {X : ev_E} {l : Launch} (hG : ev_Good X) (hl : l.stackTraces = false) : ev_Snd X l ev_ms x_X8_put tx_X8_put 5 (i_il 2 6) := s_iload_n dX8_put_5 rfl
theorem s_X8_put_6 {X : ev_E} {l : Launch} (hG : ev_Good X) (hl : l.stackTraces = false) : ev_Snd X l ev_ms x_X8_put tx_X8_put 6 (i_psh (.int (20)) 8) := s_bipush dX8_put_6 rfl
theorem s_X8_put_8 {X : ev_E} {l : Launch} (hG : ev_Good X) (hl : l.stackTraces = false) : ev_Snd X l ev_ms x_X8_put tx_X8_put 8 (i_cS 65 2 2 11) := s_invokestatic hG (mi := 65) (n := 2) (cal_X8_isOut (Nat.le_of_ble_eq_true rfl)) w_1287 w_1288 dX8_put_8
theorem s_X8_put_11 {X : ev_E} {l : Launch} (hG : ev_Good X) (hl : l.stackTraces = false) : ev_Snd X l ev_ms x_X8_put tx_X8_put 11 (i_ifne 23 14) := s_ifne dX8_put_11 rfl
theorem s_X8_put_14 {X : ev_E} {l : Launch} (hG : ev_Good X) (hl : l.stackTraces = false) : ev_Snd X l ev_ms x_X8_put tx_X8_put 14 (i_il 3 15) := s_iload_n dX8_put_14 rfl
theorem s_X8_put_15 {X : ev_E} {l : Launch} (hG : ev_Good X) (hl : l.stackTraces = false) : ev_Snd X l ev_ms x_X8_put tx_X8_put 15 (i_psh (.int (100)) 17) := s_bipush dX8_put_15 rfl
theorem s_X8_put_17 {X : ev_E} {l : Launch} (hG : ev_Good X) (hl : l.stackTraces = false) : ev_Snd X l ev_ms x_X8_put tx_X8_put 17 (i_cS 65 2 2 20) := s_invokestatic hG (mi := 65) (n := 2) (cal_X8_isOut (Nat.le_of_ble_eq_true rfl)) w_1287 w_1288 dX8_put_17
theorem s_X8_put_20 {X : ev_E} {l : Launch} (hG : ev_Good X) (hl : l.stackTraces = false) : ev_Snd X l ev_ms x_X8_put tx_X8_put 20 (i_ifeq 27 23) := s_ifeq dX8_put_20 rfl
theorem s_X8_put_23 {X : ev_E} {l : Launch} (hG : ev_Good X) (hl : l.stackTraces = false) : ev_Snd X l ev_ms x_X8_put tx_X8_put 23 (i_psh (.int (1)) 24) := s_iconst dX8_put_23 rfl
theorem s_X8_put_24 {X : ev_E} {l : Launch} (hG : ev_Good X) (hl : l.stackTraces = false) : ev_Snd X l ev_ms x_X8_put tx_X8_put 24 (i_goto 28) := s_goto dX8_put_24 rfl
theorem s_X8_put_27 {X : ev_E} {l : Launch} (hG : ev_Good X) (hl : l.stackTraces = false) : ev_Snd X l ev_ms x_X8_put tx_X8_put 27 (i_psh (.int (0)) 28) := s_iconst dX8_put_27 rfl
theorem s_X8_put_28 {X : ev_E} {l : Launch} (hG : ev_Good X) (hl : l.stackTraces = false) : ev_Snd X l ev_ms x_X8_put tx_X8_put 28 (i_psh (.int (0)) 29) := s_iconst dX8_put_28 rfl
theorem s_X8_put_29 {X : ev_E} {l : Launch} (hG : ev_Good X) (hl : l.stackTraces = false) : ev_Snd X l ev_ms x_X8_put tx_X8_put 29 (i_cV X 63 3 13 4 32) := s_invokevirtual hG (mi := 63) (n := 3) (ci := 13) (r := (RX8, TX8, 5)) rfl (cal_X8_fails (Nat.le_of_ble_eq_true rfl)) w_1290 w_1292 w_22 dX8_put_29
theorem s_X8_put_32 {X : ev_E} {l : Launch} (hG : ev_Good X) (hl : l.stackTraces = false) : ev_Snd X l ev_ms x_X8_put tx_X8_put 32 (i_ifeq 37 35) := s_ifeq dX8_put_32 rfl
theorem s_X8_put_35 {X : ev_E} {l : Launch} (hG : ev_Good X) (hl : l.stackTraces = false) : ev_Snd X l ev_ms x_X8_put tx_X8_put 35 (i_psh (.int (0)) 36) := s_iconst dX8_put_35 rfl
theorem s_X8_put_36 {X : ev_E} {l : Launch} (hG : ev_Good X) (hl : l.stackTraces = false) : ev_Snd X l ev_ms x_X8_put tx_X8_put 36 (i_ir (.int)) := s_ireturn rfl dX8_put_36
theorem s_X8_put_37 {X : ev_E} {l : Launch} (hG : ev_Good X) (hl : l.stackTraces = false) : ev_Snd X l ev_ms x_X8_put tx_X8_put 37 (i_al 0 38) := s_aload_n dX8_put_37 rfl
theorem s_X8_put_38 {X : ev_E} {l : Launch} (hG : ev_Good X) (hl : l.stackTraces = false) : ev_Snd X l ev_ms x_X8_put tx_X8_put 38 (i_gf X 13 3 41) := s_getfield hG (ci := 13) (r := (RX8, TX8, 5)) rfl cw_13 (k := 3) (Nat.le_of_ble_eq_true rfl) w_1263 rfl (Or.inl rfl) dX8_put_38
theorem s_X8_put_41 {X : ev_E} {l : Launch} (hG : ev_Good X) (hl : l.stackTraces = false) : ev_Snd X l ev_ms x_X8_put tx_X8_put 41 (i_il 1 42) := s_iload_n dX8_put_41 rfl
theorem s_X8_put_42 {X : ev_E} {l : Launch} (hG : ev_Good X) (hl : l.stackTraces = false) : ev_Snd X l ev_ms x_X8_put tx_X8_put 42 (i_ald X FieldType.isReference 43) := s_aaload hG dX8_put_42
theorem s_X8_put_43 {X : ev_E} {l : Launch} (hG : ev_Good X) (hl : l.stackTraces = false) : ev_Snd X l ev_ms x_X8_put tx_X8_put 43 (i_as 4 45) := s_astore dX8_put_43 (Nat.le_of_ble_eq_true rfl)
theorem s_X8_put_45 {X : ev_E} {l : Launch} (hG : ev_Good X) (hl : l.stackTraces = false) : ev_Snd X l ev_ms x_X8_put tx_X8_put 45 (i_al 4 47) := s_aload dX8_put_45
theorem s_X8_put_47 {X : ev_E} {l : Launch} (hG : ev_Good X) (hl : l.stackTraces = false) : ev_Snd X l ev_ms x_X8_put tx_X8_put 47 (i_psh (.int (1)) 48) := s_iconst dX8_put_47 rfl
theorem s_X8_put_48 {X : ev_E} {l : Launch} (hG : ev_Good X) (hl : l.stackTraces = false) : ev_Snd X l ev_ms x_X8_put tx_X8_put 48 (i_pf 12 8 (.boolean) 51) := s_putfield hG (ci := 12) (r := (RX7, TX7, 9)) rfl cw_12 ap_12 (k := 8) (Nat.le_of_ble_eq_true rfl) rfl (by decide +kernel) w_1238 rfl (Or.inl rfl) dX8_put_48
theorem s_X8_put_51 {X : ev_E} {l : Launch} (hG : ev_Good X) (hl : l.stackTraces = false) : ev_Snd X l ev_ms x_X8_put tx_X8_put 51 (i_al 4 53) := s_aload dX8_put_51
theorem s_X8_put_53 {X : ev_E} {l : Launch} (hG : ev_Good X) (hl : l.stackTraces = false) : ev_Snd X l ev_ms x_X8_put tx_X8_put 53 (i_il 2 54) := s_iload_n dX8_put_53 rfl
theorem s_X8_put_54 {X : ev_E} {l : Launch} (hG : ev_Good X) (hl : l.stackTraces = false) : ev_Snd X l ev_ms x_X8_put tx_X8_put 54 (i_cV X 208 1 12 3 57) := s_invokevirtual hG (mi := 208) (n := 1) (ci := 12) (r := (RX7, TX7, 9)) rfl (cal_X7_place (Nat.le_of_ble_eq_true rfl)) w_1310 w_1311 w_1312 dX8_put_54
theorem s_X8_put_57 {X : ev_E} {l : Launch} (hG : ev_Good X) (hl : l.stackTraces = false) : ev_Snd X l ev_ms x_X8_put tx_X8_put 57 (i_is 5 59) := s_istore dX8_put_57 (Nat.le_of_ble_eq_true rfl)
theorem s_X8_put_59 {X : ev_E} {l : Launch} (hG : ev_Good X) (hl : l.stackTraces = false) : ev_Snd X l ev_ms x_X8_put tx_X8_put 59 (i_il 5 61) := s_iload dX8_put_59
theorem s_X8_put_61 {X : ev_E} {l : Launch} (hG : ev_Good X) (hl : l.stackTraces = false) : ev_Snd X l ev_ms x_X8_put tx_X8_put 61 (i_psh (.int (-1)) 62) := s_iconst dX8_put_61 rfl
theorem s_X8_put_62 {X : ev_E} {l : Launch} (hG : ev_Good X) (hl : l.stackTraces = false) : ev_Snd X l ev_ms x_X8_put tx_X8_put 62 (i_iceq 108 65) := s_iceq dX8_put_62 rfl
theorem s_X8_put_65 {X : ev_E} {l : Launch} (hG : ev_Good X) (hl : l.stackTraces = false) : ev_Snd X l ev_ms x_X8_put tx_X8_put 65 (i_al 4 67) := s_aload dX8_put_65
theorem s_X8_put_67 {X : ev_E} {l : Launch} (hG : ev_Good X) (hl : l.stackTraces = false) : ev_Snd X l ev_ms x_X8_put tx_X8_put 67 (i_gf X 12 0 70) := s_getfield hG (ci := 12) (r := (RX7, TX7, 9)) rfl cw_12 (k := 0) (Nat.le_of_ble_eq_true rfl) w_1222 rfl (Or.inl rfl) dX8_put_67
theorem s_X8_put_70 {X : ev_E} {l : Launch} (hG : ev_Good X) (hl : l.stackTraces = false) : ev_Snd X l ev_ms x_X8_put tx_X8_put 70 (i_il 5 72) := s_iload dX8_put_70
theorem s_X8_put_72 {X : ev_E} {l : Launch} (hG : ev_Good X) (hl : l.stackTraces = false) : ev_Snd X l ev_ms x_X8_put tx_X8_put 72 (i_cV X 129 1 4 2 75) := s_invokevirtual hG (mi := 129) (n := 1) (ci := 4) (r := (RJx4a65c, TJx4a65c, 3)) rfl (cal_Jx4a65c_get_915e3 (Nat.le_of_ble_eq_true rfl)) w_1328 w_1316 w_1317 dX8_put_72
theorem s_X8_put_75 {X : ev_E} {l : Launch} (hG : ev_Good X) (hl : l.stackTraces = false) : ev_Snd X l ev_ms x_X8_put tx_X8_put 75 (i_cca 0 78) := s_castA hG (kd := 0) (Nat.le_of_ble_eq_true rfl) (by decide +kernel) w_1329 dX8_put_75
theorem s_X8_put_78 {X : ev_E} {l : Launch} (hG : ev_Good X) (hl : l.stackTraces = false) : ev_Snd X l ev_ms x_X8_put tx_X8_put 78 (i_psh (.int (1)) 79) := s_iconst dX8_put_78 rfl
theorem s_X8_put_79 {X : ev_E} {l : Launch} (hG : ev_Good X) (hl : l.stackTraces = false) : ev_Snd X l ev_ms x_X8_put tx_X8_put 79 (i_ald X ev_tI 80) := s_iaload hG dX8_put_79
theorem s_X8_put_80 {X : ev_E} {l : Launch} (hG : ev_Good X) (hl : l.stackTraces = false) : ev_Snd X l ev_ms x_X8_put tx_X8_put 80 (i_is 6 82) := s_istore dX8_put_80 (Nat.le_of_ble_eq_true rfl)
theorem s_X8_put_82 {X : ev_E} {l : Launch} (hG : ev_Good X) (hl : l.stackTraces = false) : ev_Snd X l ev_ms x_X8_put tx_X8_put 82 (i_al 4 84) := s_aload dX8_put_82
theorem s_X8_put_84 {X : ev_E} {l : Launch} (hG : ev_Good X) (hl : l.stackTraces = false) : ev_Snd X l ev_ms x_X8_put tx_X8_put 84 (i_gf X 12 0 87) := s_getfield hG (ci := 12) (r := (RX7, TX7, 9)) rfl cw_12 (k := 0) (Nat.le_of_ble_eq_true rfl) w_1222 rfl (Or.inl rfl) dX8_put_84
theorem s_X8_put_87 {X : ev_E} {l : Launch} (hG : ev_Good X) (hl : l.stackTraces = false) : ev_Snd X l ev_ms x_X8_put tx_X8_put 87 (i_il 5 89) := s_iload dX8_put_87
theorem s_X8_put_89 {X : ev_E} {l : Launch} (hG : ev_Good X) (hl : l.stackTraces = false) : ev_Snd X l ev_ms x_X8_put tx_X8_put 89 (i_cV X 129 1 4 2 92) := s_invokevirtual hG (mi := 129) (n := 1) (ci := 4) (r := (RJx4a65c, TJx4a65c, 3)) rfl (cal_Jx4a65c_get_915e3 (Nat.le_of_ble_eq_true rfl)) w_1328 w_1316 w_1317 dX8_put_89
theorem s_X8_put_92 {X : ev_E} {l : Launch} (hG : ev_Good X) (hl : l.stackTraces = false) : ev_Snd X l ev_ms x_X8_put tx_X8_put 92 (i_cca 0 95) := s_castA hG (kd := 0) (Nat.le_of_ble_eq_true rfl) (by decide +kernel) w_1329 dX8_put_92
theorem s_X8_put_95 {X : ev_E} {l : Launch} (hG : ev_Good X) (hl : l.stackTraces = false) : ev_Snd X l ev_ms x_X8_put tx_X8_put 95 (i_psh (.int (1)) 96) := s_iconst dX8_put_95 rfl
theorem s_X8_put_96 {X : ev_E} {l : Launch} (hG : ev_Good X) (hl : l.stackTraces = false) : ev_Snd X l ev_ms x_X8_put tx_X8_put 96 (i_il 3 97) := s_iload_n dX8_put_96 rfl
theorem s_X8_put_97 {X : ev_E} {l : Launch} (hG : ev_Good X) (hl : l.stackTraces = false) : ev_Snd X l ev_ms x_X8_put tx_X8_put 97 (i_ast ev_tI (fun v => v) 98) := s_iastore hG dX8_put_97
theorem s_X8_put_98 {X : ev_E} {l : Launch} (hG : ev_Good X) (hl : l.stackTraces = false) : ev_Snd X l ev_ms x_X8_put tx_X8_put 98 (i_al 4 100) := s_aload dX8_put_98
theorem s_X8_put_100 {X : ev_E} {l : Launch} (hG : ev_Good X) (hl : l.stackTraces = false) : ev_Snd X l ev_ms x_X8_put tx_X8_put 100 (i_il 5 102) := s_iload dX8_put_100
theorem s_X8_put_102 {X : ev_E} {l : Launch} (hG : ev_Good X) (hl : l.stackTraces = false) : ev_Snd X l ev_ms x_X8_put tx_X8_put 102 (i_cV X 278 1 12 2 105) := s_invokevirtual hG (mi := 278) (n := 1) (ci := 12) (r := (RX7, TX7, 9)) rfl (cal_X7_asked (Nat.le_of_ble_eq_true rfl)) w_1330 w_1331 w_1332 dX8_put_102
theorem s_X8_put_105 {X : ev_E} {l : Launch} (hG : ev_Good X) (hl : l.stackTraces = false) : ev_Snd X l ev_ms x_X8_put tx_X8_put 105 (i_il 6 107) := s_iload dX8_put_105
theorem s_X8_put_107 {X : ev_E} {l : Launch} (hG : ev_Good X) (hl : l.stackTraces = false) : ev_Snd X l ev_ms x_X8_put tx_X8_put 107 (i_ir (.int)) := s_ireturn rfl dX8_put_107
theorem s_X8_put_108 {X : ev_E} {l : Launch} (hG : ev_Good X) (hl : l.stackTraces = false) : ev_Snd X l ev_ms x_X8_put tx_X8_put 108 (i_al 4 110) := s_aload dX8_put_108
theorem s_X8_put_110 {X : ev_E} {l : Launch} (hG : ev_Good X) (hl : l.stackTraces = false) : ev_Snd X l ev_ms x_X8_put tx_X8_put 110 (i_gf X 12 0 113) := s_getfield hG (ci := 12) (r := (RX7, TX7, 9)) rfl cw_12 (k := 0) (Nat.le_of_ble_eq_true rfl) w_1222 rfl (Or.inl rfl) dX8_put_110
theorem s_X8_put_113 {X : ev_E} {l : Launch} (hG : ev_Good X) (hl : l.stackTraces = false) : ev_Snd X l ev_ms x_X8_put tx_X8_put 113 (i_psh (.int (2)) 114) := s_iconst dX8_put_113 rfl
theorem s_X8_put_114 {X : ev_E} {l : Launch} (hG : ev_Good X) (hl : l.stackTraces = false) : ev_Snd X l ev_ms x_X8_put tx_X8_put 114 (i_na 0 (.int 0) 116) := s_newarray hG (kd := 0) (at' := .int) (Nat.le_of_ble_eq_true rfl) rfl (by decide) rfl dX8_put_114 w_120
theorem s_X8_put_116 {X : ev_E} {l : Launch} (hG : ev_Good X) (hl : l.stackTraces = false) : ev_Snd X l ev_ms x_X8_put tx_X8_put 116 (i_dup 117) := s_dup dX8_put_116
theorem s_X8_put_117 {X : ev_E} {l : Launch} (hG : ev_Good X) (hl : l.stackTraces = false) : ev_Snd X l ev_ms x_X8_put tx_X8_put 117 (i_psh (.int (0)) 118) := s_iconst dX8_put_117 rfl
theorem s_X8_put_118 {X : ev_E} {l : Launch} (hG : ev_Good X) (hl : l.stackTraces = false) : ev_Snd X l ev_ms x_X8_put tx_X8_put 118 (i_il 2 119) := s_iload_n dX8_put_118 rfl
theorem s_X8_put_119 {X : ev_E} {l : Launch} (hG : ev_Good X) (hl : l.stackTraces = false) : ev_Snd X l ev_ms x_X8_put tx_X8_put 119 (i_ast ev_tI (fun v => v) 120) := s_iastore hG dX8_put_119
theorem s_X8_put_120 {X : ev_E} {l : Launch} (hG : ev_Good X) (hl : l.stackTraces = false) : ev_Snd X l ev_ms x_X8_put tx_X8_put 120 (i_dup 121) := s_dup dX8_put_120
theorem s_X8_put_121 {X : ev_E} {l : Launch} (hG : ev_Good X) (hl : l.stackTraces = false) : ev_Snd X l ev_ms x_X8_put tx_X8_put 121 (i_psh (.int (1)) 122) := s_iconst dX8_put_121 rfl
theorem s_X8_put_122 {X : ev_E} {l : Launch} (hG : ev_Good X) (hl : l.stackTraces = false) : ev_Snd X l ev_ms x_X8_put tx_X8_put 122 (i_il 3 123) := s_iload_n dX8_put_122 rfl
theorem s_X8_put_123 {X : ev_E} {l : Launch} (hG : ev_Good X) (hl : l.stackTraces = false) : ev_Snd X l ev_ms x_X8_put tx_X8_put 123 (i_ast ev_tI (fun v => v) 124) := s_iastore hG dX8_put_123
theorem s_X8_put_124 {X : ev_E} {l : Launch} (hG : ev_Good X) (hl : l.stackTraces = false) : ev_Snd X l ev_ms x_X8_put tx_X8_put 124 (i_cV X 262 1 4 2 127) := s_invokevirtual hG (mi := 262) (n := 1) (ci := 4) (r := (RJx4a65c, TJx4a65c, 3)) rfl (cal_Jx4a65c_add_9ea2d (Nat.le_of_ble_eq_true rfl)) w_1392 w_1344 w_1345 dX8_put_124
theorem s_X8_put_127 {X : ev_E} {l : Launch} (hG : ev_Good X) (hl : l.stackTraces = false) : ev_Snd X l ev_ms x_X8_put tx_X8_put 127 (i_pop 128) := s_pop dX8_put_127
theorem s_X8_put_128 {X : ev_E} {l : Launch} (hG : ev_Good X) (hl : l.stackTraces = false) : ev_Snd X l ev_ms x_X8_put tx_X8_put 128 (i_al 4 130) := s_aload dX8_put_128
theorem s_X8_put_130 {X : ev_E} {l : Launch} (hG : ev_Good X) (hl : l.stackTraces = false) : ev_Snd X l ev_ms x_X8_put tx_X8_put 130 (i_gf X 12 2 133) := s_getfield hG (ci := 12) (r := (RX7, TX7, 9)) rfl cw_12 (k := 2) (Nat.le_of_ble_eq_true rfl) w_1226 rfl (Or.inl rfl) dX8_put_130
theorem s_X8_put_133 {X : ev_E} {l : Launch} (hG : ev_Good X) (hl : l.stackTraces = false) : ev_Snd X l ev_ms x_X8_put tx_X8_put 133 (i_psh (.int (-1)) 134) := s_iconst dX8_put_133 rfl
theorem s_X8_put_134 {X : ev_E} {l : Launch} (hG : ev_Good X) (hl : l.stackTraces = false) : ev_Snd X l ev_ms x_X8_put tx_X8_put 134 (i_iceq 183 137) := s_iceq dX8_put_134 rfl
theorem s_X8_put_137 {X : ev_E} {l : Launch} (hG : ev_Good X) (hl : l.stackTraces = false) : ev_Snd X l ev_ms x_X8_put tx_X8_put 137 (i_al 4 139) := s_aload dX8_put_137
theorem s_X8_put_139 {X : ev_E} {l : Launch} (hG : ev_Good X) (hl : l.stackTraces = false) : ev_Snd X l ev_ms x_X8_put tx_X8_put 139 (i_gf X 12 0 142) := s_getfield hG (ci := 12) (r := (RX7, TX7, 9)) rfl cw_12 (k := 0) (Nat.le_of_ble_eq_true rfl) w_1222 rfl (Or.inl rfl) dX8_put_139
theorem s_X8_put_142 {X : ev_E} {l : Launch} (hG : ev_Good X) (hl : l.stackTraces = false) : ev_Snd X l ev_ms x_X8_put tx_X8_put 142 (i_cV X 24 0 4 1 145) := s_invokevirtual hG (mi := 24) (n := 0) (ci := 4) (r := (RJx4a65c, TJx4a65c, 3)) rfl (cal_Jx4a65c_size_8abf5 (Nat.le_of_ble_eq_true rfl)) w_1294 w_1295 w_1296 dX8_put_142
theorem s_X8_put_145 {X : ev_E} {l : Launch} (hG : ev_Good X) (hl : l.stackTraces = false) : ev_Snd X l ev_ms x_X8_put tx_X8_put 145 (i_al 4 147) := s_aload dX8_put_145
theorem s_X8_put_147 {X : ev_E} {l : Launch} (hG : ev_Good X) (hl : l.stackTraces = false) : ev_Snd X l ev_ms x_X8_put tx_X8_put 147 (i_gf X 12 2 150) := s_getfield hG (ci := 12) (r := (RX7, TX7, 9)) rfl cw_12 (k := 2) (Nat.le_of_ble_eq_true rfl) w_1226 rfl (Or.inl rfl) dX8_put_147
theorem s_X8_put_150 {X : ev_E} {l : Launch} (hG : ev_Good X) (hl : l.stackTraces = false) : ev_Snd X l ev_ms x_X8_put tx_X8_put 150 (i_icle 183 153) := s_icle dX8_put_150 rfl
theorem s_X8_put_153 {X : ev_E} {l : Launch} (hG : ev_Good X) (hl : l.stackTraces = false) : ev_Snd X l ev_ms x_X8_put tx_X8_put 153 (i_al 4 155) := s_aload dX8_put_153
theorem s_X8_put_155 {X : ev_E} {l : Launch} (hG : ev_Good X) (hl : l.stackTraces = false) : ev_Snd X l ev_ms x_X8_put tx_X8_put 155 (i_dup 156) := s_dup dX8_put_155
theorem s_X8_put_156 {X : ev_E} {l : Launch} (hG : ev_Good X) (hl : l.stackTraces = false) : ev_Snd X l ev_ms x_X8_put tx_X8_put 156 (i_gf X 12 3 159) := s_getfield hG (ci := 12) (r := (RX7, TX7, 9)) rfl cw_12 (k := 3) (Nat.le_of_ble_eq_true rfl) w_1228 rfl (Or.inl rfl) dX8_put_156
theorem s_X8_put_159 {X : ev_E} {l : Launch} (hG : ev_Good X) (hl : l.stackTraces = false) : ev_Snd X l ev_ms x_X8_put tx_X8_put 159 (i_psh (.int (1)) 160) := s_iconst dX8_put_159 rfl
theorem s_X8_put_160 {X : ev_E} {l : Launch} (hG : ev_Good X) (hl : l.stackTraces = false) : ev_Snd X l ev_ms x_X8_put tx_X8_put 160 (i_ii (fun a b => a + b) 161) := s_iadd dX8_put_160
theorem s_X8_put_161 {X : ev_E} {l : Launch} (hG : ev_Good X) (hl : l.stackTraces = false) : ev_Snd X l ev_ms x_X8_put tx_X8_put 161 (i_pf 12 3 (.int) 164) := s_putfield hG (ci := 12) (r := (RX7, TX7, 9)) rfl cw_12 ap_12 (k := 3) (Nat.le_of_ble_eq_true rfl) rfl (by decide +kernel) w_1228 rfl (Or.inl rfl) dX8_put_161
theorem s_X8_put_164 {X : ev_E} {l : Launch} (hG : ev_Good X) (hl : l.stackTraces = false) : ev_Snd X l ev_ms x_X8_put tx_X8_put 164 (i_al 4 166) := s_aload dX8_put_164
theorem s_X8_put_166 {X : ev_E} {l : Launch} (hG : ev_Good X) (hl : l.stackTraces = false) : ev_Snd X l ev_ms x_X8_put tx_X8_put 166 (i_al 4 168) := s_aload dX8_put_166
theorem s_X8_put_168 {X : ev_E} {l : Launch} (hG : ev_Good X) (hl : l.stackTraces = false) : ev_Snd X l ev_ms x_X8_put tx_X8_put 168 (i_gf X 12 0 171) := s_getfield hG (ci := 12) (r := (RX7, TX7, 9)) rfl cw_12 (k := 0) (Nat.le_of_ble_eq_true rfl) w_1222 rfl (Or.inl rfl) dX8_put_168
theorem s_X8_put_171 {X : ev_E} {l : Launch} (hG : ev_Good X) (hl : l.stackTraces = false) : ev_Snd X l ev_ms x_X8_put tx_X8_put 171 (i_psh (.int (0)) 172) := s_iconst dX8_put_171 rfl
theorem s_X8_put_172 {X : ev_E} {l : Launch} (hG : ev_Good X) (hl : l.stackTraces = false) : ev_Snd X l ev_ms x_X8_put tx_X8_put 172 (i_cV X 131 1 4 4 175) := s_invokevirtual hG (mi := 131) (n := 1) (ci := 4) (r := (RJx4a65c, TJx4a65c, 3)) rfl (cal_Jx4a65c_remove_915e3 (Nat.le_of_ble_eq_true rfl)) w_1393 w_1335 w_1336 dX8_put_172
theorem s_X8_put_175 {X : ev_E} {l : Launch} (hG : ev_Good X) (hl : l.stackTraces = false) : ev_Snd X l ev_ms x_X8_put tx_X8_put 175 (i_cca 0 178) := s_castA hG (kd := 0) (Nat.le_of_ble_eq_true rfl) (by decide +kernel) w_1329 dX8_put_175
theorem s_X8_put_178 {X : ev_E} {l : Launch} (hG : ev_Good X) (hl : l.stackTraces = false) : ev_Snd X l ev_ms x_X8_put tx_X8_put 178 (i_psh (.int (0)) 179) := s_iconst dX8_put_178 rfl
theorem s_X8_put_179 {X : ev_E} {l : Launch} (hG : ev_Good X) (hl : l.stackTraces = false) : ev_Snd X l ev_ms x_X8_put tx_X8_put 179 (i_ald X ev_tI 180) := s_iaload hG dX8_put_179
theorem s_X8_put_180 {X : ev_E} {l : Launch} (hG : ev_Good X) (hl : l.stackTraces = false) : ev_Snd X l ev_ms x_X8_put tx_X8_put 180 (i_pf 12 4 (.int) 183) := s_putfield hG (ci := 12) (r := (RX7, TX7, 9)) rfl cw_12 ap_12 (k := 4) (Nat.le_of_ble_eq_true rfl) rfl (by decide +kernel) w_1230 rfl (Or.inl rfl) dX8_put_180
theorem s_X8_put_183 {X : ev_E} {l : Launch} (hG : ev_Good X) (hl : l.stackTraces = false) : ev_Snd X l ev_ms x_X8_put tx_X8_put 183 (i_psh (.int (-1)) 184) := s_iconst dX8_put_183 rfl
theorem s_X8_put_184 {X : ev_E} {l : Launch} (hG : ev_Good X) (hl : l.stackTraces = false) : ev_Snd X l ev_ms x_X8_put tx_X8_put 184 (i_ir (.int)) := s_ireturn rfl dX8_put_184
theorem sa_X8_put_c0 {X : ev_E} {l : Launch} (hG : ev_Good X) (hl : l.stackTraces = false) : ∀ q ∈ tb_X8_put_c0 X, ev_Snd X l ev_ms x_X8_put tx_X8_put q.1 q.2 := by
  intro q hq
  unfold tb_X8_put_c0 at hq
  simp only [List.mem_cons, List.not_mem_nil, or_false] at hq
  rcases hq with rfl | rfl | rfl | rfl | rfl | rfl | rfl | rfl | rfl | rfl | rfl | rfl | rfl | rfl | rfl | rfl | rfl | rfl | rfl | rfl | rfl | rfl | rfl | rfl | rfl | rfl | rfl | rfl | rfl | rfl | rfl | rfl | rfl | rfl | rfl | rfl | rfl | rfl | rfl | rfl | rfl | rfl | rfl | rfl | rfl | rfl | rfl | rfl | rfl | rfl | rfl | rfl | rfl | rfl | rfl | rfl | rfl | rfl | rfl | rfl
  · exact s_X8_put_0 hG hl
  · exact s_X8_put_1 hG hl
  · exact s_X8_put_2 hG hl
  · exact s_X8_put_5 hG hl
  · exact s_X8_put_6 hG hl
  · exact s_X8_put_8 hG hl
  · exact s_X8_put_11 hG hl
  · exact s_X8_put_14 hG hl
  · exact s_X8_put_15 hG hl
  · exact s_X8_put_17 hG hl
  · exact s_X8_put_20 hG hl
  · exact s_X8_put_23 hG hl
  · exact s_X8_put_24 hG hl
  · exact s_X8_put_27 hG hl
  · exact s_X8_put_28 hG hl
  · exact s_X8_put_29 hG hl
  · exact s_X8_put_32 hG hl
  · exact s_X8_put_35 hG hl
  · exact s_X8_put_36 hG hl
  · exact s_X8_put_37 hG hl
  · exact s_X8_put_38 hG hl
  · exact s_X8_put_41 hG hl
  · exact s_X8_put_42 hG hl
  · exact s_X8_put_43 hG hl
  · exact s_X8_put_45 hG hl
  · exact s_X8_put_47 hG hl
  · exact s_X8_put_48 hG hl
  · exact s_X8_put_51 hG hl
  · exact s_X8_put_53 hG hl
  · exact s_X8_put_54 hG hl
  · exact s_X8_put_57 hG hl
  · exact s_X8_put_59 hG hl
  · exact s_X8_put_61 hG hl
  · exact s_X8_put_62 hG hl
  · exact s_X8_put_65 hG hl
  · exact s_X8_put_67 hG hl
  · exact s_X8_put_70 hG hl
  · exact s_X8_put_72 hG hl
  · exact s_X8_put_75 hG hl
  · exact s_X8_put_78 hG hl
  · exact s_X8_put_79 hG hl
  · exact s_X8_put_80 hG hl
  · exact s_X8_put_82 hG hl
  · exact s_X8_put_84 hG hl
  · exact s_X8_put_87 hG hl
  · exact s_X8_put_89 hG hl
  · exact s_X8_put_92 hG hl
  · exact s_X8_put_95 hG hl
  · exact s_X8_put_96 hG hl
  · exact s_X8_put_97 hG hl
  · exact s_X8_put_98 hG hl
  · exact s_X8_put_100 hG hl
  · exact s_X8_put_102 hG hl
  · exact s_X8_put_105 hG hl
  · exact s_X8_put_107 hG hl
  · exact s_X8_put_108 hG hl
  · exact s_X8_put_110 hG hl
  · exact s_X8_put_113 hG hl
  · exact s_X8_put_114 hG hl
  · exact s_X8_put_116 hG hl
theorem sa_X8_put_c1 {X : ev_E} {l : Launch} (hG : ev_Good X) (hl : l.stackTraces = false) : ∀ q ∈ tb_X8_put_c1 X, ev_Snd X l ev_ms x_X8_put tx_X8_put q.1 q.2 := by
  intro q hq
  unfold tb_X8_put_c1 at hq
  simp only [List.mem_cons, List.not_mem_nil, or_false] at hq
  rcases hq with rfl | rfl | rfl | rfl | rfl | rfl | rfl | rfl | rfl | rfl | rfl | rfl | rfl | rfl | rfl | rfl | rfl | rfl | rfl | rfl | rfl | rfl | rfl | rfl | rfl | rfl | rfl | rfl | rfl | rfl | rfl | rfl | rfl | rfl | rfl | rfl
  · exact s_X8_put_117 hG hl
  · exact s_X8_put_118 hG hl
  · exact s_X8_put_119 hG hl
  · exact s_X8_put_120 hG hl
  · exact s_X8_put_121 hG hl
  · exact s_X8_put_122 hG hl
  · exact s_X8_put_123 hG hl
  · exact s_X8_put_124 hG hl
  · exact s_X8_put_127 hG hl
  · exact s_X8_put_128 hG hl
  · exact s_X8_put_130 hG hl
  · exact s_X8_put_133 hG hl
  · exact s_X8_put_134 hG hl
  · exact s_X8_put_137 hG hl
  · exact s_X8_put_139 hG hl
  · exact s_X8_put_142 hG hl
  · exact s_X8_put_145 hG hl
  · exact s_X8_put_147 hG hl
  · exact s_X8_put_150 hG hl
  · exact s_X8_put_153 hG hl
  · exact s_X8_put_155 hG hl
  · exact s_X8_put_156 hG hl
  · exact s_X8_put_159 hG hl
  · exact s_X8_put_160 hG hl
  · exact s_X8_put_161 hG hl
  · exact s_X8_put_164 hG hl
  · exact s_X8_put_166 hG hl
  · exact s_X8_put_168 hG hl
  · exact s_X8_put_171 hG hl
  · exact s_X8_put_172 hG hl
  · exact s_X8_put_175 hG hl
  · exact s_X8_put_178 hG hl
  · exact s_X8_put_179 hG hl
  · exact s_X8_put_180 hG hl
  · exact s_X8_put_183 hG hl
  · exact s_X8_put_184 hG hl
theorem sa_X8_put {X : ev_E} {l : Launch} (hG : ev_Good X) (hl : l.stackTraces = false) : ∀ q ∈ tb_X8_put X, ev_Snd X l ev_ms x_X8_put tx_X8_put q.1 q.2 := List.forall_mem_append.mpr ⟨sa_X8_put_c0 hG hl, sa_X8_put_c1 hG hl⟩
def tx_X8_putIfAbsent : ev_X := fun _ _ => some none
noncomputable def tb_X8_putIfAbsent_c0 (X : ev_E) : List (Nat × (ev_S → ev_N)) := [(0, i_al 0 1), (1, i_il 1 2), (2, i_cS 118 1 1 5), (5, i_il 2 6), (6, i_psh (.int (20)) 8), (8, i_cS 65 2 2 11), (11, i_ifne 23 14), (14, i_il 3 15), (15, i_psh (.int (100)) 17), (17, i_cS 65 2 2 20), (20, i_ifeq 27 23), (23, i_psh (.int (1)) 24), (24, i_goto 28), (27, i_psh (.int (0)) 28), (28, i_il 1 29), (29, i_cS 118 1 1 32), (32, i_ifne 52 35), (35, i_al 0 36), (36, i_gf X 13 3 39), (39, i_il 1 40), (40, i_ald X FieldType.isReference 41), (41, i_gf X 12 2 44), (44, i_psh (.int (-1)) 45), (45, i_iceq 52 48), (48, i_psh (.int (1)) 49), (49, i_goto 53), (52, i_psh (.int (0)) 53), (53, i_cV X 63 3 13 4 56), (56, i_ifeq 61 59), (59, i_psh (.int (0)) 60), (60, i_ir (.int)), (61, i_al 0 62), (62, i_gf X 13 3 65), (65, i_il 1 66), (66, i_ald X FieldType.isReference 67), (67, i_as 4 69), (69, i_al 4 71), (71, i_psh (.int (1)) 72), (72, i_pf 12 8 (.boolean) 75), (75, i_al 4 77), (77, i_il 2 78), (78, i_cV X 208 1 12 3 81), (81, i_is 5 83), (83, i_il 5 85), (85, i_psh (.int (-1)) 86), (86, i_icne 111 89), (89, i_al 4 91), (91, i_gf X 12 0 94), (94, i_psh (.int (2)) 95), (95, i_na 0 (.int 0) 97), (97, i_dup 98), (98, i_psh (.int (0)) 99), (99, i_il 2 100), (100, i_ast ev_tI (fun v => v) 101), (101, i_dup 102), (102, i_psh (.int (1)) 103), (103, i_il 3 104), (104, i_ast ev_tI (fun v => v) 105), (105, i_cV X 262 1 4 2 108), (108, i_pop 109)]
noncomputable def tb_X8_putIfAbsent_c1 (X : ev_E) : List (Nat × (ev_S → ev_N)) := [(109, i_psh (.int (-1)) 110), (110, i_ir (.int)), (111, i_al 4 113), (113, i_gf X 12 0 116), (116, i_il 5 118), (118, i_cV X 129 1 4 2 121), (121, i_cca 0 124), (124, i_psh (.int (1)) 125), (125, i_ald X ev_tI 126), (126, i_is 6 128), (128, i_al 4 130), (130, i_il 5 132), (132, i_cV X 278 1 12 2 135), (135, i_il 6 137), (137, i_ir (.int))]
noncomputable def tb_X8_putIfAbsent (X : ev_E) : List (Nat × (ev_S → ev_N)) := tb_X8_putIfAbsent_c0 X ++ (tb_X8_putIfAbsent_c1 X)
theorem s_X8_putIfAbsent_0 {X : ev_E} {l : Launch} (hG : ev_Good X) (hl : l.stackTraces = false) : ev_Snd X l ev_ms x_X8_putIfAbsent tx_X8_putIfAbsent 0 (i_al 0 1) := s_aload_n dX8_putIfAbsent_0 rfl
theorem s_X8_putIfAbsent_1 {X : ev_E} {l : Launch} (hG : ev_Good X) (hl : l.stackTraces = false) : ev_Snd X l ev_ms x_X8_putIfAbsent tx_X8_putIfAbsent 1 (i_il 1 2) := s_iload_n dX8_putIfAbsent_1 rfl
theorem s_X8_putIfAbsent_2 {X : ev_E} {l : Launch} (hG : ev_Good X) (hl : l.stackTraces = false) : ev_Snd X l ev_ms x_X8_putIfAbsent tx_X8_putIfAbsent 2 (i_cS 118 1 1 5) := s_invokestatic hG (mi := 118) (n := 1) (cal_X8_isNo (Nat.le_of_ble_eq_true rfl)) w_1284 w_1285 dX8_putIfAbsent_2
theorem s_X8_putIfAbsent_5 {X : ev_E} {l : Launch} (hG : ev_Good X) (hl : l.stackTraces = false) : ev_Snd X l ev_ms x_X8_putIfAbsent tx_X8_putIfAbsent 5 (i_il 2 6) := s_iload_n dX8_putIfAbsent_5 rfl
theorem s_X8_putIfAbsent_6 {X : ev_E} {l : Launch} (hG : ev_Good X) (hl : l.stackTraces = false) : ev_Snd X l ev_ms x_X8_putIfAbsent tx_X8_putIfAbsent 6 (i_psh (.int (20)) 8) := s_bipush dX8_putIfAbsent_6 rfl
theorem s_X8_putIfAbsent_8 {X : ev_E} {l : Launch} (hG : ev_Good X) (hl : l.stackTraces = false) : ev_Snd X l ev_ms x_X8_putIfAbsent tx_X8_putIfAbsent 8 (i_cS 65 2 2 11) := s_invokestatic hG (mi := 65) (n := 2) (cal_X8_isOut (Nat.le_of_ble_eq_true rfl)) w_1287 w_1288 dX8_putIfAbsent_8
theorem s_X8_putIfAbsent_11 {X : ev_E} {l : Launch} (hG : ev_Good X) (hl : l.stackTraces = false) : ev_Snd X l ev_ms x_X8_putIfAbsent tx_X8_putIfAbsent 11 (i_ifne 23 14) := s_ifne dX8_putIfAbsent_11 rfl
theorem s_X8_putIfAbsent_14 {X : ev_E} {l : Launch} (hG : ev_Good X) (hl : l.stackTraces = false) : ev_Snd X l ev_ms x_X8_putIfAbsent tx_X8_putIfAbsent 14 (i_il 3 15) := s_iload_n dX8_putIfAbsent_14 rfl
theorem s_X8_putIfAbsent_15 {X : ev_E} {l : Launch} (hG : ev_Good X) (hl : l.stackTraces = false) : ev_Snd X l ev_ms x_X8_putIfAbsent tx_X8_putIfAbsent 15 (i_psh (.int (100)) 17) := s_bipush dX8_putIfAbsent_15 rfl
theorem s_X8_putIfAbsent_17 {X : ev_E} {l : Launch} (hG : ev_Good X) (hl : l.stackTraces = false) : ev_Snd X l ev_ms x_X8_putIfAbsent tx_X8_putIfAbsent 17 (i_cS 65 2 2 20) := s_invokestatic hG (mi := 65) (n := 2) (cal_X8_isOut (Nat.le_of_ble_eq_true rfl)) w_1287 w_1288 dX8_putIfAbsent_17
theorem s_X8_putIfAbsent_20 {X : ev_E} {l : Launch} (hG : ev_Good X) (hl : l.stackTraces = false) : ev_Snd X l ev_ms x_X8_putIfAbsent tx_X8_putIfAbsent 20 (i_ifeq 27 23) := s_ifeq dX8_putIfAbsent_20 rfl
theorem s_X8_putIfAbsent_23 {X : ev_E} {l : Launch} (hG : ev_Good X) (hl : l.stackTraces = false) : ev_Snd X l ev_ms x_X8_putIfAbsent tx_X8_putIfAbsent 23 (i_psh (.int (1)) 24) := s_iconst dX8_putIfAbsent_23 rfl
theorem s_X8_putIfAbsent_24 {X : ev_E} {l : Launch} (hG : ev_Good X) (hl : l.stackTraces = false) : ev_Snd X l ev_ms x_X8_putIfAbsent tx_X8_putIfAbsent 24 (i_goto 28) := s_goto dX8_putIfAbsent_24 rfl
theorem s_X8_putIfAbsent_27 {X : ev_E} {l : Launch} (hG : ev_Good X) (hl : l.stackTraces = false) : ev_Snd X l ev_ms x_X8_putIfAbsent tx_X8_putIfAbsent 27 (i_psh (.int (0)) 28) := s_iconst dX8_putIfAbsent_27 rfl
theorem s_X8_putIfAbsent_28 {X : ev_E} {l : Launch} (hG : ev_Good X) (hl : l.stackTraces = false) : ev_Snd X l ev_ms x_X8_putIfAbsent tx_X8_putIfAbsent 28 (i_il 1 29) := s_iload_n dX8_putIfAbsent_28 rfl
theorem s_X8_putIfAbsent_29 {X : ev_E} {l : Launch} (hG : ev_Good X) (hl : l.stackTraces = false) : ev_Snd X l ev_ms x_X8_putIfAbsent tx_X8_putIfAbsent 29 (i_cS 118 1 1 32) := s_invokestatic hG (mi := 118) (n := 1) (cal_X8_isNo (Nat.le_of_ble_eq_true rfl)) w_1284 w_1285 dX8_putIfAbsent_29
theorem s_X8_putIfAbsent_32 {X : ev_E} {l : Launch} (hG : ev_Good X) (hl : l.stackTraces = false) : ev_Snd X l ev_ms x_X8_putIfAbsent tx_X8_putIfAbsent 32 (i_ifne 52 35) := s_ifne dX8_putIfAbsent_32 rfl
theorem s_X8_putIfAbsent_35 {X : ev_E} {l : Launch} (hG : ev_Good X) (hl : l.stackTraces = false) : ev_Snd X l ev_ms x_X8_putIfAbsent tx_X8_putIfAbsent 35 (i_al 0 36) := s_aload_n dX8_putIfAbsent_35 rfl
theorem s_X8_putIfAbsent_36 {X : ev_E} {l : Launch} (hG : ev_Good X) (hl : l.stackTraces = false) : ev_Snd X l ev_ms x_X8_putIfAbsent tx_X8_putIfAbsent 36 (i_gf X 13 3 39) := s_getfield hG (ci := 13) (r := (RX8, TX8, 5)) rfl cw_13 (k := 3) (Nat.le_of_ble_eq_true rfl) w_1263 rfl (Or.inl rfl) dX8_putIfAbsent_36
theorem s_X8_putIfAbsent_39 {X : ev_E} {l : Launch} (hG : ev_Good X) (hl : l.stackTraces = false) : ev_Snd X l ev_ms x_X8_putIfAbsent tx_X8_putIfAbsent 39 (i_il 1 40) := s_iload_n dX8_putIfAbsent_39 rfl
theorem s_X8_putIfAbsent_40 {X : ev_E} {l : Launch} (hG : ev_Good X) (hl : l.stackTraces = false) : ev_Snd X l ev_ms x_X8_putIfAbsent tx_X8_putIfAbsent 40 (i_ald X FieldType.isReference 41) := s_aaload hG dX8_putIfAbsent_40
theorem s_X8_putIfAbsent_41 {X : ev_E} {l : Launch} (hG : ev_Good X) (hl : l.stackTraces = false) : ev_Snd X l ev_ms x_X8_putIfAbsent tx_X8_putIfAbsent 41 (i_gf X 12 2 44) := s_getfield hG (ci := 12) (r := (RX7, TX7, 9)) rfl cw_12 (k := 2) (Nat.le_of_ble_eq_true rfl) w_1226 rfl (Or.inl rfl) dX8_putIfAbsent_41
theorem s_X8_putIfAbsent_44 {X : ev_E} {l : Launch} (hG : ev_Good X) (hl : l.stackTraces = false) : ev_Snd X l ev_ms x_X8_putIfAbsent tx_X8_putIfAbsent 44 (i_psh (.int (-1)) 45) := s_iconst dX8_putIfAbsent_44 rfl
theorem s_X8_putIfAbsent_45 {X : ev_E} {l : Launch} (hG : ev_Good X) (hl : l.stackTraces = false) : ev_Snd X l ev_ms x_X8_putIfAbsent tx_X8_putIfAbsent 45 (i_iceq 52 48) := s_iceq dX8_putIfAbsent_45 rfl
theorem s_X8_putIfAbsent_48 {X : ev_E} {l : Launch} (hG : ev_Good X) (hl : l.stackTraces = false) : ev_Snd X l ev_ms x_X8_putIfAbsent tx_X8_putIfAbsent 48 (i_psh (.int (1)) 49) := s_iconst dX8_putIfAbsent_48 rfl
theorem s_X8_putIfAbsent_49 {X : ev_E} {l : Launch} (hG : ev_Good X) (hl : l.stackTraces = false) : ev_Snd X l ev_ms x_X8_putIfAbsent tx_X8_putIfAbsent 49 (i_goto 53) := s_goto dX8_putIfAbsent_49 rfl
theorem s_X8_putIfAbsent_52 {X : ev_E} {l : Launch} (hG : ev_Good X) (hl : l.stackTraces = false) : ev_Snd X l ev_ms x_X8_putIfAbsent tx_X8_putIfAbsent 52 (i_psh (.int (0)) 53) := s_iconst dX8_putIfAbsent_52 rfl
theorem s_X8_putIfAbsent_53 {X : ev_E} {l : Launch} (hG : ev_Good X) (hl : l.stackTraces = false) : ev_Snd X l ev_ms x_X8_putIfAbsent tx_X8_putIfAbsent 53 (i_cV X 63 3 13 4 56) := s_invokevirtual hG (mi := 63) (n := 3) (ci := 13) (r := (RX8, TX8, 5)) rfl (cal_X8_fails (Nat.le_of_ble_eq_true rfl)) w_1290 w_1292 w_22 dX8_putIfAbsent_53
theorem s_X8_putIfAbsent_56 {X : ev_E} {l : Launch} (hG : ev_Good X) (hl : l.stackTraces = false) : ev_Snd X l ev_ms x_X8_putIfAbsent tx_X8_putIfAbsent 56 (i_ifeq 61 59) := s_ifeq dX8_putIfAbsent_56 rfl
theorem s_X8_putIfAbsent_59 {X : ev_E} {l : Launch} (hG : ev_Good X) (hl : l.stackTraces = false) : ev_Snd X l ev_ms x_X8_putIfAbsent tx_X8_putIfAbsent 59 (i_psh (.int (0)) 60) := s_iconst dX8_putIfAbsent_59 rfl
theorem s_X8_putIfAbsent_60 {X : ev_E} {l : Launch} (hG : ev_Good X) (hl : l.stackTraces = false) : ev_Snd X l ev_ms x_X8_putIfAbsent tx_X8_putIfAbsent 60 (i_ir (.int)) := s_ireturn rfl dX8_putIfAbsent_60
theorem s_X8_putIfAbsent_61 {X : ev_E} {l : Launch} (hG : ev_Good X) (hl : l.stackTraces = false) : ev_Snd X l ev_ms x_X8_putIfAbsent tx_X8_putIfAbsent 61 (i_al 0 62) := s_aload_n dX8_putIfAbsent_61 rfl
theorem s_X8_putIfAbsent_62 {X : ev_E} {l : Launch} (hG : ev_Good X) (hl : l.stackTraces = false) : ev_Snd X l ev_ms x_X8_putIfAbsent tx_X8_putIfAbsent 62 (i_gf X 13 3 65) := s_getfield hG (ci := 13) (r := (RX8, TX8, 5)) rfl cw_13 (k := 3) (Nat.le_of_ble_eq_true rfl) w_1263 rfl (Or.inl rfl) dX8_putIfAbsent_62
theorem s_X8_putIfAbsent_65 {X : ev_E} {l : Launch} (hG : ev_Good X) (hl : l.stackTraces = false) : ev_Snd X l ev_ms x_X8_putIfAbsent tx_X8_putIfAbsent 65 (i_il 1 66) := s_iload_n dX8_putIfAbsent_65 rfl
theorem s_X8_putIfAbsent_66 {X : ev_E} {l : Launch} (hG : ev_Good X) (hl : l.stackTraces = false) : ev_Snd X l ev_ms x_X8_putIfAbsent tx_X8_putIfAbsent 66 (i_ald X FieldType.isReference 67) := s_aaload hG dX8_putIfAbsent_66
theorem s_X8_putIfAbsent_67 {X : ev_E} {l : Launch} (hG : ev_Good X) (hl : l.stackTraces = false) : ev_Snd X l ev_ms x_X8_putIfAbsent tx_X8_putIfAbsent 67 (i_as 4 69) := s_astore dX8_putIfAbsent_67 (Nat.le_of_ble_eq_true rfl)
theorem s_X8_putIfAbsent_69 {X : ev_E} {l : Launch} (hG : ev_Good X) (hl : l.stackTraces = false) : ev_Snd X l ev_ms x_X8_putIfAbsent tx_X8_putIfAbsent 69 (i_al 4 71) := s_aload dX8_putIfAbsent_69
theorem s_X8_putIfAbsent_71 {X : ev_E} {l : Launch} (hG : ev_Good X) (hl : l.stackTraces = false) : ev_Snd X l ev_ms x_X8_putIfAbsent tx_X8_putIfAbsent 71 (i_psh (.int (1)) 72) := s_iconst dX8_putIfAbsent_71 rfl
theorem s_X8_putIfAbsent_72 {X : ev_E} {l : Launch} (hG : ev_Good X) (hl : l.stackTraces = false) : ev_Snd X l ev_ms x_X8_putIfAbsent tx_X8_putIfAbsent 72 (i_pf 12 8 (.boolean) 75) := s_putfield hG (ci := 12) (r := (RX7, TX7, 9)) rfl cw_12 ap_12 (k := 8) (Nat.le_of_ble_eq_true rfl) rfl (by decide +kernel) w_1238 rfl (Or.inl rfl) dX8_putIfAbsent_72
theorem s_X8_putIfAbsent_75 {X : ev_E} {l : Launch} (hG : ev_Good X) (hl : l.stackTraces = false) : ev_Snd X l ev_ms x_X8_putIfAbsent tx_X8_putIfAbsent 75 (i_al 4 77) := s_aload dX8_putIfAbsent_75
theorem s_X8_putIfAbsent_77 {X : ev_E} {l : Launch} (hG : ev_Good X) (hl : l.stackTraces = false) : ev_Snd X l ev_ms x_X8_putIfAbsent tx_X8_putIfAbsent 77 (i_il 2 78) := s_iload_n dX8_putIfAbsent_77 rfl
theorem s_X8_putIfAbsent_78 {X : ev_E} {l : Launch} (hG : ev_Good X) (hl : l.stackTraces = false) : ev_Snd X l ev_ms x_X8_putIfAbsent tx_X8_putIfAbsent 78 (i_cV X 208 1 12 3 81) := s_invokevirtual hG (mi := 208) (n := 1) (ci := 12) (r := (RX7, TX7, 9)) rfl (cal_X7_place (Nat.le_of_ble_eq_true rfl)) w_1310 w_1311 w_1312 dX8_putIfAbsent_78
theorem s_X8_putIfAbsent_81 {X : ev_E} {l : Launch} (hG : ev_Good X) (hl : l.stackTraces = false) : ev_Snd X l ev_ms x_X8_putIfAbsent tx_X8_putIfAbsent 81 (i_is 5 83) := s_istore dX8_putIfAbsent_81 (Nat.le_of_ble_eq_true rfl)
theorem s_X8_putIfAbsent_83 {X : ev_E} {l : Launch} (hG : ev_Good X) (hl : l.stackTraces = false) : ev_Snd X l ev_ms x_X8_putIfAbsent tx_X8_putIfAbsent 83 (i_il 5 85) := s_iload dX8_putIfAbsent_83
theorem s_X8_putIfAbsent_85 {X : ev_E} {l : Launch} (hG : ev_Good X) (hl : l.stackTraces = false) : ev_Snd X l ev_ms x_X8_putIfAbsent tx_X8_putIfAbsent 85 (i_psh (.int (-1)) 86) := s_iconst dX8_putIfAbsent_85 rfl
theorem s_X8_putIfAbsent_86 {X : ev_E} {l : Launch} (hG : ev_Good X) (hl : l.stackTraces = false) : ev_Snd X l ev_ms x_X8_putIfAbsent tx_X8_putIfAbsent 86 (i_icne 111 89) := s_icne dX8_putIfAbsent_86 rfl
theorem s_X8_putIfAbsent_89 {X : ev_E} {l : Launch} (hG : ev_Good X) (hl : l.stackTraces = false) : ev_Snd X l ev_ms x_X8_putIfAbsent tx_X8_putIfAbsent 89 (i_al 4 91) := s_aload dX8_putIfAbsent_89
theorem s_X8_putIfAbsent_91 {X : ev_E} {l : Launch} (hG : ev_Good X) (hl : l.stackTraces = false) : ev_Snd X l ev_ms x_X8_putIfAbsent tx_X8_putIfAbsent 91 (i_gf X 12 0 94) := s_getfield hG (ci := 12) (r := (RX7, TX7, 9)) rfl cw_12 (k := 0) (Nat.le_of_ble_eq_true rfl) w_1222 rfl (Or.inl rfl) dX8_putIfAbsent_91
theorem s_X8_putIfAbsent_94 {X : ev_E} {l : Launch} (hG : ev_Good X) (hl : l.stackTraces = false) : ev_Snd X l ev_ms x_X8_putIfAbsent tx_X8_putIfAbsent 94 (i_psh (.int (2)) 95) := s_iconst dX8_putIfAbsent_94 rfl
theorem s_X8_putIfAbsent_95 {X : ev_E} {l : Launch} (hG : ev_Good X) (hl : l.stackTraces = false) : ev_Snd X l ev_ms x_X8_putIfAbsent tx_X8_putIfAbsent 95 (i_na 0 (.int 0) 97) := s_newarray hG (kd := 0) (at' := .int) (Nat.le_of_ble_eq_true rfl) rfl (by decide) rfl dX8_putIfAbsent_95 w_120
theorem s_X8_putIfAbsent_97 {X : ev_E} {l : Launch} (hG : ev_Good X) (hl : l.stackTraces = false) : ev_Snd X l ev_ms x_X8_putIfAbsent tx_X8_putIfAbsent 97 (i_dup 98) := s_dup dX8_putIfAbsent_97
theorem s_X8_putIfAbsent_98 {X : ev_E} {l : Launch} (hG : ev_Good X) (hl : l.stackTraces = false) : ev_Snd X l ev_ms x_X8_putIfAbsent tx_X8_putIfAbsent 98 (i_psh (.int (0)) 99) := s_iconst dX8_putIfAbsent_98 rfl
theorem s_X8_putIfAbsent_99 {X : ev_E} {l : Launch} (hG : ev_Good X) (hl : l.stackTraces = false) : ev_Snd X l ev_ms x_X8_putIfAbsent tx_X8_putIfAbsent 99 (i_il 2 100) := s_iload_n dX8_putIfAbsent_99 rfl
theorem s_X8_putIfAbsent_100 {X : ev_E} {l : Launch} (hG : ev_Good X) (hl : l.stackTraces = false) : ev_Snd X l ev_ms x_X8_putIfAbsent tx_X8_putIfAbsent 100 (i_ast ev_tI (fun v => v) 101) := s_iastore hG dX8_putIfAbsent_100
theorem s_X8_putIfAbsent_101 {X : ev_E} {l : Launch} (hG : ev_Good X) (hl : l.stackTraces = false) : ev_Snd X l ev_ms x_X8_putIfAbsent tx_X8_putIfAbsent 101 (i_dup 102) := s_dup dX8_putIfAbsent_101
theorem s_X8_putIfAbsent_102 {X : ev_E} {l : Launch} (hG : ev_Good X) (hl : l.stackTraces = false) : ev_Snd X l ev_ms x_X8_putIfAbsent tx_X8_putIfAbsent 102 (i_psh (.int (1)) 103) := s_iconst dX8_putIfAbsent_102 rfl
theorem s_X8_putIfAbsent_103 {X : ev_E} {l : Launch} (hG : ev_Good X) (hl : l.stackTraces = false) : ev_Snd X l ev_ms x_X8_putIfAbsent tx_X8_putIfAbsent 103 (i_il 3 104) := s_iload_n dX8_putIfAbsent_103 rfl
theorem s_X8_putIfAbsent_104 {X : ev_E} {l : Launch} (hG : ev_Good X) (hl : l.stackTraces = false) : ev_Snd X l ev_ms x_X8_putIfAbsent tx_X8_putIfAbsent 104 (i_ast ev_tI (fun v => v) 105) := s_iastore hG dX8_putIfAbsent_104
theorem s_X8_putIfAbsent_105 {X : ev_E} {l : Launch} (hG : ev_Good X) (hl : l.stackTraces = false) : ev_Snd X l ev_ms x_X8_putIfAbsent tx_X8_putIfAbsent 105 (i_cV X 262 1 4 2 108) := s_invokevirtual hG (mi := 262) (n := 1) (ci := 4) (r := (RJx4a65c, TJx4a65c, 3)) rfl (cal_Jx4a65c_add_9ea2d (Nat.le_of_ble_eq_true rfl)) w_1392 w_1344 w_1345 dX8_putIfAbsent_105
theorem s_X8_putIfAbsent_108 {X : ev_E} {l : Launch} (hG : ev_Good X) (hl : l.stackTraces = false) : ev_Snd X l ev_ms x_X8_putIfAbsent tx_X8_putIfAbsent 108 (i_pop 109) := s_pop dX8_putIfAbsent_108
theorem s_X8_putIfAbsent_109 {X : ev_E} {l : Launch} (hG : ev_Good X) (hl : l.stackTraces = false) : ev_Snd X l ev_ms x_X8_putIfAbsent tx_X8_putIfAbsent 109 (i_psh (.int (-1)) 110) := s_iconst dX8_putIfAbsent_109 rfl
theorem s_X8_putIfAbsent_110 {X : ev_E} {l : Launch} (hG : ev_Good X) (hl : l.stackTraces = false) : ev_Snd X l ev_ms x_X8_putIfAbsent tx_X8_putIfAbsent 110 (i_ir (.int)) := s_ireturn rfl dX8_putIfAbsent_110
theorem s_X8_putIfAbsent_111 {X : ev_E} {l : Launch} (hG : ev_Good X) (hl : l.stackTraces = false) : ev_Snd X l ev_ms x_X8_putIfAbsent tx_X8_putIfAbsent 111 (i_al 4 113) := s_aload dX8_putIfAbsent_111
theorem s_X8_putIfAbsent_113 {X : ev_E} {l : Launch} (hG : ev_Good X) (hl : l.stackTraces = false) : ev_Snd X l ev_ms x_X8_putIfAbsent tx_X8_putIfAbsent 113 (i_gf X 12 0 116) := s_getfield hG (ci := 12) (r := (RX7, TX7, 9)) rfl cw_12 (k := 0) (Nat.le_of_ble_eq_true rfl) w_1222 rfl (Or.inl rfl) dX8_putIfAbsent_113
theorem s_X8_putIfAbsent_116 {X : ev_E} {l : Launch} (hG : ev_Good X) (hl : l.stackTraces = false) : ev_Snd X l ev_ms x_X8_putIfAbsent tx_X8_putIfAbsent 116 (i_il 5 118) := s_iload dX8_putIfAbsent_116
theorem s_X8_putIfAbsent_118 {X : ev_E} {l : Launch} (hG : ev_Good X) (hl : l.stackTraces = false) : ev_Snd X l ev_ms x_X8_putIfAbsent tx_X8_putIfAbsent 118 (i_cV X 129 1 4 2 121) := s_invokevirtual hG (mi := 129) (n := 1) (ci := 4) (r := (RJx4a65c, TJx4a65c, 3)) rfl (cal_Jx4a65c_get_915e3 (Nat.le_of_ble_eq_true rfl)) w_1328 w_1316 w_1317 dX8_putIfAbsent_118
theorem s_X8_putIfAbsent_121 {X : ev_E} {l : Launch} (hG : ev_Good X) (hl : l.stackTraces = false) : ev_Snd X l ev_ms x_X8_putIfAbsent tx_X8_putIfAbsent 121 (i_cca 0 124) := s_castA hG (kd := 0) (Nat.le_of_ble_eq_true rfl) (by decide +kernel) w_1329 dX8_putIfAbsent_121
theorem s_X8_putIfAbsent_124 {X : ev_E} {l : Launch} (hG : ev_Good X) (hl : l.stackTraces = false) : ev_Snd X l ev_ms x_X8_putIfAbsent tx_X8_putIfAbsent 124 (i_psh (.int (1)) 125) := s_iconst dX8_putIfAbsent_124 rfl
theorem s_X8_putIfAbsent_125 {X : ev_E} {l : Launch} (hG : ev_Good X) (hl : l.stackTraces = false) : ev_Snd X l ev_ms x_X8_putIfAbsent tx_X8_putIfAbsent 125 (i_ald X ev_tI 126) := s_iaload hG dX8_putIfAbsent_125
theorem s_X8_putIfAbsent_126 {X : ev_E} {l : Launch} (hG : ev_Good X) (hl : l.stackTraces = false) : ev_Snd X l ev_ms x_X8_putIfAbsent tx_X8_putIfAbsent 126 (i_is 6 128) := s_istore dX8_putIfAbsent_126 (Nat.le_of_ble_eq_true rfl)
theorem s_X8_putIfAbsent_128 {X : ev_E} {l : Launch} (hG : ev_Good X) (hl : l.stackTraces = false) : ev_Snd X l ev_ms x_X8_putIfAbsent tx_X8_putIfAbsent 128 (i_al 4 130) := s_aload dX8_putIfAbsent_128
theorem s_X8_putIfAbsent_130 {X : ev_E} {l : Launch} (hG : ev_Good X) (hl : l.stackTraces = false) : ev_Snd X l ev_ms x_X8_putIfAbsent tx_X8_putIfAbsent 130 (i_il 5 132) := s_iload dX8_putIfAbsent_130
theorem s_X8_putIfAbsent_132 {X : ev_E} {l : Launch} (hG : ev_Good X) (hl : l.stackTraces = false) : ev_Snd X l ev_ms x_X8_putIfAbsent tx_X8_putIfAbsent 132 (i_cV X 278 1 12 2 135) := s_invokevirtual hG (mi := 278) (n := 1) (ci := 12) (r := (RX7, TX7, 9)) rfl (cal_X7_asked (Nat.le_of_ble_eq_true rfl)) w_1330 w_1331 w_1332 dX8_putIfAbsent_132
theorem s_X8_putIfAbsent_135 {X : ev_E} {l : Launch} (hG : ev_Good X) (hl : l.stackTraces = false) : ev_Snd X l ev_ms x_X8_putIfAbsent tx_X8_putIfAbsent 135 (i_il 6 137) := s_iload dX8_putIfAbsent_135
theorem s_X8_putIfAbsent_137 {X : ev_E} {l : Launch} (hG : ev_Good X) (hl : l.stackTraces = false) : ev_Snd X l ev_ms x_X8_putIfAbsent tx_X8_putIfAbsent 137 (i_ir (.int)) := s_ireturn rfl dX8_putIfAbsent_137
theorem sa_X8_putIfAbsent_c0 {X : ev_E} {l : Launch} (hG : ev_Good X) (hl : l.stackTraces = false) : ∀ q ∈ tb_X8_putIfAbsent_c0 X, ev_Snd X l ev_ms x_X8_putIfAbsent tx_X8_putIfAbsent q.1 q.2 := by
  intro q hq
  unfold tb_X8_putIfAbsent_c0 at hq
  simp only [List.mem_cons, List.not_mem_nil, or_false] at hq
  rcases hq with rfl | rfl | rfl | rfl | rfl | rfl | rfl | rfl | rfl | rfl | rfl | rfl | rfl | rfl | rfl | rfl | rfl | rfl | rfl | rfl | rfl | rfl | rfl | rfl | rfl | rfl | rfl | rfl | rfl | rfl | rfl | rfl | rfl | rfl | rfl | rfl | rfl | rfl | rfl | rfl | rfl | rfl | rfl | rfl | rfl | rfl | rfl | rfl | rfl | rfl | rfl | rfl | rfl | rfl | rfl | rfl | rfl | rfl | rfl | rfl
  · exact s_X8_putIfAbsent_0 hG hl
  · exact s_X8_putIfAbsent_1 hG hl
  · exact s_X8_putIfAbsent_2 hG hl
  · exact s_X8_putIfAbsent_5 hG hl
  · exact s_X8_putIfAbsent_6 hG hl
  · exact s_X8_putIfAbsent_8 hG hl
  · exact s_X8_putIfAbsent_11 hG hl
  · exact s_X8_putIfAbsent_14 hG hl
  · exact s_X8_putIfAbsent_15 hG hl
  · exact s_X8_putIfAbsent_17 hG hl
  · exact s_X8_putIfAbsent_20 hG hl
  · exact s_X8_putIfAbsent_23 hG hl
  · exact s_X8_putIfAbsent_24 hG hl
  · exact s_X8_putIfAbsent_27 hG hl
  · exact s_X8_putIfAbsent_28 hG hl
  · exact s_X8_putIfAbsent_29 hG hl
  · exact s_X8_putIfAbsent_32 hG hl
  · exact s_X8_putIfAbsent_35 hG hl
  · exact s_X8_putIfAbsent_36 hG hl
  · exact s_X8_putIfAbsent_39 hG hl
  · exact s_X8_putIfAbsent_40 hG hl
  · exact s_X8_putIfAbsent_41 hG hl
  · exact s_X8_putIfAbsent_44 hG hl
  · exact s_X8_putIfAbsent_45 hG hl
  · exact s_X8_putIfAbsent_48 hG hl
  · exact s_X8_putIfAbsent_49 hG hl
  · exact s_X8_putIfAbsent_52 hG hl
  · exact s_X8_putIfAbsent_53 hG hl
  · exact s_X8_putIfAbsent_56 hG hl
  · exact s_X8_putIfAbsent_59 hG hl
  · exact s_X8_putIfAbsent_60 hG hl
  · exact s_X8_putIfAbsent_61 hG hl
  · exact s_X8_putIfAbsent_62 hG hl
  · exact s_X8_putIfAbsent_65 hG hl
  · exact s_X8_putIfAbsent_66 hG hl
  · exact s_X8_putIfAbsent_67 hG hl
  · exact s_X8_putIfAbsent_69 hG hl
  · exact s_X8_putIfAbsent_71 hG hl
  · exact s_X8_putIfAbsent_72 hG hl
  · exact s_X8_putIfAbsent_75 hG hl
  · exact s_X8_putIfAbsent_77 hG hl
  · exact s_X8_putIfAbsent_78 hG hl
  · exact s_X8_putIfAbsent_81 hG hl
  · exact s_X8_putIfAbsent_83 hG hl
  · exact s_X8_putIfAbsent_85 hG hl
  · exact s_X8_putIfAbsent_86 hG hl
  · exact s_X8_putIfAbsent_89 hG hl
  · exact s_X8_putIfAbsent_91 hG hl
  · exact s_X8_putIfAbsent_94 hG hl
  · exact s_X8_putIfAbsent_95 hG hl
  · exact s_X8_putIfAbsent_97 hG hl
  · exact s_X8_putIfAbsent_98 hG hl
  · exact s_X8_putIfAbsent_99 hG hl
  · exact s_X8_putIfAbsent_100 hG hl
  · exact s_X8_putIfAbsent_101 hG hl
  · exact s_X8_putIfAbsent_102 hG hl
  · exact s_X8_putIfAbsent_103 hG hl
  · exact s_X8_putIfAbsent_104 hG hl
  · exact s_X8_putIfAbsent_105 hG hl
  · exact s_X8_putIfAbsent_108 hG hl
theorem sa_X8_putIfAbsent_c1 {X : ev_E} {l : Launch} (hG : ev_Good X) (hl : l.stackTraces = false) : ∀ q ∈ tb_X8_putIfAbsent_c1 X, ev_Snd X l ev_ms x_X8_putIfAbsent tx_X8_putIfAbsent q.1 q.2 := by
  intro q hq
  unfold tb_X8_putIfAbsent_c1 at hq
  simp only [List.mem_cons, List.not_mem_nil, or_false] at hq
  rcases hq with rfl | rfl | rfl | rfl | rfl | rfl | rfl | rfl | rfl | rfl | rfl | rfl | rfl | rfl | rfl
  · exact s_X8_putIfAbsent_109 hG hl
  · exact s_X8_putIfAbsent_110 hG hl
  · exact s_X8_putIfAbsent_111 hG hl
  · exact s_X8_putIfAbsent_113 hG hl
  · exact s_X8_putIfAbsent_116 hG hl
  · exact s_X8_putIfAbsent_118 hG hl
  · exact s_X8_putIfAbsent_121 hG hl
  · exact s_X8_putIfAbsent_124 hG hl
  · exact s_X8_putIfAbsent_125 hG hl
  · exact s_X8_putIfAbsent_126 hG hl
  · exact s_X8_putIfAbsent_128 hG hl
  · exact s_X8_putIfAbsent_130 hG hl
  · exact s_X8_putIfAbsent_132 hG hl
  · exact s_X8_putIfAbsent_135 hG hl
  · exact s_X8_putIfAbsent_137 hG hl
theorem sa_X8_putIfAbsent {X : ev_E} {l : Launch} (hG : ev_Good X) (hl : l.stackTraces = false) : ∀ q ∈ tb_X8_putIfAbsent X, ev_Snd X l ev_ms x_X8_putIfAbsent tx_X8_putIfAbsent q.1 q.2 := List.forall_mem_append.mpr ⟨sa_X8_putIfAbsent_c0 hG hl, sa_X8_putIfAbsent_c1 hG hl⟩
def tx_X8_takenAt : ev_X := fun _ _ => some none
noncomputable def tb_X8_takenAt (X : ev_E) : List (Nat × (ev_S → ev_N)) := [(0, i_al 0 1), (1, i_il 1 2), (2, i_cS 119 1 1 5), (5, i_ifne 17 8), (8, i_il 2 9), (9, i_psh (.int (20)) 11), (11, i_cS 65 2 2 14), (14, i_ifeq 21 17), (17, i_psh (.int (1)) 18), (18, i_goto 22), (21, i_psh (.int (0)) 22), (22, i_psh (.int (0)) 23), (23, i_psh (.int (0)) 24), (24, i_cV X 63 3 13 4 27), (27, i_ifeq 34 30), (30, i_psh (.int (0)) 31), (31, i_goto 40), (34, i_al 0 35), (35, i_il 1 36), (36, i_il 2 37), (37, i_cV X 284 2 13 4 40), (40, i_ir (.int))]
theorem s_X8_takenAt_0 {X : ev_E} {l : Launch} (hG : ev_Good X) (hl : l.stackTraces = false) : ev_Snd X l ev_ms x_X8_takenAt tx_X8_takenAt 0 (i_al 0 1) := s_aload_n dX8_takenAt_0 rfl
theorem s_X8_takenAt_1 {X : ev_E} {l : Launch} (hG : ev_Good X) (hl : l.stackTraces = false) : ev_Snd X l ev_ms x_X8_takenAt tx_X8_takenAt 1 (i_il 1 2) := s_iload_n dX8_takenAt_1 rfl
theorem s_X8_takenAt_2 {X : ev_E} {l : Launch} (hG : ev_Good X) (hl : l.stackTraces = false) : ev_Snd X l ev_ms x_X8_takenAt tx_X8_takenAt 2 (i_cS 119 1 1 5) := s_invokestatic hG (mi := 119) (n := 1) (cal_X8_isNoSize (Nat.le_of_ble_eq_true rfl)) w_1670 w_1671 dX8_takenAt_2
theorem s_X8_takenAt_5 {X : ev_E} {l : Launch} (hG : ev_Good X) (hl : l.stackTraces = false) : ev_Snd X l ev_ms x_X8_takenAt tx_X8_takenAt 5 (i_ifne 17 8) := s_ifne dX8_takenAt_5 rfl
theorem s_X8_takenAt_8 {X : ev_E} {l : Launch} (hG : ev_Good X) (hl : l.stackTraces = false) : ev_Snd X l ev_ms x_X8_takenAt tx_X8_takenAt 8 (i_il 2 9) := s_iload_n dX8_takenAt_8 rfl
theorem s_X8_takenAt_9 {X : ev_E} {l : Launch} (hG : ev_Good X) (hl : l.stackTraces = false) : ev_Snd X l ev_ms x_X8_takenAt tx_X8_takenAt 9 (i_psh (.int (20)) 11) := s_bipush dX8_takenAt_9 rfl
theorem s_X8_takenAt_11 {X : ev_E} {l : Launch} (hG : ev_Good X) (hl : l.stackTraces = false) : ev_Snd X l ev_ms x_X8_takenAt tx_X8_takenAt 11 (i_cS 65 2 2 14) := s_invokestatic hG (mi := 65) (n := 2) (cal_X8_isOut (Nat.le_of_ble_eq_true rfl)) w_1287 w_1288 dX8_takenAt_11
theorem s_X8_takenAt_14 {X : ev_E} {l : Launch} (hG : ev_Good X) (hl : l.stackTraces = false) : ev_Snd X l ev_ms x_X8_takenAt tx_X8_takenAt 14 (i_ifeq 21 17) := s_ifeq dX8_takenAt_14 rfl
theorem s_X8_takenAt_17 {X : ev_E} {l : Launch} (hG : ev_Good X) (hl : l.stackTraces = false) : ev_Snd X l ev_ms x_X8_takenAt tx_X8_takenAt 17 (i_psh (.int (1)) 18) := s_iconst dX8_takenAt_17 rfl
theorem s_X8_takenAt_18 {X : ev_E} {l : Launch} (hG : ev_Good X) (hl : l.stackTraces = false) : ev_Snd X l ev_ms x_X8_takenAt tx_X8_takenAt 18 (i_goto 22) := s_goto dX8_takenAt_18 rfl
theorem s_X8_takenAt_21 {X : ev_E} {l : Launch} (hG : ev_Good X) (hl : l.stackTraces = false) : ev_Snd X l ev_ms x_X8_takenAt tx_X8_takenAt 21 (i_psh (.int (0)) 22) := s_iconst dX8_takenAt_21 rfl
theorem s_X8_takenAt_22 {X : ev_E} {l : Launch} (hG : ev_Good X) (hl : l.stackTraces = false) : ev_Snd X l ev_ms x_X8_takenAt tx_X8_takenAt 22 (i_psh (.int (0)) 23) := s_iconst dX8_takenAt_22 rfl
theorem s_X8_takenAt_23 {X : ev_E} {l : Launch} (hG : ev_Good X) (hl : l.stackTraces = false) : ev_Snd X l ev_ms x_X8_takenAt tx_X8_takenAt 23 (i_psh (.int (0)) 24) := s_iconst dX8_takenAt_23 rfl
theorem s_X8_takenAt_24 {X : ev_E} {l : Launch} (hG : ev_Good X) (hl : l.stackTraces = false) : ev_Snd X l ev_ms x_X8_takenAt tx_X8_takenAt 24 (i_cV X 63 3 13 4 27) := s_invokevirtual hG (mi := 63) (n := 3) (ci := 13) (r := (RX8, TX8, 5)) rfl (cal_X8_fails (Nat.le_of_ble_eq_true rfl)) w_1290 w_1292 w_22 dX8_takenAt_24
theorem s_X8_takenAt_27 {X : ev_E} {l : Launch} (hG : ev_Good X) (hl : l.stackTraces = false) : ev_Snd X l ev_ms x_X8_takenAt tx_X8_takenAt 27 (i_ifeq 34 30) := s_ifeq dX8_takenAt_27 rfl
theorem s_X8_takenAt_30 {X : ev_E} {l : Launch} (hG : ev_Good X) (hl : l.stackTraces = false) : ev_Snd X l ev_ms x_X8_takenAt tx_X8_takenAt 30 (i_psh (.int (0)) 31) := s_iconst dX8_takenAt_30 rfl
theorem s_X8_takenAt_31 {X : ev_E} {l : Launch} (hG : ev_Good X) (hl : l.stackTraces = false) : ev_Snd X l ev_ms x_X8_takenAt tx_X8_takenAt 31 (i_goto 40) := s_goto dX8_takenAt_31 rfl
theorem s_X8_takenAt_34 {X : ev_E} {l : Launch} (hG : ev_Good X) (hl : l.stackTraces = false) : ev_Snd X l ev_ms x_X8_takenAt tx_X8_takenAt 34 (i_al 0 35) := s_aload_n dX8_takenAt_34 rfl
theorem s_X8_takenAt_35 {X : ev_E} {l : Launch} (hG : ev_Good X) (hl : l.stackTraces = false) : ev_Snd X l ev_ms x_X8_takenAt tx_X8_takenAt 35 (i_il 1 36) := s_iload_n dX8_takenAt_35 rfl
theorem s_X8_takenAt_36 {X : ev_E} {l : Launch} (hG : ev_Good X) (hl : l.stackTraces = false) : ev_Snd X l ev_ms x_X8_takenAt tx_X8_takenAt 36 (i_il 2 37) := s_iload_n dX8_takenAt_36 rfl
theorem s_X8_takenAt_37 {X : ev_E} {l : Launch} (hG : ev_Good X) (hl : l.stackTraces = false) : ev_Snd X l ev_ms x_X8_takenAt tx_X8_takenAt 37 (i_cV X 284 2 13 4 40) := s_invokevirtual hG (mi := 284) (n := 2) (ci := 13) (r := (RX8, TX8, 5)) rfl (cal_X8_takenNow (Nat.le_of_ble_eq_true rfl)) w_1685 w_1687 w_41 dX8_takenAt_37
theorem s_X8_takenAt_40 {X : ev_E} {l : Launch} (hG : ev_Good X) (hl : l.stackTraces = false) : ev_Snd X l ev_ms x_X8_takenAt tx_X8_takenAt 40 (i_ir (.int)) := s_ireturn rfl dX8_takenAt_40
theorem sa_X8_takenAt {X : ev_E} {l : Launch} (hG : ev_Good X) (hl : l.stackTraces = false) : ∀ q ∈ tb_X8_takenAt X, ev_Snd X l ev_ms x_X8_takenAt tx_X8_takenAt q.1 q.2 := by
  intro q hq
  unfold tb_X8_takenAt at hq
  simp only [List.mem_cons, List.not_mem_nil, or_false] at hq
  rcases hq with rfl | rfl | rfl | rfl | rfl | rfl | rfl | rfl | rfl | rfl | rfl | rfl | rfl | rfl | rfl | rfl | rfl | rfl | rfl | rfl | rfl | rfl
  · exact s_X8_takenAt_0 hG hl
  · exact s_X8_takenAt_1 hG hl
  · exact s_X8_takenAt_2 hG hl
  · exact s_X8_takenAt_5 hG hl
  · exact s_X8_takenAt_8 hG hl
  · exact s_X8_takenAt_9 hG hl
  · exact s_X8_takenAt_11 hG hl
  · exact s_X8_takenAt_14 hG hl
  · exact s_X8_takenAt_17 hG hl
  · exact s_X8_takenAt_18 hG hl
  · exact s_X8_takenAt_21 hG hl
  · exact s_X8_takenAt_22 hG hl
  · exact s_X8_takenAt_23 hG hl
  · exact s_X8_takenAt_24 hG hl
  · exact s_X8_takenAt_27 hG hl
  · exact s_X8_takenAt_30 hG hl
  · exact s_X8_takenAt_31 hG hl
  · exact s_X8_takenAt_34 hG hl
  · exact s_X8_takenAt_35 hG hl
  · exact s_X8_takenAt_36 hG hl
  · exact s_X8_takenAt_37 hG hl
  · exact s_X8_takenAt_40 hG hl
def tx_X8_text : ev_X := fun pc _ => bif List.elem pc [24, 44, 54] then none else some none
noncomputable def tb_X8_text_c0 (X : ev_E) : List (Nat × (ev_S → ev_N)) := [(0, i_al 0 1), (1, i_il 1 2), (2, i_cS 118 1 1 5), (5, i_il 2 6), (6, i_psh (.int (3)) 7), (7, i_cS 65 2 2 10), (10, i_psh (.int (0)) 11), (11, i_cV X 63 3 13 4 14), (14, i_ifeq 20 17), (17, i_psh (.ref (X.2.2.2.2.2 (1000 + 117))) 19), (19, i_ar), (20, i_nw 1 4 [.null, .int 0, .int 0, .int 0] 23), (23, i_dup 24), (24, i_cI 177 0 1 27), (27, i_as 3 28), (28, i_al 0 29), (29, i_gf X 13 3 32), (32, i_il 1 33), (33, i_ald X FieldType.isReference 34), (34, i_gf X 12 0 37), (37, i_cV X 87 0 4 1 40), (40, i_as 4 42), (42, i_al 4 44), (44, i_cV X 19 0 3 1 49), (49, i_ifeq 118 52), (52, i_al 4 54), (54, i_cV X 86 0 3 3 59), (59, i_cca 0 62), (62, i_as 5 64), (64, i_al 3 65), (65, i_cV X 80 0 1 1 68), (68, i_ifle 78 71), (71, i_al 3 72), (72, i_psh (.int (32)) 74), (74, i_cV X 273 1 1 2 77), (77, i_pop 78), (78, i_al 3 79), (79, i_al 5 81), (81, i_il 2 82), (82, i_psh (.int (1)) 83), (83, i_icne 90 86), (86, i_psh (.int (1)) 87), (87, i_goto 91), (90, i_psh (.int (0)) 91), (91, i_ald X ev_tI 92), (92, i_cV X 247 1 1 2 95), (95, i_pop 96), (96, i_il 2 97), (97, i_psh (.int (2)) 98), (98, i_icne 115 101), (101, i_al 3 102), (102, i_psh (.int (61)) 104), (104, i_cV X 273 1 1 2 107), (107, i_al 5 109), (109, i_psh (.int (1)) 110), (110, i_ald X ev_tI 111), (111, i_cV X 247 1 1 2 114), (114, i_pop 115), (115, i_goto 42), (118, i_al 3 119)]
noncomputable def tb_X8_text_c1 (X : ev_E) : List (Nat × (ev_S → ev_N)) := [(119, i_cV X 274 0 1 1 122), (122, i_ar)]
noncomputable def tb_X8_text (X : ev_E) : List (Nat × (ev_S → ev_N)) := tb_X8_text_c0 X ++ (tb_X8_text_c1 X)
theorem s_X8_text_0 {X : ev_E} {l : Launch} (hG : ev_Good X) (hl : l.stackTraces = false) : ev_Snd X l ev_ms x_X8_text tx_X8_text 0 (i_al 0 1) := s_aload_n dX8_text_0 rfl
theorem s_X8_text_1 {X : ev_E} {l : Launch} (hG : ev_Good X) (hl : l.stackTraces = false) : ev_Snd X l ev_ms x_X8_text tx_X8_text 1 (i_il 1 2) := s_iload_n dX8_text_1 rfl
theorem s_X8_text_2 {X : ev_E} {l : Launch} (hG : ev_Good X) (hl : l.stackTraces = false) : ev_Snd X l ev_ms x_X8_text tx_X8_text 2 (i_cS 118 1 1 5) := s_invokestatic hG (mi := 118) (n := 1) (cal_X8_isNo (Nat.le_of_ble_eq_true rfl)) w_1284 w_1285 dX8_text_2
theorem s_X8_text_5 {X : ev_E} {l : Launch} (hG : ev_Good X) (hl : l.stackTraces = false) : ev_Snd X l ev_ms x_X8_text tx_X8_text 5 (i_il 2 6) := s_iload_n dX8_text_5 rfl
theorem s_X8_text_6 {X : ev_E} {l : Launch} (hG : ev_Good X) (hl : l.stackTraces = false) : ev_Snd X l ev_ms x_X8_text tx_X8_text 6 (i_psh (.int (3)) 7) := s_iconst dX8_text_6 rfl
theorem s_X8_text_7 {X : ev_E} {l : Launch} (hG : ev_Good X) (hl : l.stackTraces = false) : ev_Snd X l ev_ms x_X8_text tx_X8_text 7 (i_cS 65 2 2 10) := s_invokestatic hG (mi := 65) (n := 2) (cal_X8_isOut (Nat.le_of_ble_eq_true rfl)) w_1287 w_1288 dX8_text_7
theorem s_X8_text_10 {X : ev_E} {l : Launch} (hG : ev_Good X) (hl : l.stackTraces = false) : ev_Snd X l ev_ms x_X8_text tx_X8_text 10 (i_psh (.int (0)) 11) := s_iconst dX8_text_10 rfl
theorem s_X8_text_11 {X : ev_E} {l : Launch} (hG : ev_Good X) (hl : l.stackTraces = false) : ev_Snd X l ev_ms x_X8_text tx_X8_text 11 (i_cV X 63 3 13 4 14) := s_invokevirtual hG (mi := 63) (n := 3) (ci := 13) (r := (RX8, TX8, 5)) rfl (cal_X8_fails (Nat.le_of_ble_eq_true rfl)) w_1290 w_1292 w_22 dX8_text_11
theorem s_X8_text_14 {X : ev_E} {l : Launch} (hG : ev_Good X) (hl : l.stackTraces = false) : ev_Snd X l ev_ms x_X8_text tx_X8_text 14 (i_ifeq 20 17) := s_ifeq dX8_text_14 rfl
theorem s_X8_text_17 {X : ev_E} {l : Launch} (hG : ev_Good X) (hl : l.stackTraces = false) : ev_Snd X l ev_ms x_X8_text tx_X8_text 17 (i_psh (.ref (X.2.2.2.2.2 (1000 + 117))) 19) := s_ldcS hG rfl w_1520 dX8_text_17
theorem s_X8_text_19 {X : ev_E} {l : Launch} (hG : ev_Good X) (hl : l.stackTraces = false) : ev_Snd X l ev_ms x_X8_text tx_X8_text 19 (i_ar) := s_areturn (rt := (.object "java/lang/String")) rfl (by first | exact Or.inl ⟨_, rfl⟩ | exact Or.inr ⟨_, rfl⟩) dX8_text_19
theorem s_X8_text_20 {X : ev_E} {l : Launch} (hG : ev_Good X) (hl : l.stackTraces = false) : ev_Snd X l ev_ms x_X8_text tx_X8_text 20 (i_nw 1 4 [.null, .int 0, .int 0, .int 0] 23) := s_new hG (ci := 1) (r := (RJ4, TJ4, 4)) rfl cw_1 tyJ4 tyJ4_ok (fun j hj => nw_1 j hj) w_1521 rfl w_281 rfl w_75 rfl dX8_text_20
theorem s_X8_text_23 {X : ev_E} {l : Launch} (hG : ev_Good X) (hl : l.stackTraces = false) : ev_Snd X l ev_ms x_X8_text tx_X8_text 23 (i_dup 24) := s_dup dX8_text_23
theorem s_X8_text_24 {X : ev_E} {l : Launch} (hG : ev_Good X) (hl : l.stackTraces = false) : ev_Snd X l ev_ms x_X8_text tx_X8_text 24 (i_cI 177 0 1 27) := s_invokeinit hG (mi := 177) (n := 0) (cal_J4_init_da8c8 (Nat.le_of_ble_eq_true rfl)) rfl w_1522 w_283 rfl (fun _ => rfl) dX8_text_24
theorem s_X8_text_27 {X : ev_E} {l : Launch} (hG : ev_Good X) (hl : l.stackTraces = false) : ev_Snd X l ev_ms x_X8_text tx_X8_text 27 (i_as 3 28) := s_astore_n dX8_text_27 rfl (Nat.le_of_ble_eq_true rfl)
theorem s_X8_text_28 {X : ev_E} {l : Launch} (hG : ev_Good X) (hl : l.stackTraces = false) : ev_Snd X l ev_ms x_X8_text tx_X8_text 28 (i_al 0 29) := s_aload_n dX8_text_28 rfl
theorem s_X8_text_29 {X : ev_E} {l : Launch} (hG : ev_Good X) (hl : l.stackTraces = false) : ev_Snd X l ev_ms x_X8_text tx_X8_text 29 (i_gf X 13 3 32) := s_getfield hG (ci := 13) (r := (RX8, TX8, 5)) rfl cw_13 (k := 3) (Nat.le_of_ble_eq_true rfl) w_1263 rfl (Or.inl rfl) dX8_text_29
theorem s_X8_text_32 {X : ev_E} {l : Launch} (hG : ev_Good X) (hl : l.stackTraces = false) : ev_Snd X l ev_ms x_X8_text tx_X8_text 32 (i_il 1 33) := s_iload_n dX8_text_32 rfl
theorem s_X8_text_33 {X : ev_E} {l : Launch} (hG : ev_Good X) (hl : l.stackTraces = false) : ev_Snd X l ev_ms x_X8_text tx_X8_text 33 (i_ald X FieldType.isReference 34) := s_aaload hG dX8_text_33
theorem s_X8_text_34 {X : ev_E} {l : Launch} (hG : ev_Good X) (hl : l.stackTraces = false) : ev_Snd X l ev_ms x_X8_text tx_X8_text 34 (i_gf X 12 0 37) := s_getfield hG (ci := 12) (r := (RX7, TX7, 9)) rfl cw_12 (k := 0) (Nat.le_of_ble_eq_true rfl) w_1222 rfl (Or.inl rfl) dX8_text_34
theorem s_X8_text_37 {X : ev_E} {l : Launch} (hG : ev_Good X) (hl : l.stackTraces = false) : ev_Snd X l ev_ms x_X8_text tx_X8_text 37 (i_cV X 87 0 4 1 40) := s_invokevirtual hG (mi := 87) (n := 0) (ci := 4) (r := (RJx4a65c, TJx4a65c, 3)) rfl (cal_Jx4a65c_iterator_32c93 (Nat.le_of_ble_eq_true rfl)) w_1434 w_1435 w_1436 dX8_text_37
theorem s_X8_text_40 {X : ev_E} {l : Launch} (hG : ev_Good X) (hl : l.stackTraces = false) : ev_Snd X l ev_ms x_X8_text tx_X8_text 40 (i_as 4 42) := s_astore dX8_text_40 (Nat.le_of_ble_eq_true rfl)
theorem s_X8_text_42 {X : ev_E} {l : Launch} (hG : ev_Good X) (hl : l.stackTraces = false) : ev_Snd X l ev_ms x_X8_text tx_X8_text 42 (i_al 4 44) := s_aload dX8_text_42
theorem s_X8_text_44 {X : ev_E} {l : Launch} (hG : ev_Good X) (hl : l.stackTraces = false) : ev_Snd X l ev_ms x_X8_text tx_X8_text 44 (i_cV X 19 0 3 1 49) := s_invokeif hG (mi := 19) (n := 0) (ci := 3) (r := (RJx35411, TJx35411, 4)) rfl (cal_Jx35411_hasNext_aae02 (Nat.le_of_ble_eq_true rfl)) (y := ⟨"java/util/Iterator", "hasNext", "()Z"⟩) w_1458 w_1460 w_1459 w_1462 w_1464 w_1465 w_1463 w_1461 (by decide +kernel) rfl (fun _ => rfl) dX8_text_44
theorem s_X8_text_49 {X : ev_E} {l : Launch} (hG : ev_Good X) (hl : l.stackTraces = false) : ev_Snd X l ev_ms x_X8_text tx_X8_text 49 (i_ifeq 118 52) := s_ifeq dX8_text_49 rfl
theorem s_X8_text_52 {X : ev_E} {l : Launch} (hG : ev_Good X) (hl : l.stackTraces = false) : ev_Snd X l ev_ms x_X8_text tx_X8_text 52 (i_al 4 54) := s_aload dX8_text_52
theorem s_X8_text_54 {X : ev_E} {l : Launch} (hG : ev_Good X) (hl : l.stackTraces = false) : ev_Snd X l ev_ms x_X8_text tx_X8_text 54 (i_cV X 86 0 3 3 59) := s_invokeif hG (mi := 86) (n := 0) (ci := 3) (r := (RJx35411, TJx35411, 4)) rfl (cal_Jx35411_next_0502b (Nat.le_of_ble_eq_true rfl)) (y := ⟨"java/util/Iterator", "next", "()Ljava/lang/Object;"⟩) w_1468 w_1470 w_1469 w_1471 w_1473 w_1474 w_1472 w_1461 (by decide +kernel) rfl (fun _ => rfl) dX8_text_54
theorem s_X8_text_59 {X : ev_E} {l : Launch} (hG : ev_Good X) (hl : l.stackTraces = false) : ev_Snd X l ev_ms x_X8_text tx_X8_text 59 (i_cca 0 62) := s_castA hG (kd := 0) (Nat.le_of_ble_eq_true rfl) (by decide +kernel) w_1329 dX8_text_59
theorem s_X8_text_62 {X : ev_E} {l : Launch} (hG : ev_Good X) (hl : l.stackTraces = false) : ev_Snd X l ev_ms x_X8_text tx_X8_text 62 (i_as 5 64) := s_astore dX8_text_62 (Nat.le_of_ble_eq_true rfl)
theorem s_X8_text_64 {X : ev_E} {l : Launch} (hG : ev_Good X) (hl : l.stackTraces = false) : ev_Snd X l ev_ms x_X8_text tx_X8_text 64 (i_al 3 65) := s_aload_n dX8_text_64 rfl
theorem s_X8_text_65 {X : ev_E} {l : Launch} (hG : ev_Good X) (hl : l.stackTraces = false) : ev_Snd X l ev_ms x_X8_text tx_X8_text 65 (i_cV X 80 0 1 1 68) := s_invokevirtual hG (mi := 80) (n := 0) (ci := 1) (r := (RJ4, TJ4, 4)) rfl (cal_J4_length_8abf5 (Nat.le_of_ble_eq_true rfl)) w_1523 w_463 w_1761 dX8_text_65
theorem s_X8_text_68 {X : ev_E} {l : Launch} (hG : ev_Good X) (hl : l.stackTraces = false) : ev_Snd X l ev_ms x_X8_text tx_X8_text 68 (i_ifle 78 71) := s_ifle dX8_text_68 rfl
theorem s_X8_text_71 {X : ev_E} {l : Launch} (hG : ev_Good X) (hl : l.stackTraces = false) : ev_Snd X l ev_ms x_X8_text tx_X8_text 71 (i_al 3 72) := s_aload_n dX8_text_71 rfl
theorem s_X8_text_72 {X : ev_E} {l : Launch} (hG : ev_Good X) (hl : l.stackTraces = false) : ev_Snd X l ev_ms x_X8_text tx_X8_text 72 (i_psh (.int (32)) 74) := s_bipush dX8_text_72 rfl
theorem s_X8_text_74 {X : ev_E} {l : Launch} (hG : ev_Good X) (hl : l.stackTraces = false) : ev_Snd X l ev_ms x_X8_text tx_X8_text 74 (i_cV X 273 1 1 2 77) := s_invokevirtual hG (mi := 273) (n := 1) (ci := 1) (r := (RJ4, TJ4, 4)) rfl (cal_J4_append_cf468 (Nat.le_of_ble_eq_true rfl)) w_1524 w_313 w_314 dX8_text_74
theorem s_X8_text_77 {X : ev_E} {l : Launch} (hG : ev_Good X) (hl : l.stackTraces = false) : ev_Snd X l ev_ms x_X8_text tx_X8_text 77 (i_pop 78) := s_pop dX8_text_77
theorem s_X8_text_78 {X : ev_E} {l : Launch} (hG : ev_Good X) (hl : l.stackTraces = false) : ev_Snd X l ev_ms x_X8_text tx_X8_text 78 (i_al 3 79) := s_aload_n dX8_text_78 rfl
theorem s_X8_text_79 {X : ev_E} {l : Launch} (hG : ev_Good X) (hl : l.stackTraces = false) : ev_Snd X l ev_ms x_X8_text tx_X8_text 79 (i_al 5 81) := s_aload dX8_text_79
theorem s_X8_text_81 {X : ev_E} {l : Launch} (hG : ev_Good X) (hl : l.stackTraces = false) : ev_Snd X l ev_ms x_X8_text tx_X8_text 81 (i_il 2 82) := s_iload_n dX8_text_81 rfl
theorem s_X8_text_82 {X : ev_E} {l : Launch} (hG : ev_Good X) (hl : l.stackTraces = false) : ev_Snd X l ev_ms x_X8_text tx_X8_text 82 (i_psh (.int (1)) 83) := s_iconst dX8_text_82 rfl
theorem s_X8_text_83 {X : ev_E} {l : Launch} (hG : ev_Good X) (hl : l.stackTraces = false) : ev_Snd X l ev_ms x_X8_text tx_X8_text 83 (i_icne 90 86) := s_icne dX8_text_83 rfl
theorem s_X8_text_86 {X : ev_E} {l : Launch} (hG : ev_Good X) (hl : l.stackTraces = false) : ev_Snd X l ev_ms x_X8_text tx_X8_text 86 (i_psh (.int (1)) 87) := s_iconst dX8_text_86 rfl
theorem s_X8_text_87 {X : ev_E} {l : Launch} (hG : ev_Good X) (hl : l.stackTraces = false) : ev_Snd X l ev_ms x_X8_text tx_X8_text 87 (i_goto 91) := s_goto dX8_text_87 rfl
theorem s_X8_text_90 {X : ev_E} {l : Launch} (hG : ev_Good X) (hl : l.stackTraces = false) : ev_Snd X l ev_ms x_X8_text tx_X8_text 90 (i_psh (.int (0)) 91) := s_iconst dX8_text_90 rfl
theorem s_X8_text_91 {X : ev_E} {l : Launch} (hG : ev_Good X) (hl : l.stackTraces = false) : ev_Snd X l ev_ms x_X8_text tx_X8_text 91 (i_ald X ev_tI 92) := s_iaload hG dX8_text_91
theorem s_X8_text_92 {X : ev_E} {l : Launch} (hG : ev_Good X) (hl : l.stackTraces = false) : ev_Snd X l ev_ms x_X8_text tx_X8_text 92 (i_cV X 247 1 1 2 95) := s_invokevirtual hG (mi := 247) (n := 1) (ci := 1) (r := (RJ4, TJ4, 4)) rfl (cal_J4_append_bf812 (Nat.le_of_ble_eq_true rfl)) w_1525 w_408 w_409 dX8_text_92
theorem s_X8_text_95 {X : ev_E} {l : Launch} (hG : ev_Good X) (hl : l.stackTraces = false) : ev_Snd X l ev_ms x_X8_text tx_X8_text 95 (i_pop 96) := s_pop dX8_text_95
theorem s_X8_text_96 {X : ev_E} {l : Launch} (hG : ev_Good X) (hl : l.stackTraces = false) : ev_Snd X l ev_ms x_X8_text tx_X8_text 96 (i_il 2 97) := s_iload_n dX8_text_96 rfl
theorem s_X8_text_97 {X : ev_E} {l : Launch} (hG : ev_Good X) (hl : l.stackTraces = false) : ev_Snd X l ev_ms x_X8_text tx_X8_text 97 (i_psh (.int (2)) 98) := s_iconst dX8_text_97 rfl
theorem s_X8_text_98 {X : ev_E} {l : Launch} (hG : ev_Good X) (hl : l.stackTraces = false) : ev_Snd X l ev_ms x_X8_text tx_X8_text 98 (i_icne 115 101) := s_icne dX8_text_98 rfl
theorem s_X8_text_101 {X : ev_E} {l : Launch} (hG : ev_Good X) (hl : l.stackTraces = false) : ev_Snd X l ev_ms x_X8_text tx_X8_text 101 (i_al 3 102) := s_aload_n dX8_text_101 rfl
theorem s_X8_text_102 {X : ev_E} {l : Launch} (hG : ev_Good X) (hl : l.stackTraces = false) : ev_Snd X l ev_ms x_X8_text tx_X8_text 102 (i_psh (.int (61)) 104) := s_bipush dX8_text_102 rfl
theorem s_X8_text_104 {X : ev_E} {l : Launch} (hG : ev_Good X) (hl : l.stackTraces = false) : ev_Snd X l ev_ms x_X8_text tx_X8_text 104 (i_cV X 273 1 1 2 107) := s_invokevirtual hG (mi := 273) (n := 1) (ci := 1) (r := (RJ4, TJ4, 4)) rfl (cal_J4_append_cf468 (Nat.le_of_ble_eq_true rfl)) w_1524 w_313 w_314 dX8_text_104
theorem s_X8_text_107 {X : ev_E} {l : Launch} (hG : ev_Good X) (hl : l.stackTraces = false) : ev_Snd X l ev_ms x_X8_text tx_X8_text 107 (i_al 5 109) := s_aload dX8_text_107
theorem s_X8_text_109 {X : ev_E} {l : Launch} (hG : ev_Good X) (hl : l.stackTraces = false) : ev_Snd X l ev_ms x_X8_text tx_X8_text 109 (i_psh (.int (1)) 110) := s_iconst dX8_text_109 rfl
theorem s_X8_text_110 {X : ev_E} {l : Launch} (hG : ev_Good X) (hl : l.stackTraces = false) : ev_Snd X l ev_ms x_X8_text tx_X8_text 110 (i_ald X ev_tI 111) := s_iaload hG dX8_text_110
theorem s_X8_text_111 {X : ev_E} {l : Launch} (hG : ev_Good X) (hl : l.stackTraces = false) : ev_Snd X l ev_ms x_X8_text tx_X8_text 111 (i_cV X 247 1 1 2 114) := s_invokevirtual hG (mi := 247) (n := 1) (ci := 1) (r := (RJ4, TJ4, 4)) rfl (cal_J4_append_bf812 (Nat.le_of_ble_eq_true rfl)) w_1525 w_408 w_409 dX8_text_111
theorem s_X8_text_114 {X : ev_E} {l : Launch} (hG : ev_Good X) (hl : l.stackTraces = false) : ev_Snd X l ev_ms x_X8_text tx_X8_text 114 (i_pop 115) := s_pop dX8_text_114
theorem s_X8_text_115 {X : ev_E} {l : Launch} (hG : ev_Good X) (hl : l.stackTraces = false) : ev_Snd X l ev_ms x_X8_text tx_X8_text 115 (i_goto 42) := s_goto dX8_text_115 rfl
theorem s_X8_text_118 {X : ev_E} {l : Launch} (hG : ev_Good X) (hl : l.stackTraces = false) : ev_Snd X l ev_ms x_X8_text tx_X8_text 118 (i_al 3 119) := s_aload_n dX8_text_118 rfl
theorem s_X8_text_119 {X : ev_E} {l : Launch} (hG : ev_Good X) (hl : l.stackTraces = false) : ev_Snd X l ev_ms x_X8_text tx_X8_text 119 (i_cV X 274 0 1 1 122) := s_invokevirtual hG (mi := 274) (n := 0) (ci := 1) (r := (RJ4, TJ4, 4)) rfl (cal_J4_toString_0e30d (Nat.le_of_ble_eq_true rfl)) w_1526 w_442 w_443 dX8_text_119
theorem s_X8_text_122 {X : ev_E} {l : Launch} (hG : ev_Good X) (hl : l.stackTraces = false) : ev_Snd X l ev_ms x_X8_text tx_X8_text 122 (i_ar) := s_areturn (rt := (.object "java/lang/String")) rfl (by first | exact Or.inl ⟨_, rfl⟩ | exact Or.inr ⟨_, rfl⟩) dX8_text_122
theorem sa_X8_text_c0 {X : ev_E} {l : Launch} (hG : ev_Good X) (hl : l.stackTraces = false) : ∀ q ∈ tb_X8_text_c0 X, ev_Snd X l ev_ms x_X8_text tx_X8_text q.1 q.2 := by
  intro q hq
  unfold tb_X8_text_c0 at hq
  simp only [List.mem_cons, List.not_mem_nil, or_false] at hq
  rcases hq with rfl | rfl | rfl | rfl | rfl | rfl | rfl | rfl | rfl | rfl | rfl | rfl | rfl | rfl | rfl | rfl | rfl | rfl | rfl | rfl | rfl | rfl | rfl | rfl | rfl | rfl | rfl | rfl | rfl | rfl | rfl | rfl | rfl | rfl | rfl | rfl | rfl | rfl | rfl | rfl | rfl | rfl | rfl | rfl | rfl | rfl | rfl | rfl | rfl | rfl | rfl | rfl | rfl | rfl | rfl | rfl | rfl | rfl | rfl | rfl
  · exact s_X8_text_0 hG hl
  · exact s_X8_text_1 hG hl
  · exact s_X8_text_2 hG hl
  · exact s_X8_text_5 hG hl
  · exact s_X8_text_6 hG hl
  · exact s_X8_text_7 hG hl
  · exact s_X8_text_10 hG hl
  · exact s_X8_text_11 hG hl
  · exact s_X8_text_14 hG hl
  · exact s_X8_text_17 hG hl
  · exact s_X8_text_19 hG hl
  · exact s_X8_text_20 hG hl
  · exact s_X8_text_23 hG hl
  · exact s_X8_text_24 hG hl
  · exact s_X8_text_27 hG hl
  · exact s_X8_text_28 hG hl
  · exact s_X8_text_29 hG hl
  · exact s_X8_text_32 hG hl
  · exact s_X8_text_33 hG hl
  · exact s_X8_text_34 hG hl
  · exact s_X8_text_37 hG hl
  · exact s_X8_text_40 hG hl
  · exact s_X8_text_42 hG hl
  · exact s_X8_text_44 hG hl
  · exact s_X8_text_49 hG hl
  · exact s_X8_text_52 hG hl
  · exact s_X8_text_54 hG hl
  · exact s_X8_text_59 hG hl
  · exact s_X8_text_62 hG hl
  · exact s_X8_text_64 hG hl
  · exact s_X8_text_65 hG hl
  · exact s_X8_text_68 hG hl
  · exact s_X8_text_71 hG hl
  · exact s_X8_text_72 hG hl
  · exact s_X8_text_74 hG hl
  · exact s_X8_text_77 hG hl
  · exact s_X8_text_78 hG hl
  · exact s_X8_text_79 hG hl
  · exact s_X8_text_81 hG hl
  · exact s_X8_text_82 hG hl
  · exact s_X8_text_83 hG hl
  · exact s_X8_text_86 hG hl
  · exact s_X8_text_87 hG hl
  · exact s_X8_text_90 hG hl
  · exact s_X8_text_91 hG hl
  · exact s_X8_text_92 hG hl
  · exact s_X8_text_95 hG hl
  · exact s_X8_text_96 hG hl
  · exact s_X8_text_97 hG hl
  · exact s_X8_text_98 hG hl
  · exact s_X8_text_101 hG hl
  · exact s_X8_text_102 hG hl
  · exact s_X8_text_104 hG hl
  · exact s_X8_text_107 hG hl
  · exact s_X8_text_109 hG hl
  · exact s_X8_text_110 hG hl
  · exact s_X8_text_111 hG hl
  · exact s_X8_text_114 hG hl
  · exact s_X8_text_115 hG hl
  · exact s_X8_text_118 hG hl
theorem sa_X8_text_c1 {X : ev_E} {l : Launch} (hG : ev_Good X) (hl : l.stackTraces = false) : ∀ q ∈ tb_X8_text_c1 X, ev_Snd X l ev_ms x_X8_text tx_X8_text q.1 q.2 := by
  intro q hq
  unfold tb_X8_text_c1 at hq
  simp only [List.mem_cons, List.not_mem_nil, or_false] at hq
  rcases hq with rfl | rfl
  · exact s_X8_text_119 hG hl
  · exact s_X8_text_122 hG hl
theorem sa_X8_text {X : ev_E} {l : Launch} (hG : ev_Good X) (hl : l.stackTraces = false) : ∀ q ∈ tb_X8_text X, ev_Snd X l ev_ms x_X8_text tx_X8_text q.1 q.2 := List.forall_mem_append.mpr ⟨sa_X8_text_c0 hG hl, sa_X8_text_c1 hG hl⟩
def tx_X8_digest : ev_X := fun _ _ => some none
noncomputable def tb_X8_digest_c0 (X : ev_E) : List (Nat × (ev_S → ev_N)) := [(0, i_al 0 1), (1, i_psh (.int (0)) 2), (2, i_pf 13 0 (.int) 5), (5, i_psh (.long 7808) 8), (8, i_ls 1 9), (9, i_psh (.int (0)) 10), (10, i_is 3 11), (11, i_il 3 12), (12, i_psh (.int (5)) 13), (13, i_icge 35 16), (16, i_ll 1 17), (17, i_psh (.long 31) 20), (20, i_l2 (fun a b => a * b) 21), (21, i_al 0 22), (22, i_il 3 23), (23, i_cV X 258 1 13 7 26), (26, i_i2l 27), (27, i_l2 (fun a b => a + b) 28), (28, i_ls 1 29), (29, i_inc 3 (1) 32), (32, i_goto 11), (35, i_psh (.int (0)) 36), (36, i_is 3 37), (37, i_il 3 38), (38, i_psh (.int (4)) 39), (39, i_icge 154 42), (42, i_psh (.int (0)) 43), (43, i_is 4 45), (45, i_il 4 47), (47, i_psh (.int (5)) 48), (48, i_icge 72 51), (51, i_ll 1 52), (52, i_psh (.long 31) 55), (55, i_l2 (fun a b => a * b) 56), (56, i_al 0 57), (57, i_il 3 58), (58, i_il 4 60), (60, i_cV X 170 2 13 7 63), (63, i_i2l 64), (64, i_l2 (fun a b => a + b) 65), (65, i_ls 1 66), (66, i_inc 4 (1) 69), (69, i_goto 45), (72, i_psh (.int (0)) 73), (73, i_is 4 75), (75, i_il 4 77), (77, i_al 0 78), (78, i_gf X 13 3 81), (81, i_il 3 82), (82, i_ald X FieldType.isReference 83), (83, i_gf X 12 0 86), (86, i_cV X 24 0 4 1 89), (89, i_icge 114 92), (92, i_ll 1 93), (93, i_psh (.long 31) 96), (96, i_l2 (fun a b => a * b) 97), (97, i_al 0 98), (98, i_il 3 99), (99, i_il 4 101), (101, i_psh (.int (2)) 102)]
noncomputable def tb_X8_digest_c1 (X : ev_E) : List (Nat × (ev_S → ev_N)) := [(102, i_cV X 215 3 13 5 105), (105, i_i2l 106), (106, i_l2 (fun a b => a + b) 107), (107, i_ls 1 108), (108, i_inc 4 (1) 111), (111, i_goto 75), (114, i_ll 1 115), (115, i_psh (.long 31) 118), (118, i_l2 (fun a b => a * b) 119), (119, i_al 0 120), (120, i_gf X 13 3 123), (123, i_il 3 124), (124, i_ald X FieldType.isReference 125), (125, i_cV X 115 0 12 1 128), (128, i_cS 70 1 1 131), (131, i_i2l 132), (132, i_l2 (fun a b => a + b) 133), (133, i_psh (.long 31) 136), (136, i_l2 (fun a b => a * b) 137), (137, i_al 0 138), (138, i_il 3 139), (139, i_cV X 67 1 13 2 142), (142, i_cS 70 1 1 145), (145, i_i2l 146), (146, i_l2 (fun a b => a + b) 147), (147, i_ls 1 148), (148, i_inc 3 (1) 151), (151, i_goto 37), (154, i_al 0 155), (155, i_ll 1 156), (156, i_cV X 287 1 13 7 159), (159, i_psh (.long 31) 162), (162, i_l2 (fun a b => a * b) 163), (163, i_psh (.long 1) 164), (164, i_l2 (fun a b => a + b) 165), (165, i_lr)]
noncomputable def tb_X8_digest (X : ev_E) : List (Nat × (ev_S → ev_N)) := tb_X8_digest_c0 X ++ (tb_X8_digest_c1 X)
theorem s_X8_digest_0 {X : ev_E} {l : Launch} (hG : ev_Good X) (hl : l.stackTraces = false) : ev_Snd X l ev_ms x_X8_digest tx_X8_digest 0 (i_al 0 1) := s_aload_n dX8_digest_0 rfl
theorem s_X8_digest_1 {X : ev_E} {l : Launch} (hG : ev_Good X) (hl : l.stackTraces = false) : ev_Snd X l ev_ms x_X8_digest tx_X8_digest 1 (i_psh (.int (0)) 2) := s_iconst dX8_digest_1 rfl
theorem s_X8_digest_2 {X : ev_E} {l : Launch} (hG : ev_Good X) (hl : l.stackTraces = false) : ev_Snd X l ev_ms x_X8_digest tx_X8_digest 2 (i_pf 13 0 (.int) 5) := s_putfield hG (ci := 13) (r := (RX8, TX8, 5)) rfl cw_13 ap_13 (k := 0) (Nat.le_of_ble_eq_true rfl) rfl (by decide +kernel) w_1260 rfl (Or.inl rfl) dX8_digest_2
theorem s_X8_digest_5 {X : ev_E} {l : Launch} (hG : ev_Good X) (hl : l.stackTraces = false) : ev_Snd X l ev_ms x_X8_digest tx_X8_digest 5 (i_psh (.long 7808) 8) := s_ldc2 hG w_1745 rfl dX8_digest_5
theorem s_X8_digest_8 {X : ev_E} {l : Launch} (hG : ev_Good X) (hl : l.stackTraces = false) : ev_Snd X l ev_ms x_X8_digest tx_X8_digest 8 (i_ls 1 9) := s_lstore_n dX8_digest_8 rfl (Nat.le_of_ble_eq_true rfl)
theorem s_X8_digest_9 {X : ev_E} {l : Launch} (hG : ev_Good X) (hl : l.stackTraces = false) : ev_Snd X l ev_ms x_X8_digest tx_X8_digest 9 (i_psh (.int (0)) 10) := s_iconst dX8_digest_9 rfl
theorem s_X8_digest_10 {X : ev_E} {l : Launch} (hG : ev_Good X) (hl : l.stackTraces = false) : ev_Snd X l ev_ms x_X8_digest tx_X8_digest 10 (i_is 3 11) := s_istore_n dX8_digest_10 rfl (Nat.le_of_ble_eq_true rfl)
theorem s_X8_digest_11 {X : ev_E} {l : Launch} (hG : ev_Good X) (hl : l.stackTraces = false) : ev_Snd X l ev_ms x_X8_digest tx_X8_digest 11 (i_il 3 12) := s_iload_n dX8_digest_11 rfl
theorem s_X8_digest_12 {X : ev_E} {l : Launch} (hG : ev_Good X) (hl : l.stackTraces = false) : ev_Snd X l ev_ms x_X8_digest tx_X8_digest 12 (i_psh (.int (5)) 13) := s_iconst dX8_digest_12 rfl
theorem s_X8_digest_13 {X : ev_E} {l : Launch} (hG : ev_Good X) (hl : l.stackTraces = false) : ev_Snd X l ev_ms x_X8_digest tx_X8_digest 13 (i_icge 35 16) := s_icge dX8_digest_13 rfl
theorem s_X8_digest_16 {X : ev_E} {l : Launch} (hG : ev_Good X) (hl : l.stackTraces = false) : ev_Snd X l ev_ms x_X8_digest tx_X8_digest 16 (i_ll 1 17) := s_lload_n dX8_digest_16 rfl
theorem s_X8_digest_17 {X : ev_E} {l : Launch} (hG : ev_Good X) (hl : l.stackTraces = false) : ev_Snd X l ev_ms x_X8_digest tx_X8_digest 17 (i_psh (.long 31) 20) := s_ldc2 hG w_1746 rfl dX8_digest_17
theorem s_X8_digest_20 {X : ev_E} {l : Launch} (hG : ev_Good X) (hl : l.stackTraces = false) : ev_Snd X l ev_ms x_X8_digest tx_X8_digest 20 (i_l2 (fun a b => a * b) 21) := s_lmul dX8_digest_20
theorem s_X8_digest_21 {X : ev_E} {l : Launch} (hG : ev_Good X) (hl : l.stackTraces = false) : ev_Snd X l ev_ms x_X8_digest tx_X8_digest 21 (i_al 0 22) := s_aload_n dX8_digest_21 rfl
theorem s_X8_digest_22 {X : ev_E} {l : Launch} (hG : ev_Good X) (hl : l.stackTraces = false) : ev_Snd X l ev_ms x_X8_digest tx_X8_digest 22 (i_il 3 23) := s_iload_n dX8_digest_22 rfl
theorem s_X8_digest_23 {X : ev_E} {l : Launch} (hG : ev_Good X) (hl : l.stackTraces = false) : ev_Snd X l ev_ms x_X8_digest tx_X8_digest 23 (i_cV X 258 1 13 7 26) := s_invokevirtual hG (mi := 258) (n := 1) (ci := 13) (r := (RX8, TX8, 5)) rfl (cal_X8_houseNow (Nat.le_of_ble_eq_true rfl)) w_1729 w_1731 w_46 dX8_digest_23
theorem s_X8_digest_26 {X : ev_E} {l : Launch} (hG : ev_Good X) (hl : l.stackTraces = false) : ev_Snd X l ev_ms x_X8_digest tx_X8_digest 26 (i_i2l 27) := s_i2l dX8_digest_26
theorem s_X8_digest_27 {X : ev_E} {l : Launch} (hG : ev_Good X) (hl : l.stackTraces = false) : ev_Snd X l ev_ms x_X8_digest tx_X8_digest 27 (i_l2 (fun a b => a + b) 28) := s_ladd dX8_digest_27
theorem s_X8_digest_28 {X : ev_E} {l : Launch} (hG : ev_Good X) (hl : l.stackTraces = false) : ev_Snd X l ev_ms x_X8_digest tx_X8_digest 28 (i_ls 1 29) := s_lstore_n dX8_digest_28 rfl (Nat.le_of_ble_eq_true rfl)
theorem s_X8_digest_29 {X : ev_E} {l : Launch} (hG : ev_Good X) (hl : l.stackTraces = false) : ev_Snd X l ev_ms x_X8_digest tx_X8_digest 29 (i_inc 3 (1) 32) := s_iinc dX8_digest_29 rfl (Nat.le_of_ble_eq_true rfl)
theorem s_X8_digest_32 {X : ev_E} {l : Launch} (hG : ev_Good X) (hl : l.stackTraces = false) : ev_Snd X l ev_ms x_X8_digest tx_X8_digest 32 (i_goto 11) := s_goto dX8_digest_32 rfl
theorem s_X8_digest_35 {X : ev_E} {l : Launch} (hG : ev_Good X) (hl : l.stackTraces = false) : ev_Snd X l ev_ms x_X8_digest tx_X8_digest 35 (i_psh (.int (0)) 36) := s_iconst dX8_digest_35 rfl
theorem s_X8_digest_36 {X : ev_E} {l : Launch} (hG : ev_Good X) (hl : l.stackTraces = false) : ev_Snd X l ev_ms x_X8_digest tx_X8_digest 36 (i_is 3 37) := s_istore_n dX8_digest_36 rfl (Nat.le_of_ble_eq_true rfl)
theorem s_X8_digest_37 {X : ev_E} {l : Launch} (hG : ev_Good X) (hl : l.stackTraces = false) : ev_Snd X l ev_ms x_X8_digest tx_X8_digest 37 (i_il 3 38) := s_iload_n dX8_digest_37 rfl
theorem s_X8_digest_38 {X : ev_E} {l : Launch} (hG : ev_Good X) (hl : l.stackTraces = false) : ev_Snd X l ev_ms x_X8_digest tx_X8_digest 38 (i_psh (.int (4)) 39) := s_iconst dX8_digest_38 rfl
theorem s_X8_digest_39 {X : ev_E} {l : Launch} (hG : ev_Good X) (hl : l.stackTraces = false) : ev_Snd X l ev_ms x_X8_digest tx_X8_digest 39 (i_icge 154 42) := s_icge dX8_digest_39 rfl
theorem s_X8_digest_42 {X : ev_E} {l : Launch} (hG : ev_Good X) (hl : l.stackTraces = false) : ev_Snd X l ev_ms x_X8_digest tx_X8_digest 42 (i_psh (.int (0)) 43) := s_iconst dX8_digest_42 rfl
theorem s_X8_digest_43 {X : ev_E} {l : Launch} (hG : ev_Good X) (hl : l.stackTraces = false) : ev_Snd X l ev_ms x_X8_digest tx_X8_digest 43 (i_is 4 45) := s_istore dX8_digest_43 (Nat.le_of_ble_eq_true rfl)
theorem s_X8_digest_45 {X : ev_E} {l : Launch} (hG : ev_Good X) (hl : l.stackTraces = false) : ev_Snd X l ev_ms x_X8_digest tx_X8_digest 45 (i_il 4 47) := s_iload dX8_digest_45
theorem s_X8_digest_47 {X : ev_E} {l : Launch} (hG : ev_Good X) (hl : l.stackTraces = false) : ev_Snd X l ev_ms x_X8_digest tx_X8_digest 47 (i_psh (.int (5)) 48) := s_iconst dX8_digest_47 rfl
theorem s_X8_digest_48 {X : ev_E} {l : Launch} (hG : ev_Good X) (hl : l.stackTraces = false) : ev_Snd X l ev_ms x_X8_digest tx_X8_digest 48 (i_icge 72 51) := s_icge dX8_digest_48 rfl
theorem s_X8_digest_51 {X : ev_E} {l : Launch} (hG : ev_Good X) (hl : l.stackTraces = false) : ev_Snd X l ev_ms x_X8_digest tx_X8_digest 51 (i_ll 1 52) := s_lload_n dX8_digest_51 rfl
theorem s_X8_digest_52 {X : ev_E} {l : Launch} (hG : ev_Good X) (hl : l.stackTraces = false) : ev_Snd X l ev_ms x_X8_digest tx_X8_digest 52 (i_psh (.long 31) 55) := s_ldc2 hG w_1746 rfl dX8_digest_52
theorem s_X8_digest_55 {X : ev_E} {l : Launch} (hG : ev_Good X) (hl : l.stackTraces = false) : ev_Snd X l ev_ms x_X8_digest tx_X8_digest 55 (i_l2 (fun a b => a * b) 56) := s_lmul dX8_digest_55
theorem s_X8_digest_56 {X : ev_E} {l : Launch} (hG : ev_Good X) (hl : l.stackTraces = false) : ev_Snd X l ev_ms x_X8_digest tx_X8_digest 56 (i_al 0 57) := s_aload_n dX8_digest_56 rfl
theorem s_X8_digest_57 {X : ev_E} {l : Launch} (hG : ev_Good X) (hl : l.stackTraces = false) : ev_Snd X l ev_ms x_X8_digest tx_X8_digest 57 (i_il 3 58) := s_iload_n dX8_digest_57 rfl
theorem s_X8_digest_58 {X : ev_E} {l : Launch} (hG : ev_Good X) (hl : l.stackTraces = false) : ev_Snd X l ev_ms x_X8_digest tx_X8_digest 58 (i_il 4 60) := s_iload dX8_digest_58
theorem s_X8_digest_60 {X : ev_E} {l : Launch} (hG : ev_Good X) (hl : l.stackTraces = false) : ev_Snd X l ev_ms x_X8_digest tx_X8_digest 60 (i_cV X 170 2 13 7 63) := s_invokevirtual hG (mi := 170) (n := 2) (ci := 13) (r := (RX8, TX8, 5)) rfl (cal_X8_tableNow (Nat.le_of_ble_eq_true rfl)) w_1531 w_1533 w_31 dX8_digest_60
theorem s_X8_digest_63 {X : ev_E} {l : Launch} (hG : ev_Good X) (hl : l.stackTraces = false) : ev_Snd X l ev_ms x_X8_digest tx_X8_digest 63 (i_i2l 64) := s_i2l dX8_digest_63
theorem s_X8_digest_64 {X : ev_E} {l : Launch} (hG : ev_Good X) (hl : l.stackTraces = false) : ev_Snd X l ev_ms x_X8_digest tx_X8_digest 64 (i_l2 (fun a b => a + b) 65) := s_ladd dX8_digest_64
theorem s_X8_digest_65 {X : ev_E} {l : Launch} (hG : ev_Good X) (hl : l.stackTraces = false) : ev_Snd X l ev_ms x_X8_digest tx_X8_digest 65 (i_ls 1 66) := s_lstore_n dX8_digest_65 rfl (Nat.le_of_ble_eq_true rfl)
theorem s_X8_digest_66 {X : ev_E} {l : Launch} (hG : ev_Good X) (hl : l.stackTraces = false) : ev_Snd X l ev_ms x_X8_digest tx_X8_digest 66 (i_inc 4 (1) 69) := s_iinc dX8_digest_66 rfl (Nat.le_of_ble_eq_true rfl)
theorem s_X8_digest_69 {X : ev_E} {l : Launch} (hG : ev_Good X) (hl : l.stackTraces = false) : ev_Snd X l ev_ms x_X8_digest tx_X8_digest 69 (i_goto 45) := s_goto dX8_digest_69 rfl
theorem s_X8_digest_72 {X : ev_E} {l : Launch} (hG : ev_Good X) (hl : l.stackTraces = false) : ev_Snd X l ev_ms x_X8_digest tx_X8_digest 72 (i_psh (.int (0)) 73) := s_iconst dX8_digest_72 rfl
theorem s_X8_digest_73 {X : ev_E} {l : Launch} (hG : ev_Good X) (hl : l.stackTraces = false) : ev_Snd X l ev_ms x_X8_digest tx_X8_digest 73 (i_is 4 75) := s_istore dX8_digest_73 (Nat.le_of_ble_eq_true rfl)
theorem s_X8_digest_75 {X : ev_E} {l : Launch} (hG : ev_Good X) (hl : l.stackTraces = false) : ev_Snd X l ev_ms x_X8_digest tx_X8_digest 75 (i_il 4 77) := s_iload dX8_digest_75
theorem s_X8_digest_77 {X : ev_E} {l : Launch} (hG : ev_Good X) (hl : l.stackTraces = false) : ev_Snd X l ev_ms x_X8_digest tx_X8_digest 77 (i_al 0 78) := s_aload_n dX8_digest_77 rfl
theorem s_X8_digest_78 {X : ev_E} {l : Launch} (hG : ev_Good X) (hl : l.stackTraces = false) : ev_Snd X l ev_ms x_X8_digest tx_X8_digest 78 (i_gf X 13 3 81) := s_getfield hG (ci := 13) (r := (RX8, TX8, 5)) rfl cw_13 (k := 3) (Nat.le_of_ble_eq_true rfl) w_1263 rfl (Or.inl rfl) dX8_digest_78
theorem s_X8_digest_81 {X : ev_E} {l : Launch} (hG : ev_Good X) (hl : l.stackTraces = false) : ev_Snd X l ev_ms x_X8_digest tx_X8_digest 81 (i_il 3 82) := s_iload_n dX8_digest_81 rfl
theorem s_X8_digest_82 {X : ev_E} {l : Launch} (hG : ev_Good X) (hl : l.stackTraces = false) : ev_Snd X l ev_ms x_X8_digest tx_X8_digest 82 (i_ald X FieldType.isReference 83) := s_aaload hG dX8_digest_82
theorem s_X8_digest_83 {X : ev_E} {l : Launch} (hG : ev_Good X) (hl : l.stackTraces = false) : ev_Snd X l ev_ms x_X8_digest tx_X8_digest 83 (i_gf X 12 0 86) := s_getfield hG (ci := 12) (r := (RX7, TX7, 9)) rfl cw_12 (k := 0) (Nat.le_of_ble_eq_true rfl) w_1222 rfl (Or.inl rfl) dX8_digest_83
theorem s_X8_digest_86 {X : ev_E} {l : Launch} (hG : ev_Good X) (hl : l.stackTraces = false) : ev_Snd X l ev_ms x_X8_digest tx_X8_digest 86 (i_cV X 24 0 4 1 89) := s_invokevirtual hG (mi := 24) (n := 0) (ci := 4) (r := (RJx4a65c, TJx4a65c, 3)) rfl (cal_Jx4a65c_size_8abf5 (Nat.le_of_ble_eq_true rfl)) w_1294 w_1295 w_1296 dX8_digest_86
theorem s_X8_digest_89 {X : ev_E} {l : Launch} (hG : ev_Good X) (hl : l.stackTraces = false) : ev_Snd X l ev_ms x_X8_digest tx_X8_digest 89 (i_icge 114 92) := s_icge dX8_digest_89 rfl
theorem s_X8_digest_92 {X : ev_E} {l : Launch} (hG : ev_Good X) (hl : l.stackTraces = false) : ev_Snd X l ev_ms x_X8_digest tx_X8_digest 92 (i_ll 1 93) := s_lload_n dX8_digest_92 rfl
theorem s_X8_digest_93 {X : ev_E} {l : Launch} (hG : ev_Good X) (hl : l.stackTraces = false) : ev_Snd X l ev_ms x_X8_digest tx_X8_digest 93 (i_psh (.long 31) 96) := s_ldc2 hG w_1746 rfl dX8_digest_93
theorem s_X8_digest_96 {X : ev_E} {l : Launch} (hG : ev_Good X) (hl : l.stackTraces = false) : ev_Snd X l ev_ms x_X8_digest tx_X8_digest 96 (i_l2 (fun a b => a * b) 97) := s_lmul dX8_digest_96
theorem s_X8_digest_97 {X : ev_E} {l : Launch} (hG : ev_Good X) (hl : l.stackTraces = false) : ev_Snd X l ev_ms x_X8_digest tx_X8_digest 97 (i_al 0 98) := s_aload_n dX8_digest_97 rfl
theorem s_X8_digest_98 {X : ev_E} {l : Launch} (hG : ev_Good X) (hl : l.stackTraces = false) : ev_Snd X l ev_ms x_X8_digest tx_X8_digest 98 (i_il 3 99) := s_iload_n dX8_digest_98 rfl
theorem s_X8_digest_99 {X : ev_E} {l : Launch} (hG : ev_Good X) (hl : l.stackTraces = false) : ev_Snd X l ev_ms x_X8_digest tx_X8_digest 99 (i_il 4 101) := s_iload dX8_digest_99
theorem s_X8_digest_101 {X : ev_E} {l : Launch} (hG : ev_Good X) (hl : l.stackTraces = false) : ev_Snd X l ev_ms x_X8_digest tx_X8_digest 101 (i_psh (.int (2)) 102) := s_iconst dX8_digest_101 rfl
theorem s_X8_digest_102 {X : ev_E} {l : Launch} (hG : ev_Good X) (hl : l.stackTraces = false) : ev_Snd X l ev_ms x_X8_digest tx_X8_digest 102 (i_cV X 215 3 13 5 105) := s_invokevirtual hG (mi := 215) (n := 3) (ci := 13) (r := (RX8, TX8, 5)) rfl (cal_X8_told (Nat.le_of_ble_eq_true rfl)) w_1492 w_1494 w_30 dX8_digest_102
theorem s_X8_digest_105 {X : ev_E} {l : Launch} (hG : ev_Good X) (hl : l.stackTraces = false) : ev_Snd X l ev_ms x_X8_digest tx_X8_digest 105 (i_i2l 106) := s_i2l dX8_digest_105
theorem s_X8_digest_106 {X : ev_E} {l : Launch} (hG : ev_Good X) (hl : l.stackTraces = false) : ev_Snd X l ev_ms x_X8_digest tx_X8_digest 106 (i_l2 (fun a b => a + b) 107) := s_ladd dX8_digest_106
theorem s_X8_digest_107 {X : ev_E} {l : Launch} (hG : ev_Good X) (hl : l.stackTraces = false) : ev_Snd X l ev_ms x_X8_digest tx_X8_digest 107 (i_ls 1 108) := s_lstore_n dX8_digest_107 rfl (Nat.le_of_ble_eq_true rfl)
theorem s_X8_digest_108 {X : ev_E} {l : Launch} (hG : ev_Good X) (hl : l.stackTraces = false) : ev_Snd X l ev_ms x_X8_digest tx_X8_digest 108 (i_inc 4 (1) 111) := s_iinc dX8_digest_108 rfl (Nat.le_of_ble_eq_true rfl)
theorem s_X8_digest_111 {X : ev_E} {l : Launch} (hG : ev_Good X) (hl : l.stackTraces = false) : ev_Snd X l ev_ms x_X8_digest tx_X8_digest 111 (i_goto 75) := s_goto dX8_digest_111 rfl
theorem s_X8_digest_114 {X : ev_E} {l : Launch} (hG : ev_Good X) (hl : l.stackTraces = false) : ev_Snd X l ev_ms x_X8_digest tx_X8_digest 114 (i_ll 1 115) := s_lload_n dX8_digest_114 rfl
theorem s_X8_digest_115 {X : ev_E} {l : Launch} (hG : ev_Good X) (hl : l.stackTraces = false) : ev_Snd X l ev_ms x_X8_digest tx_X8_digest 115 (i_psh (.long 31) 118) := s_ldc2 hG w_1746 rfl dX8_digest_115
theorem s_X8_digest_118 {X : ev_E} {l : Launch} (hG : ev_Good X) (hl : l.stackTraces = false) : ev_Snd X l ev_ms x_X8_digest tx_X8_digest 118 (i_l2 (fun a b => a * b) 119) := s_lmul dX8_digest_118
theorem s_X8_digest_119 {X : ev_E} {l : Launch} (hG : ev_Good X) (hl : l.stackTraces = false) : ev_Snd X l ev_ms x_X8_digest tx_X8_digest 119 (i_al 0 120) := s_aload_n dX8_digest_119 rfl
theorem s_X8_digest_120 {X : ev_E} {l : Launch} (hG : ev_Good X) (hl : l.stackTraces = false) : ev_Snd X l ev_ms x_X8_digest tx_X8_digest 120 (i_gf X 13 3 123) := s_getfield hG (ci := 13) (r := (RX8, TX8, 5)) rfl cw_13 (k := 3) (Nat.le_of_ble_eq_true rfl) w_1263 rfl (Or.inl rfl) dX8_digest_120
theorem s_X8_digest_123 {X : ev_E} {l : Launch} (hG : ev_Good X) (hl : l.stackTraces = false) : ev_Snd X l ev_ms x_X8_digest tx_X8_digest 123 (i_il 3 124) := s_iload_n dX8_digest_123 rfl
theorem s_X8_digest_124 {X : ev_E} {l : Launch} (hG : ev_Good X) (hl : l.stackTraces = false) : ev_Snd X l ev_ms x_X8_digest tx_X8_digest 124 (i_ald X FieldType.isReference 125) := s_aaload hG dX8_digest_124
theorem s_X8_digest_125 {X : ev_E} {l : Launch} (hG : ev_Good X) (hl : l.stackTraces = false) : ev_Snd X l ev_ms x_X8_digest tx_X8_digest 125 (i_cV X 115 0 12 1 128) := s_invokevirtual hG (mi := 115) (n := 0) (ci := 12) (r := (RX7, TX7, 9)) rfl (cal_X7_hasMore (Nat.le_of_ble_eq_true rfl)) w_1550 w_1551 w_1552 dX8_digest_125
theorem s_X8_digest_128 {X : ev_E} {l : Launch} (hG : ev_Good X) (hl : l.stackTraces = false) : ev_Snd X l ev_ms x_X8_digest tx_X8_digest 128 (i_cS 70 1 1 131) := s_invokestatic hG (mi := 70) (n := 1) (cal_X8_one (Nat.le_of_ble_eq_true rfl)) w_1535 w_1536 dX8_digest_128
theorem s_X8_digest_131 {X : ev_E} {l : Launch} (hG : ev_Good X) (hl : l.stackTraces = false) : ev_Snd X l ev_ms x_X8_digest tx_X8_digest 131 (i_i2l 132) := s_i2l dX8_digest_131
theorem s_X8_digest_132 {X : ev_E} {l : Launch} (hG : ev_Good X) (hl : l.stackTraces = false) : ev_Snd X l ev_ms x_X8_digest tx_X8_digest 132 (i_l2 (fun a b => a + b) 133) := s_ladd dX8_digest_132
theorem s_X8_digest_133 {X : ev_E} {l : Launch} (hG : ev_Good X) (hl : l.stackTraces = false) : ev_Snd X l ev_ms x_X8_digest tx_X8_digest 133 (i_psh (.long 31) 136) := s_ldc2 hG w_1746 rfl dX8_digest_133
theorem s_X8_digest_136 {X : ev_E} {l : Launch} (hG : ev_Good X) (hl : l.stackTraces = false) : ev_Snd X l ev_ms x_X8_digest tx_X8_digest 136 (i_l2 (fun a b => a * b) 137) := s_lmul dX8_digest_136
theorem s_X8_digest_137 {X : ev_E} {l : Launch} (hG : ev_Good X) (hl : l.stackTraces = false) : ev_Snd X l ev_ms x_X8_digest tx_X8_digest 137 (i_al 0 138) := s_aload_n dX8_digest_137 rfl
theorem s_X8_digest_138 {X : ev_E} {l : Launch} (hG : ev_Good X) (hl : l.stackTraces = false) : ev_Snd X l ev_ms x_X8_digest tx_X8_digest 138 (i_il 3 139) := s_iload_n dX8_digest_138 rfl
theorem s_X8_digest_139 {X : ev_E} {l : Launch} (hG : ev_Good X) (hl : l.stackTraces = false) : ev_Snd X l ev_ms x_X8_digest tx_X8_digest 139 (i_cV X 67 1 13 2 142) := s_invokevirtual hG (mi := 67) (n := 1) (ci := 13) (r := (RX8, TX8, 5)) rfl (cal_X8_isStaleNow (Nat.le_of_ble_eq_true rfl)) w_1571 w_1573 w_32 dX8_digest_139
theorem s_X8_digest_142 {X : ev_E} {l : Launch} (hG : ev_Good X) (hl : l.stackTraces = false) : ev_Snd X l ev_ms x_X8_digest tx_X8_digest 142 (i_cS 70 1 1 145) := s_invokestatic hG (mi := 70) (n := 1) (cal_X8_one (Nat.le_of_ble_eq_true rfl)) w_1535 w_1536 dX8_digest_142
theorem s_X8_digest_145 {X : ev_E} {l : Launch} (hG : ev_Good X) (hl : l.stackTraces = false) : ev_Snd X l ev_ms x_X8_digest tx_X8_digest 145 (i_i2l 146) := s_i2l dX8_digest_145
theorem s_X8_digest_146 {X : ev_E} {l : Launch} (hG : ev_Good X) (hl : l.stackTraces = false) : ev_Snd X l ev_ms x_X8_digest tx_X8_digest 146 (i_l2 (fun a b => a + b) 147) := s_ladd dX8_digest_146
theorem s_X8_digest_147 {X : ev_E} {l : Launch} (hG : ev_Good X) (hl : l.stackTraces = false) : ev_Snd X l ev_ms x_X8_digest tx_X8_digest 147 (i_ls 1 148) := s_lstore_n dX8_digest_147 rfl (Nat.le_of_ble_eq_true rfl)
theorem s_X8_digest_148 {X : ev_E} {l : Launch} (hG : ev_Good X) (hl : l.stackTraces = false) : ev_Snd X l ev_ms x_X8_digest tx_X8_digest 148 (i_inc 3 (1) 151) := s_iinc dX8_digest_148 rfl (Nat.le_of_ble_eq_true rfl)
theorem s_X8_digest_151 {X : ev_E} {l : Launch} (hG : ev_Good X) (hl : l.stackTraces = false) : ev_Snd X l ev_ms x_X8_digest tx_X8_digest 151 (i_goto 37) := s_goto dX8_digest_151 rfl
theorem s_X8_digest_154 {X : ev_E} {l : Launch} (hG : ev_Good X) (hl : l.stackTraces = false) : ev_Snd X l ev_ms x_X8_digest tx_X8_digest 154 (i_al 0 155) := s_aload_n dX8_digest_154 rfl
theorem s_X8_digest_155 {X : ev_E} {l : Launch} (hG : ev_Good X) (hl : l.stackTraces = false) : ev_Snd X l ev_ms x_X8_digest tx_X8_digest 155 (i_ll 1 156) := s_lload_n dX8_digest_155 rfl
theorem s_X8_digest_156 {X : ev_E} {l : Launch} (hG : ev_Good X) (hl : l.stackTraces = false) : ev_Snd X l ev_ms x_X8_digest tx_X8_digest 156 (i_cV X 287 1 13 7 159) := s_invokevirtual hG (mi := 287) (n := 1) (ci := 13) (r := (RX8, TX8, 5)) rfl (cal_X8_addAskings (Nat.le_of_ble_eq_true rfl)) w_1747 w_1749 w_47 dX8_digest_156
theorem s_X8_digest_159 {X : ev_E} {l : Launch} (hG : ev_Good X) (hl : l.stackTraces = false) : ev_Snd X l ev_ms x_X8_digest tx_X8_digest 159 (i_psh (.long 31) 162) := s_ldc2 hG w_1746 rfl dX8_digest_159
theorem s_X8_digest_162 {X : ev_E} {l : Launch} (hG : ev_Good X) (hl : l.stackTraces = false) : ev_Snd X l ev_ms x_X8_digest tx_X8_digest 162 (i_l2 (fun a b => a * b) 163) := s_lmul dX8_digest_162
theorem s_X8_digest_163 {X : ev_E} {l : Launch} (hG : ev_Good X) (hl : l.stackTraces = false) : ev_Snd X l ev_ms x_X8_digest tx_X8_digest 163 (i_psh (.long 1) 164) := s_lconst dX8_digest_163 rfl
theorem s_X8_digest_164 {X : ev_E} {l : Launch} (hG : ev_Good X) (hl : l.stackTraces = false) : ev_Snd X l ev_ms x_X8_digest tx_X8_digest 164 (i_l2 (fun a b => a + b) 165) := s_ladd dX8_digest_164
theorem s_X8_digest_165 {X : ev_E} {l : Launch} (hG : ev_Good X) (hl : l.stackTraces = false) : ev_Snd X l ev_ms x_X8_digest tx_X8_digest 165 (i_lr) := s_lreturn rfl dX8_digest_165
theorem sa_X8_digest_c0 {X : ev_E} {l : Launch} (hG : ev_Good X) (hl : l.stackTraces = false) : ∀ q ∈ tb_X8_digest_c0 X, ev_Snd X l ev_ms x_X8_digest tx_X8_digest q.1 q.2 := by
  intro q hq
  unfold tb_X8_digest_c0 at hq
  simp only [List.mem_cons, List.not_mem_nil, or_false] at hq
  rcases hq with rfl | rfl | rfl | rfl | rfl | rfl | rfl | rfl | rfl | rfl | rfl | rfl | rfl | rfl | rfl | rfl | rfl | rfl | rfl | rfl | rfl | rfl | rfl | rfl | rfl | rfl | rfl | rfl | rfl | rfl | rfl | rfl | rfl | rfl | rfl | rfl | rfl | rfl | rfl | rfl | rfl | rfl | rfl | rfl | rfl | rfl | rfl | rfl | rfl | rfl | rfl | rfl | rfl | rfl | rfl | rfl | rfl | rfl | rfl | rfl
  · exact s_X8_digest_0 hG hl
  · exact s_X8_digest_1 hG hl
  · exact s_X8_digest_2 hG hl
  · exact s_X8_digest_5 hG hl
  · exact s_X8_digest_8 hG hl
  · exact s_X8_digest_9 hG hl
  · exact s_X8_digest_10 hG hl
  · exact s_X8_digest_11 hG hl
  · exact s_X8_digest_12 hG hl
  · exact s_X8_digest_13 hG hl
  · exact s_X8_digest_16 hG hl
  · exact s_X8_digest_17 hG hl
  · exact s_X8_digest_20 hG hl
  · exact s_X8_digest_21 hG hl
  · exact s_X8_digest_22 hG hl
  · exact s_X8_digest_23 hG hl
  · exact s_X8_digest_26 hG hl
  · exact s_X8_digest_27 hG hl
  · exact s_X8_digest_28 hG hl
  · exact s_X8_digest_29 hG hl
  · exact s_X8_digest_32 hG hl
  · exact s_X8_digest_35 hG hl
  · exact s_X8_digest_36 hG hl
  · exact s_X8_digest_37 hG hl
  · exact s_X8_digest_38 hG hl
  · exact s_X8_digest_39 hG hl
  · exact s_X8_digest_42 hG hl
  · exact s_X8_digest_43 hG hl
  · exact s_X8_digest_45 hG hl
  · exact s_X8_digest_47 hG hl
  · exact s_X8_digest_48 hG hl
  · exact s_X8_digest_51 hG hl
  · exact s_X8_digest_52 hG hl
  · exact s_X8_digest_55 hG hl
  · exact s_X8_digest_56 hG hl
  · exact s_X8_digest_57 hG hl
  · exact s_X8_digest_58 hG hl
  · exact s_X8_digest_60 hG hl
  · exact s_X8_digest_63 hG hl
  · exact s_X8_digest_64 hG hl
  · exact s_X8_digest_65 hG hl
  · exact s_X8_digest_66 hG hl
  · exact s_X8_digest_69 hG hl
  · exact s_X8_digest_72 hG hl
  · exact s_X8_digest_73 hG hl
  · exact s_X8_digest_75 hG hl
  · exact s_X8_digest_77 hG hl
  · exact s_X8_digest_78 hG hl
  · exact s_X8_digest_81 hG hl
  · exact s_X8_digest_82 hG hl
  · exact s_X8_digest_83 hG hl
  · exact s_X8_digest_86 hG hl
  · exact s_X8_digest_89 hG hl
  · exact s_X8_digest_92 hG hl
  · exact s_X8_digest_93 hG hl
  · exact s_X8_digest_96 hG hl
  · exact s_X8_digest_97 hG hl
  · exact s_X8_digest_98 hG hl
  · exact s_X8_digest_99 hG hl
  · exact s_X8_digest_101 hG hl
theorem sa_X8_digest_c1 {X : ev_E} {l : Launch} (hG : ev_Good X) (hl : l.stackTraces = false) : ∀ q ∈ tb_X8_digest_c1 X, ev_Snd X l ev_ms x_X8_digest tx_X8_digest q.1 q.2 := by
  intro q hq
  unfold tb_X8_digest_c1 at hq
  simp only [List.mem_cons, List.not_mem_nil, or_false] at hq
  rcases hq with rfl | rfl | rfl | rfl | rfl | rfl | rfl | rfl | rfl | rfl | rfl | rfl | rfl | rfl | rfl | rfl | rfl | rfl | rfl | rfl | rfl | rfl | rfl | rfl | rfl | rfl | rfl | rfl | rfl | rfl | rfl | rfl | rfl | rfl | rfl | rfl
  · exact s_X8_digest_102 hG hl
  · exact s_X8_digest_105 hG hl
  · exact s_X8_digest_106 hG hl
  · exact s_X8_digest_107 hG hl
  · exact s_X8_digest_108 hG hl
  · exact s_X8_digest_111 hG hl
  · exact s_X8_digest_114 hG hl
  · exact s_X8_digest_115 hG hl
  · exact s_X8_digest_118 hG hl
  · exact s_X8_digest_119 hG hl
  · exact s_X8_digest_120 hG hl
  · exact s_X8_digest_123 hG hl
  · exact s_X8_digest_124 hG hl
  · exact s_X8_digest_125 hG hl
  · exact s_X8_digest_128 hG hl
  · exact s_X8_digest_131 hG hl
  · exact s_X8_digest_132 hG hl
  · exact s_X8_digest_133 hG hl
  · exact s_X8_digest_136 hG hl
  · exact s_X8_digest_137 hG hl
  · exact s_X8_digest_138 hG hl
  · exact s_X8_digest_139 hG hl
  · exact s_X8_digest_142 hG hl
  · exact s_X8_digest_145 hG hl
  · exact s_X8_digest_146 hG hl
  · exact s_X8_digest_147 hG hl
  · exact s_X8_digest_148 hG hl
  · exact s_X8_digest_151 hG hl
  · exact s_X8_digest_154 hG hl
  · exact s_X8_digest_155 hG hl
  · exact s_X8_digest_156 hG hl
  · exact s_X8_digest_159 hG hl
  · exact s_X8_digest_162 hG hl
  · exact s_X8_digest_163 hG hl
  · exact s_X8_digest_164 hG hl
  · exact s_X8_digest_165 hG hl
theorem sa_X8_digest {X : ev_E} {l : Launch} (hG : ev_Good X) (hl : l.stackTraces = false) : ∀ q ∈ tb_X8_digest X, ev_Snd X l ev_ms x_X8_digest tx_X8_digest q.1 q.2 := List.forall_mem_append.mpr ⟨sa_X8_digest_c0 hG hl, sa_X8_digest_c1 hG hl⟩
def tx_X8_get : ev_X := fun _ _ => some none
noncomputable def tb_X8_get (X : ev_E) : List (Nat × (ev_S → ev_N)) := [(0, i_al 0 1), (1, i_il 1 2), (2, i_il 2 3), (3, i_cV X 166 2 13 3 6), (6, i_ifeq 13 9), (9, i_psh (.int (0)) 10), (10, i_goto 20), (13, i_al 0 14), (14, i_il 1 15), (15, i_il 2 16), (16, i_psh (.int (-1)) 17), (17, i_cV X 290 3 13 7 20), (20, i_ir (.int))]
theorem s_X8_get_0 {X : ev_E} {l : Launch} (hG : ev_Good X) (hl : l.stackTraces = false) : ev_Snd X l ev_ms x_X8_get tx_X8_get 0 (i_al 0 1) := s_aload_n dX8_get_0 rfl
theorem s_X8_get_1 {X : ev_E} {l : Launch} (hG : ev_Good X) (hl : l.stackTraces = false) : ev_Snd X l ev_ms x_X8_get tx_X8_get 1 (i_il 1 2) := s_iload_n dX8_get_1 rfl
theorem s_X8_get_2 {X : ev_E} {l : Launch} (hG : ev_Good X) (hl : l.stackTraces = false) : ev_Snd X l ev_ms x_X8_get tx_X8_get 2 (i_il 2 3) := s_iload_n dX8_get_2 rfl
theorem s_X8_get_3 {X : ev_E} {l : Launch} (hG : ev_Good X) (hl : l.stackTraces = false) : ev_Snd X l ev_ms x_X8_get tx_X8_get 3 (i_cV X 166 2 13 3 6) := s_invokevirtual hG (mi := 166) (n := 2) (ci := 13) (r := (RX8, TX8, 5)) rfl (cal_X8_isNoKey (Nat.le_of_ble_eq_true rfl)) w_1402 w_1404 w_27 dX8_get_3
theorem s_X8_get_6 {X : ev_E} {l : Launch} (hG : ev_Good X) (hl : l.stackTraces = false) : ev_Snd X l ev_ms x_X8_get tx_X8_get 6 (i_ifeq 13 9) := s_ifeq dX8_get_6 rfl
theorem s_X8_get_9 {X : ev_E} {l : Launch} (hG : ev_Good X) (hl : l.stackTraces = false) : ev_Snd X l ev_ms x_X8_get tx_X8_get 9 (i_psh (.int (0)) 10) := s_iconst dX8_get_9 rfl
theorem s_X8_get_10 {X : ev_E} {l : Launch} (hG : ev_Good X) (hl : l.stackTraces = false) : ev_Snd X l ev_ms x_X8_get tx_X8_get 10 (i_goto 20) := s_goto dX8_get_10 rfl
theorem s_X8_get_13 {X : ev_E} {l : Launch} (hG : ev_Good X) (hl : l.stackTraces = false) : ev_Snd X l ev_ms x_X8_get tx_X8_get 13 (i_al 0 14) := s_aload_n dX8_get_13 rfl
theorem s_X8_get_14 {X : ev_E} {l : Launch} (hG : ev_Good X) (hl : l.stackTraces = false) : ev_Snd X l ev_ms x_X8_get tx_X8_get 14 (i_il 1 15) := s_iload_n dX8_get_14 rfl
theorem s_X8_get_15 {X : ev_E} {l : Launch} (hG : ev_Good X) (hl : l.stackTraces = false) : ev_Snd X l ev_ms x_X8_get tx_X8_get 15 (i_il 2 16) := s_iload_n dX8_get_15 rfl
theorem s_X8_get_16 {X : ev_E} {l : Launch} (hG : ev_Good X) (hl : l.stackTraces = false) : ev_Snd X l ev_ms x_X8_get tx_X8_get 16 (i_psh (.int (-1)) 17) := s_iconst dX8_get_16 rfl
theorem s_X8_get_17 {X : ev_E} {l : Launch} (hG : ev_Good X) (hl : l.stackTraces = false) : ev_Snd X l ev_ms x_X8_get tx_X8_get 17 (i_cV X 290 3 13 7 20) := s_invokevirtual hG (mi := 290) (n := 3) (ci := 13) (r := (RX8, TX8, 5)) rfl (cal_X8_got (Nat.le_of_ble_eq_true rfl)) w_1406 w_1408 w_28 dX8_get_17
theorem s_X8_get_20 {X : ev_E} {l : Launch} (hG : ev_Good X) (hl : l.stackTraces = false) : ev_Snd X l ev_ms x_X8_get tx_X8_get 20 (i_ir (.int)) := s_ireturn rfl dX8_get_20
theorem sa_X8_get {X : ev_E} {l : Launch} (hG : ev_Good X) (hl : l.stackTraces = false) : ∀ q ∈ tb_X8_get X, ev_Snd X l ev_ms x_X8_get tx_X8_get q.1 q.2 := by
  intro q hq
  unfold tb_X8_get at hq
  simp only [List.mem_cons, List.not_mem_nil, or_false] at hq
  rcases hq with rfl | rfl | rfl | rfl | rfl | rfl | rfl | rfl | rfl | rfl | rfl | rfl | rfl
  · exact s_X8_get_0 hG hl
  · exact s_X8_get_1 hG hl
  · exact s_X8_get_2 hG hl
  · exact s_X8_get_3 hG hl
  · exact s_X8_get_6 hG hl
  · exact s_X8_get_9 hG hl
  · exact s_X8_get_10 hG hl
  · exact s_X8_get_13 hG hl
  · exact s_X8_get_14 hG hl
  · exact s_X8_get_15 hG hl
  · exact s_X8_get_16 hG hl
  · exact s_X8_get_17 hG hl
  · exact s_X8_get_20 hG hl
def tx_X8_getOr : ev_X := fun _ _ => some none
noncomputable def tb_X8_getOr (X : ev_E) : List (Nat × (ev_S → ev_N)) := [(0, i_al 0 1), (1, i_il 1 2), (2, i_il 2 3), (3, i_cV X 166 2 13 3 6), (6, i_ifeq 13 9), (9, i_psh (.int (0)) 10), (10, i_goto 20), (13, i_al 0 14), (14, i_il 1 15), (15, i_il 2 16), (16, i_il 3 17), (17, i_cV X 290 3 13 7 20), (20, i_ir (.int))]
theorem s_X8_getOr_0 {X : ev_E} {l : Launch} (hG : ev_Good X) (hl : l.stackTraces = false) : ev_Snd X l ev_ms x_X8_getOr tx_X8_getOr 0 (i_al 0 1) := s_aload_n dX8_getOr_0 rfl
theorem s_X8_getOr_1 {X : ev_E} {l : Launch} (hG : ev_Good X) (hl : l.stackTraces = false) : ev_Snd X l ev_ms x_X8_getOr tx_X8_getOr 1 (i_il 1 2) := s_iload_n dX8_getOr_1 rfl
theorem s_X8_getOr_2 {X : ev_E} {l : Launch} (hG : ev_Good X) (hl : l.stackTraces = false) : ev_Snd X l ev_ms x_X8_getOr tx_X8_getOr 2 (i_il 2 3) := s_iload_n dX8_getOr_2 rfl
theorem s_X8_getOr_3 {X : ev_E} {l : Launch} (hG : ev_Good X) (hl : l.stackTraces = false) : ev_Snd X l ev_ms x_X8_getOr tx_X8_getOr 3 (i_cV X 166 2 13 3 6) := s_invokevirtual hG (mi := 166) (n := 2) (ci := 13) (r := (RX8, TX8, 5)) rfl (cal_X8_isNoKey (Nat.le_of_ble_eq_true rfl)) w_1402 w_1404 w_27 dX8_getOr_3
theorem s_X8_getOr_6 {X : ev_E} {l : Launch} (hG : ev_Good X) (hl : l.stackTraces = false) : ev_Snd X l ev_ms x_X8_getOr tx_X8_getOr 6 (i_ifeq 13 9) := s_ifeq dX8_getOr_6 rfl
theorem s_X8_getOr_9 {X : ev_E} {l : Launch} (hG : ev_Good X) (hl : l.stackTraces = false) : ev_Snd X l ev_ms x_X8_getOr tx_X8_getOr 9 (i_psh (.int (0)) 10) := s_iconst dX8_getOr_9 rfl
theorem s_X8_getOr_10 {X : ev_E} {l : Launch} (hG : ev_Good X) (hl : l.stackTraces = false) : ev_Snd X l ev_ms x_X8_getOr tx_X8_getOr 10 (i_goto 20) := s_goto dX8_getOr_10 rfl
theorem s_X8_getOr_13 {X : ev_E} {l : Launch} (hG : ev_Good X) (hl : l.stackTraces = false) : ev_Snd X l ev_ms x_X8_getOr tx_X8_getOr 13 (i_al 0 14) := s_aload_n dX8_getOr_13 rfl
theorem s_X8_getOr_14 {X : ev_E} {l : Launch} (hG : ev_Good X) (hl : l.stackTraces = false) : ev_Snd X l ev_ms x_X8_getOr tx_X8_getOr 14 (i_il 1 15) := s_iload_n dX8_getOr_14 rfl
theorem s_X8_getOr_15 {X : ev_E} {l : Launch} (hG : ev_Good X) (hl : l.stackTraces = false) : ev_Snd X l ev_ms x_X8_getOr tx_X8_getOr 15 (i_il 2 16) := s_iload_n dX8_getOr_15 rfl
theorem s_X8_getOr_16 {X : ev_E} {l : Launch} (hG : ev_Good X) (hl : l.stackTraces = false) : ev_Snd X l ev_ms x_X8_getOr tx_X8_getOr 16 (i_il 3 17) := s_iload_n dX8_getOr_16 rfl
theorem s_X8_getOr_17 {X : ev_E} {l : Launch} (hG : ev_Good X) (hl : l.stackTraces = false) : ev_Snd X l ev_ms x_X8_getOr tx_X8_getOr 17 (i_cV X 290 3 13 7 20) := s_invokevirtual hG (mi := 290) (n := 3) (ci := 13) (r := (RX8, TX8, 5)) rfl (cal_X8_got (Nat.le_of_ble_eq_true rfl)) w_1406 w_1408 w_28 dX8_getOr_17
theorem s_X8_getOr_20 {X : ev_E} {l : Launch} (hG : ev_Good X) (hl : l.stackTraces = false) : ev_Snd X l ev_ms x_X8_getOr tx_X8_getOr 20 (i_ir (.int)) := s_ireturn rfl dX8_getOr_20
theorem sa_X8_getOr {X : ev_E} {l : Launch} (hG : ev_Good X) (hl : l.stackTraces = false) : ∀ q ∈ tb_X8_getOr X, ev_Snd X l ev_ms x_X8_getOr tx_X8_getOr q.1 q.2 := by
  intro q hq
  unfold tb_X8_getOr at hq
  simp only [List.mem_cons, List.not_mem_nil, or_false] at hq
  rcases hq with rfl | rfl | rfl | rfl | rfl | rfl | rfl | rfl | rfl | rfl | rfl | rfl | rfl
  · exact s_X8_getOr_0 hG hl
  · exact s_X8_getOr_1 hG hl
  · exact s_X8_getOr_2 hG hl
  · exact s_X8_getOr_3 hG hl
  · exact s_X8_getOr_6 hG hl
  · exact s_X8_getOr_9 hG hl
  · exact s_X8_getOr_10 hG hl
  · exact s_X8_getOr_13 hG hl
  · exact s_X8_getOr_14 hG hl
  · exact s_X8_getOr_15 hG hl
  · exact s_X8_getOr_16 hG hl
  · exact s_X8_getOr_17 hG hl
  · exact s_X8_getOr_20 hG hl
def tx_X8_keys : ev_X := fun pc _ => bif List.elem pc [30] then none else some none
noncomputable def tb_X8_keys (X : ev_E) : List (Nat × (ev_S → ev_N)) := [(0, i_psh (.ref (X.2.2.2.2.2 (1000 + 117))) 2), (2, i_as 2 3), (3, i_psh (.int (1)) 4), (4, i_is 3 5), (5, i_il 3 6), (6, i_il 1 7), (7, i_icgt 77 10), (10, i_al 0 11), (11, i_il 3 12), (12, i_al 0 13), (13, i_gf X 13 4 16), (16, i_cV X 24 0 4 1 19), (19, i_cV X 271 2 13 4 22), (22, i_psh (.int (-1)) 23), (23, i_iceq 77 26), (26, i_nw 1 4 [.null, .int 0, .int 0, .int 0] 29), (29, i_dup 30), (30, i_cI 177 0 1 33), (33, i_al 0 34), (34, i_il 3 35), (35, i_al 0 36), (36, i_gf X 13 4 39), (39, i_cV X 24 0 4 1 42), (42, i_cV X 271 2 13 4 45), (45, i_cV X 247 1 1 2 48), (48, i_il 3 49), (49, i_psh (.int (1)) 50), (50, i_icne 58 53), (53, i_psh (.ref (X.2.2.2.2.2 (1000 + 117))) 55), (55, i_goto 60), (58, i_psh (.ref (X.2.2.2.2.2 (1000 + 195))) 60), (60, i_cV X 298 1 1 2 63), (63, i_al 2 64), (64, i_cV X 298 1 1 2 67), (67, i_cV X 274 0 1 1 70), (70, i_as 2 71), (71, i_inc 3 (1) 74), (74, i_goto 5), (77, i_al 2 78), (78, i_ar)]
theorem s_X8_keys_0 {X : ev_E} {l : Launch} (hG : ev_Good X) (hl : l.stackTraces = false) : ev_Snd X l ev_ms x_X8_keys tx_X8_keys 0 (i_psh (.ref (X.2.2.2.2.2 (1000 + 117))) 2) := s_ldcS hG rfl w_1520 dX8_keys_0
theorem s_X8_keys_2 {X : ev_E} {l : Launch} (hG : ev_Good X) (hl : l.stackTraces = false) : ev_Snd X l ev_ms x_X8_keys tx_X8_keys 2 (i_as 2 3) := s_astore_n dX8_keys_2 rfl (Nat.le_of_ble_eq_true rfl)
theorem s_X8_keys_3 {X : ev_E} {l : Launch} (hG : ev_Good X) (hl : l.stackTraces = false) : ev_Snd X l ev_ms x_X8_keys tx_X8_keys 3 (i_psh (.int (1)) 4) := s_iconst dX8_keys_3 rfl
theorem s_X8_keys_4 {X : ev_E} {l : Launch} (hG : ev_Good X) (hl : l.stackTraces = false) : ev_Snd X l ev_ms x_X8_keys tx_X8_keys 4 (i_is 3 5) := s_istore_n dX8_keys_4 rfl (Nat.le_of_ble_eq_true rfl)
theorem s_X8_keys_5 {X : ev_E} {l : Launch} (hG : ev_Good X) (hl : l.stackTraces = false) : ev_Snd X l ev_ms x_X8_keys tx_X8_keys 5 (i_il 3 6) := s_iload_n dX8_keys_5 rfl
theorem s_X8_keys_6 {X : ev_E} {l : Launch} (hG : ev_Good X) (hl : l.stackTraces = false) : ev_Snd X l ev_ms x_X8_keys tx_X8_keys 6 (i_il 1 7) := s_iload_n dX8_keys_6 rfl
theorem s_X8_keys_7 {X : ev_E} {l : Launch} (hG : ev_Good X) (hl : l.stackTraces = false) : ev_Snd X l ev_ms x_X8_keys tx_X8_keys 7 (i_icgt 77 10) := s_icgt dX8_keys_7 rfl
theorem s_X8_keys_10 {X : ev_E} {l : Launch} (hG : ev_Good X) (hl : l.stackTraces = false) : ev_Snd X l ev_ms x_X8_keys tx_X8_keys 10 (i_al 0 11) := s_aload_n dX8_keys_10 rfl
theorem s_X8_keys_11 {X : ev_E} {l : Launch} (hG : ev_Good X) (hl : l.stackTraces = false) : ev_Snd X l ev_ms x_X8_keys tx_X8_keys 11 (i_il 3 12) := s_iload_n dX8_keys_11 rfl
theorem s_X8_keys_12 {X : ev_E} {l : Launch} (hG : ev_Good X) (hl : l.stackTraces = false) : ev_Snd X l ev_ms x_X8_keys tx_X8_keys 12 (i_al 0 13) := s_aload_n dX8_keys_12 rfl
theorem s_X8_keys_13 {X : ev_E} {l : Launch} (hG : ev_Good X) (hl : l.stackTraces = false) : ev_Snd X l ev_ms x_X8_keys tx_X8_keys 13 (i_gf X 13 4 16) := s_getfield hG (ci := 13) (r := (RX8, TX8, 5)) rfl cw_13 (k := 4) (Nat.le_of_ble_eq_true rfl) w_1264 rfl (Or.inl rfl) dX8_keys_13
theorem s_X8_keys_16 {X : ev_E} {l : Launch} (hG : ev_Good X) (hl : l.stackTraces = false) : ev_Snd X l ev_ms x_X8_keys tx_X8_keys 16 (i_cV X 24 0 4 1 19) := s_invokevirtual hG (mi := 24) (n := 0) (ci := 4) (r := (RJx4a65c, TJx4a65c, 3)) rfl (cal_Jx4a65c_size_8abf5 (Nat.le_of_ble_eq_true rfl)) w_1294 w_1295 w_1296 dX8_keys_16
theorem s_X8_keys_19 {X : ev_E} {l : Launch} (hG : ev_Good X) (hl : l.stackTraces = false) : ev_Snd X l ev_ms x_X8_keys tx_X8_keys 19 (i_cV X 271 2 13 4 22) := s_invokevirtual hG (mi := 271) (n := 2) (ci := 13) (r := (RX8, TX8, 5)) rfl (cal_X8_keyWith (Nat.le_of_ble_eq_true rfl)) w_1660 w_1662 w_39 dX8_keys_19
theorem s_X8_keys_22 {X : ev_E} {l : Launch} (hG : ev_Good X) (hl : l.stackTraces = false) : ev_Snd X l ev_ms x_X8_keys tx_X8_keys 22 (i_psh (.int (-1)) 23) := s_iconst dX8_keys_22 rfl
theorem s_X8_keys_23 {X : ev_E} {l : Launch} (hG : ev_Good X) (hl : l.stackTraces = false) : ev_Snd X l ev_ms x_X8_keys tx_X8_keys 23 (i_iceq 77 26) := s_iceq dX8_keys_23 rfl
theorem s_X8_keys_26 {X : ev_E} {l : Launch} (hG : ev_Good X) (hl : l.stackTraces = false) : ev_Snd X l ev_ms x_X8_keys tx_X8_keys 26 (i_nw 1 4 [.null, .int 0, .int 0, .int 0] 29) := s_new hG (ci := 1) (r := (RJ4, TJ4, 4)) rfl cw_1 tyJ4 tyJ4_ok (fun j hj => nw_1 j hj) w_1521 rfl w_281 rfl w_75 rfl dX8_keys_26
theorem s_X8_keys_29 {X : ev_E} {l : Launch} (hG : ev_Good X) (hl : l.stackTraces = false) : ev_Snd X l ev_ms x_X8_keys tx_X8_keys 29 (i_dup 30) := s_dup dX8_keys_29
theorem s_X8_keys_30 {X : ev_E} {l : Launch} (hG : ev_Good X) (hl : l.stackTraces = false) : ev_Snd X l ev_ms x_X8_keys tx_X8_keys 30 (i_cI 177 0 1 33) := s_invokeinit hG (mi := 177) (n := 0) (cal_J4_init_da8c8 (Nat.le_of_ble_eq_true rfl)) rfl w_1522 w_283 rfl (fun _ => rfl) dX8_keys_30
theorem s_X8_keys_33 {X : ev_E} {l : Launch} (hG : ev_Good X) (hl : l.stackTraces = false) : ev_Snd X l ev_ms x_X8_keys tx_X8_keys 33 (i_al 0 34) := s_aload_n dX8_keys_33 rfl
theorem s_X8_keys_34 {X : ev_E} {l : Launch} (hG : ev_Good X) (hl : l.stackTraces = false) : ev_Snd X l ev_ms x_X8_keys tx_X8_keys 34 (i_il 3 35) := s_iload_n dX8_keys_34 rfl
theorem s_X8_keys_35 {X : ev_E} {l : Launch} (hG : ev_Good X) (hl : l.stackTraces = false) : ev_Snd X l ev_ms x_X8_keys tx_X8_keys 35 (i_al 0 36) := s_aload_n dX8_keys_35 rfl
theorem s_X8_keys_36 {X : ev_E} {l : Launch} (hG : ev_Good X) (hl : l.stackTraces = false) : ev_Snd X l ev_ms x_X8_keys tx_X8_keys 36 (i_gf X 13 4 39) := s_getfield hG (ci := 13) (r := (RX8, TX8, 5)) rfl cw_13 (k := 4) (Nat.le_of_ble_eq_true rfl) w_1264 rfl (Or.inl rfl) dX8_keys_36
theorem s_X8_keys_39 {X : ev_E} {l : Launch} (hG : ev_Good X) (hl : l.stackTraces = false) : ev_Snd X l ev_ms x_X8_keys tx_X8_keys 39 (i_cV X 24 0 4 1 42) := s_invokevirtual hG (mi := 24) (n := 0) (ci := 4) (r := (RJx4a65c, TJx4a65c, 3)) rfl (cal_Jx4a65c_size_8abf5 (Nat.le_of_ble_eq_true rfl)) w_1294 w_1295 w_1296 dX8_keys_39
theorem s_X8_keys_42 {X : ev_E} {l : Launch} (hG : ev_Good X) (hl : l.stackTraces = false) : ev_Snd X l ev_ms x_X8_keys tx_X8_keys 42 (i_cV X 271 2 13 4 45) := s_invokevirtual hG (mi := 271) (n := 2) (ci := 13) (r := (RX8, TX8, 5)) rfl (cal_X8_keyWith (Nat.le_of_ble_eq_true rfl)) w_1660 w_1662 w_39 dX8_keys_42
theorem s_X8_keys_45 {X : ev_E} {l : Launch} (hG : ev_Good X) (hl : l.stackTraces = false) : ev_Snd X l ev_ms x_X8_keys tx_X8_keys 45 (i_cV X 247 1 1 2 48) := s_invokevirtual hG (mi := 247) (n := 1) (ci := 1) (r := (RJ4, TJ4, 4)) rfl (cal_J4_append_bf812 (Nat.le_of_ble_eq_true rfl)) w_1525 w_408 w_409 dX8_keys_45
theorem s_X8_keys_48 {X : ev_E} {l : Launch} (hG : ev_Good X) (hl : l.stackTraces = false) : ev_Snd X l ev_ms x_X8_keys tx_X8_keys 48 (i_il 3 49) := s_iload_n dX8_keys_48 rfl
theorem s_X8_keys_49 {X : ev_E} {l : Launch} (hG : ev_Good X) (hl : l.stackTraces = false) : ev_Snd X l ev_ms x_X8_keys tx_X8_keys 49 (i_psh (.int (1)) 50) := s_iconst dX8_keys_49 rfl
theorem s_X8_keys_50 {X : ev_E} {l : Launch} (hG : ev_Good X) (hl : l.stackTraces = false) : ev_Snd X l ev_ms x_X8_keys tx_X8_keys 50 (i_icne 58 53) := s_icne dX8_keys_50 rfl
theorem s_X8_keys_53 {X : ev_E} {l : Launch} (hG : ev_Good X) (hl : l.stackTraces = false) : ev_Snd X l ev_ms x_X8_keys tx_X8_keys 53 (i_psh (.ref (X.2.2.2.2.2 (1000 + 117))) 55) := s_ldcS hG rfl w_1520 dX8_keys_53
theorem s_X8_keys_55 {X : ev_E} {l : Launch} (hG : ev_Good X) (hl : l.stackTraces = false) : ev_Snd X l ev_ms x_X8_keys tx_X8_keys 55 (i_goto 60) := s_goto dX8_keys_55 rfl
theorem s_X8_keys_58 {X : ev_E} {l : Launch} (hG : ev_Good X) (hl : l.stackTraces = false) : ev_Snd X l ev_ms x_X8_keys tx_X8_keys 58 (i_psh (.ref (X.2.2.2.2.2 (1000 + 195))) 60) := s_ldcS hG rfl w_1664 dX8_keys_58
theorem s_X8_keys_60 {X : ev_E} {l : Launch} (hG : ev_Good X) (hl : l.stackTraces = false) : ev_Snd X l ev_ms x_X8_keys tx_X8_keys 60 (i_cV X 298 1 1 2 63) := s_invokevirtual hG (mi := 298) (n := 1) (ci := 1) (r := (RJ4, TJ4, 4)) rfl (cal_J4_append_15ec4 (Nat.le_of_ble_eq_true rfl)) w_1665 w_523 w_524 dX8_keys_60
theorem s_X8_keys_63 {X : ev_E} {l : Launch} (hG : ev_Good X) (hl : l.stackTraces = false) : ev_Snd X l ev_ms x_X8_keys tx_X8_keys 63 (i_al 2 64) := s_aload_n dX8_keys_63 rfl
theorem s_X8_keys_64 {X : ev_E} {l : Launch} (hG : ev_Good X) (hl : l.stackTraces = false) : ev_Snd X l ev_ms x_X8_keys tx_X8_keys 64 (i_cV X 298 1 1 2 67) := s_invokevirtual hG (mi := 298) (n := 1) (ci := 1) (r := (RJ4, TJ4, 4)) rfl (cal_J4_append_15ec4 (Nat.le_of_ble_eq_true rfl)) w_1665 w_523 w_524 dX8_keys_64
theorem s_X8_keys_67 {X : ev_E} {l : Launch} (hG : ev_Good X) (hl : l.stackTraces = false) : ev_Snd X l ev_ms x_X8_keys tx_X8_keys 67 (i_cV X 274 0 1 1 70) := s_invokevirtual hG (mi := 274) (n := 0) (ci := 1) (r := (RJ4, TJ4, 4)) rfl (cal_J4_toString_0e30d (Nat.le_of_ble_eq_true rfl)) w_1526 w_442 w_443 dX8_keys_67
theorem s_X8_keys_70 {X : ev_E} {l : Launch} (hG : ev_Good X) (hl : l.stackTraces = false) : ev_Snd X l ev_ms x_X8_keys tx_X8_keys 70 (i_as 2 71) := s_astore_n dX8_keys_70 rfl (Nat.le_of_ble_eq_true rfl)
theorem s_X8_keys_71 {X : ev_E} {l : Launch} (hG : ev_Good X) (hl : l.stackTraces = false) : ev_Snd X l ev_ms x_X8_keys tx_X8_keys 71 (i_inc 3 (1) 74) := s_iinc dX8_keys_71 rfl (Nat.le_of_ble_eq_true rfl)
theorem s_X8_keys_74 {X : ev_E} {l : Launch} (hG : ev_Good X) (hl : l.stackTraces = false) : ev_Snd X l ev_ms x_X8_keys tx_X8_keys 74 (i_goto 5) := s_goto dX8_keys_74 rfl
theorem s_X8_keys_77 {X : ev_E} {l : Launch} (hG : ev_Good X) (hl : l.stackTraces = false) : ev_Snd X l ev_ms x_X8_keys tx_X8_keys 77 (i_al 2 78) := s_aload_n dX8_keys_77 rfl
theorem s_X8_keys_78 {X : ev_E} {l : Launch} (hG : ev_Good X) (hl : l.stackTraces = false) : ev_Snd X l ev_ms x_X8_keys tx_X8_keys 78 (i_ar) := s_areturn (rt := (.object "java/lang/String")) rfl (by first | exact Or.inl ⟨_, rfl⟩ | exact Or.inr ⟨_, rfl⟩) dX8_keys_78
theorem sa_X8_keys {X : ev_E} {l : Launch} (hG : ev_Good X) (hl : l.stackTraces = false) : ∀ q ∈ tb_X8_keys X, ev_Snd X l ev_ms x_X8_keys tx_X8_keys q.1 q.2 := by
  intro q hq
  unfold tb_X8_keys at hq
  simp only [List.mem_cons, List.not_mem_nil, or_false] at hq
  rcases hq with rfl | rfl | rfl | rfl | rfl | rfl | rfl | rfl | rfl | rfl | rfl | rfl | rfl | rfl | rfl | rfl | rfl | rfl | rfl | rfl | rfl | rfl | rfl | rfl | rfl | rfl | rfl | rfl | rfl | rfl | rfl | rfl | rfl | rfl | rfl | rfl | rfl | rfl | rfl | rfl
  · exact s_X8_keys_0 hG hl
  · exact s_X8_keys_2 hG hl
  · exact s_X8_keys_3 hG hl
  · exact s_X8_keys_4 hG hl
  · exact s_X8_keys_5 hG hl
  · exact s_X8_keys_6 hG hl
  · exact s_X8_keys_7 hG hl
  · exact s_X8_keys_10 hG hl
  · exact s_X8_keys_11 hG hl
  · exact s_X8_keys_12 hG hl
  · exact s_X8_keys_13 hG hl
  · exact s_X8_keys_16 hG hl
  · exact s_X8_keys_19 hG hl
  · exact s_X8_keys_22 hG hl
  · exact s_X8_keys_23 hG hl
  · exact s_X8_keys_26 hG hl
  · exact s_X8_keys_29 hG hl
  · exact s_X8_keys_30 hG hl
  · exact s_X8_keys_33 hG hl
  · exact s_X8_keys_34 hG hl
  · exact s_X8_keys_35 hG hl
  · exact s_X8_keys_36 hG hl
  · exact s_X8_keys_39 hG hl
  · exact s_X8_keys_42 hG hl
  · exact s_X8_keys_45 hG hl
  · exact s_X8_keys_48 hG hl
  · exact s_X8_keys_49 hG hl
  · exact s_X8_keys_50 hG hl
  · exact s_X8_keys_53 hG hl
  · exact s_X8_keys_55 hG hl
  · exact s_X8_keys_58 hG hl
  · exact s_X8_keys_60 hG hl
  · exact s_X8_keys_63 hG hl
  · exact s_X8_keys_64 hG hl
  · exact s_X8_keys_67 hG hl
  · exact s_X8_keys_70 hG hl
  · exact s_X8_keys_71 hG hl
  · exact s_X8_keys_74 hG hl
  · exact s_X8_keys_77 hG hl
  · exact s_X8_keys_78 hG hl
def tx_X8_kept : ev_X := fun _ _ => some none
noncomputable def tb_X8_kept (X : ev_E) : List (Nat × (ev_S → ev_N)) := [(0, i_al 0 1), (1, i_il 1 2), (2, i_cS 119 1 1 5), (5, i_psh (.int (0)) 6), (6, i_psh (.int (0)) 7), (7, i_cV X 63 3 13 4 10), (10, i_ifeq 18 13), (13, i_psh (.ref (X.2.2.2.2.2 (1000 + 117))) 15), (15, i_goto 23), (18, i_al 0 19), (19, i_il 1 20), (20, i_cV X 307 1 13 4 23), (23, i_ar)]
theorem s_X8_kept_0 {X : ev_E} {l : Launch} (hG : ev_Good X) (hl : l.stackTraces = false) : ev_Snd X l ev_ms x_X8_kept tx_X8_kept 0 (i_al 0 1) := s_aload_n dX8_kept_0 rfl
theorem s_X8_kept_1 {X : ev_E} {l : Launch} (hG : ev_Good X) (hl : l.stackTraces = false) : ev_Snd X l ev_ms x_X8_kept tx_X8_kept 1 (i_il 1 2) := s_iload_n dX8_kept_1 rfl
theorem s_X8_kept_2 {X : ev_E} {l : Launch} (hG : ev_Good X) (hl : l.stackTraces = false) : ev_Snd X l ev_ms x_X8_kept tx_X8_kept 2 (i_cS 119 1 1 5) := s_invokestatic hG (mi := 119) (n := 1) (cal_X8_isNoSize (Nat.le_of_ble_eq_true rfl)) w_1670 w_1671 dX8_kept_2
theorem s_X8_kept_5 {X : ev_E} {l : Launch} (hG : ev_Good X) (hl : l.stackTraces = false) : ev_Snd X l ev_ms x_X8_kept tx_X8_kept 5 (i_psh (.int (0)) 6) := s_iconst dX8_kept_5 rfl
theorem s_X8_kept_6 {X : ev_E} {l : Launch} (hG : ev_Good X) (hl : l.stackTraces = false) : ev_Snd X l ev_ms x_X8_kept tx_X8_kept 6 (i_psh (.int (0)) 7) := s_iconst dX8_kept_6 rfl
theorem s_X8_kept_7 {X : ev_E} {l : Launch} (hG : ev_Good X) (hl : l.stackTraces = false) : ev_Snd X l ev_ms x_X8_kept tx_X8_kept 7 (i_cV X 63 3 13 4 10) := s_invokevirtual hG (mi := 63) (n := 3) (ci := 13) (r := (RX8, TX8, 5)) rfl (cal_X8_fails (Nat.le_of_ble_eq_true rfl)) w_1290 w_1292 w_22 dX8_kept_7
theorem s_X8_kept_10 {X : ev_E} {l : Launch} (hG : ev_Good X) (hl : l.stackTraces = false) : ev_Snd X l ev_ms x_X8_kept tx_X8_kept 10 (i_ifeq 18 13) := s_ifeq dX8_kept_10 rfl
theorem s_X8_kept_13 {X : ev_E} {l : Launch} (hG : ev_Good X) (hl : l.stackTraces = false) : ev_Snd X l ev_ms x_X8_kept tx_X8_kept 13 (i_psh (.ref (X.2.2.2.2.2 (1000 + 117))) 15) := s_ldcS hG rfl w_1520 dX8_kept_13
theorem s_X8_kept_15 {X : ev_E} {l : Launch} (hG : ev_Good X) (hl : l.stackTraces = false) : ev_Snd X l ev_ms x_X8_kept tx_X8_kept 15 (i_goto 23) := s_goto dX8_kept_15 rfl
theorem s_X8_kept_18 {X : ev_E} {l : Launch} (hG : ev_Good X) (hl : l.stackTraces = false) : ev_Snd X l ev_ms x_X8_kept tx_X8_kept 18 (i_al 0 19) := s_aload_n dX8_kept_18 rfl
theorem s_X8_kept_19 {X : ev_E} {l : Launch} (hG : ev_Good X) (hl : l.stackTraces = false) : ev_Snd X l ev_ms x_X8_kept tx_X8_kept 19 (i_il 1 20) := s_iload_n dX8_kept_19 rfl
theorem s_X8_kept_20 {X : ev_E} {l : Launch} (hG : ev_Good X) (hl : l.stackTraces = false) : ev_Snd X l ev_ms x_X8_kept tx_X8_kept 20 (i_cV X 307 1 13 4 23) := s_invokevirtual hG (mi := 307) (n := 1) (ci := 13) (r := (RX8, TX8, 5)) rfl (cal_X8_keys (Nat.le_of_ble_eq_true rfl)) w_1656 w_1658 w_38 dX8_kept_20
theorem s_X8_kept_23 {X : ev_E} {l : Launch} (hG : ev_Good X) (hl : l.stackTraces = false) : ev_Snd X l ev_ms x_X8_kept tx_X8_kept 23 (i_ar) := s_areturn (rt := (.object "java/lang/String")) rfl (by first | exact Or.inl ⟨_, rfl⟩ | exact Or.inr ⟨_, rfl⟩) dX8_kept_23
theorem sa_X8_kept {X : ev_E} {l : Launch} (hG : ev_Good X) (hl : l.stackTraces = false) : ∀ q ∈ tb_X8_kept X, ev_Snd X l ev_ms x_X8_kept tx_X8_kept q.1 q.2 := by
  intro q hq
  unfold tb_X8_kept at hq
  simp only [List.mem_cons, List.not_mem_nil, or_false] at hq
  rcases hq with rfl | rfl | rfl | rfl | rfl | rfl | rfl | rfl | rfl | rfl | rfl | rfl | rfl
  · exact s_X8_kept_0 hG hl
  · exact s_X8_kept_1 hG hl
  · exact s_X8_kept_2 hG hl
  · exact s_X8_kept_5 hG hl
  · exact s_X8_kept_6 hG hl
  · exact s_X8_kept_7 hG hl
  · exact s_X8_kept_10 hG hl
  · exact s_X8_kept_13 hG hl
  · exact s_X8_kept_15 hG hl
  · exact s_X8_kept_18 hG hl
  · exact s_X8_kept_19 hG hl
  · exact s_X8_kept_20 hG hl
  · exact s_X8_kept_23 hG hl
def tx_X8_stack : ev_X := fun _ _ => some none
noncomputable def tb_X8_stack (X : ev_E) : List (Nat × (ev_S → ev_N)) := [(0, i_al 0 1), (1, i_psh (.int (0)) 2), (2, i_pf 13 0 (.int) 5), (5, i_al 0 6), (6, i_psh (.int (20)) 8), (8, i_cV X 307 1 13 4 11), (11, i_ar)]
theorem s_X8_stack_0 {X : ev_E} {l : Launch} (hG : ev_Good X) (hl : l.stackTraces = false) : ev_Snd X l ev_ms x_X8_stack tx_X8_stack 0 (i_al 0 1) := s_aload_n dX8_stack_0 rfl
theorem s_X8_stack_1 {X : ev_E} {l : Launch} (hG : ev_Good X) (hl : l.stackTraces = false) : ev_Snd X l ev_ms x_X8_stack tx_X8_stack 1 (i_psh (.int (0)) 2) := s_iconst dX8_stack_1 rfl
theorem s_X8_stack_2 {X : ev_E} {l : Launch} (hG : ev_Good X) (hl : l.stackTraces = false) : ev_Snd X l ev_ms x_X8_stack tx_X8_stack 2 (i_pf 13 0 (.int) 5) := s_putfield hG (ci := 13) (r := (RX8, TX8, 5)) rfl cw_13 ap_13 (k := 0) (Nat.le_of_ble_eq_true rfl) rfl (by decide +kernel) w_1260 rfl (Or.inl rfl) dX8_stack_2
theorem s_X8_stack_5 {X : ev_E} {l : Launch} (hG : ev_Good X) (hl : l.stackTraces = false) : ev_Snd X l ev_ms x_X8_stack tx_X8_stack 5 (i_al 0 6) := s_aload_n dX8_stack_5 rfl
theorem s_X8_stack_6 {X : ev_E} {l : Launch} (hG : ev_Good X) (hl : l.stackTraces = false) : ev_Snd X l ev_ms x_X8_stack tx_X8_stack 6 (i_psh (.int (20)) 8) := s_bipush dX8_stack_6 rfl
theorem s_X8_stack_8 {X : ev_E} {l : Launch} (hG : ev_Good X) (hl : l.stackTraces = false) : ev_Snd X l ev_ms x_X8_stack tx_X8_stack 8 (i_cV X 307 1 13 4 11) := s_invokevirtual hG (mi := 307) (n := 1) (ci := 13) (r := (RX8, TX8, 5)) rfl (cal_X8_keys (Nat.le_of_ble_eq_true rfl)) w_1656 w_1658 w_38 dX8_stack_8
theorem s_X8_stack_11 {X : ev_E} {l : Launch} (hG : ev_Good X) (hl : l.stackTraces = false) : ev_Snd X l ev_ms x_X8_stack tx_X8_stack 11 (i_ar) := s_areturn (rt := (.object "java/lang/String")) rfl (by first | exact Or.inl ⟨_, rfl⟩ | exact Or.inr ⟨_, rfl⟩) dX8_stack_11
theorem sa_X8_stack {X : ev_E} {l : Launch} (hG : ev_Good X) (hl : l.stackTraces = false) : ∀ q ∈ tb_X8_stack X, ev_Snd X l ev_ms x_X8_stack tx_X8_stack q.1 q.2 := by
  intro q hq
  unfold tb_X8_stack at hq
  simp only [List.mem_cons, List.not_mem_nil, or_false] at hq
  rcases hq with rfl | rfl | rfl | rfl | rfl | rfl | rfl
  · exact s_X8_stack_0 hG hl
  · exact s_X8_stack_1 hG hl
  · exact s_X8_stack_2 hG hl
  · exact s_X8_stack_5 hG hl
  · exact s_X8_stack_6 hG hl
  · exact s_X8_stack_8 hG hl
  · exact s_X8_stack_11 hG hl
