def tx_X2_renew : ev_X := fun _ _ => some none
noncomputable def tb_X2_renew (X : ev_E) : List (Nat × (ev_S → ev_N)) := [(0, i_al 0 1), (1, i_il 1 2), (2, i_pf 7 3 (.boolean) 5), (5, i_al 0 6), (6, i_il 2 7), (7, i_pf 7 4 (.int) 10), (10, i_al 0 11), (11, i_psh (.int (0)) 12), (12, i_pf 7 5 (.int) 15), (15, i_al 0 16), (16, i_psh (.int (-1)) 17), (17, i_pf 7 6 (.int) 20), (20, i_al 0 21), (21, i_cV X 35 0 7 2 24), (24, i_ir (.int))]
theorem s_X2_renew_0 {X : ev_E} {l : Launch} (hG : ev_Good X) (hl : l.stackTraces = false) : ev_Snd X l ev_ms x_X2_renew tx_X2_renew 0 (i_al 0 1) := s_aload_n dX2_renew_0 rfl
theorem s_X2_renew_1 {X : ev_E} {l : Launch} (hG : ev_Good X) (hl : l.stackTraces = false) : ev_Snd X l ev_ms x_X2_renew tx_X2_renew 1 (i_il 1 2) := s_iload_n dX2_renew_1 rfl
theorem s_X2_renew_2 {X : ev_E} {l : Launch} (hG : ev_Good X) (hl : l.stackTraces = false) : ev_Snd X l ev_ms x_X2_renew tx_X2_renew 2 (i_pf 7 3 (.boolean) 5) := s_putfield hG (ci := 7) (r := (RX2, TX2, 7)) rfl cw_7 ap_7 (k := 3) (Nat.le_of_ble_eq_true rfl) rfl (by decide +kernel) w_132 rfl (Or.inl rfl) dX2_renew_2
theorem s_X2_renew_5 {X : ev_E} {l : Launch} (hG : ev_Good X) (hl : l.stackTraces = false) : ev_Snd X l ev_ms x_X2_renew tx_X2_renew 5 (i_al 0 6) := s_aload_n dX2_renew_5 rfl
theorem s_X2_renew_6 {X : ev_E} {l : Launch} (hG : ev_Good X) (hl : l.stackTraces = false) : ev_Snd X l ev_ms x_X2_renew tx_X2_renew 6 (i_il 2 7) := s_iload_n dX2_renew_6 rfl
theorem s_X2_renew_7 {X : ev_E} {l : Launch} (hG : ev_Good X) (hl : l.stackTraces = false) : ev_Snd X l ev_ms x_X2_renew tx_X2_renew 7 (i_pf 7 4 (.int) 10) := s_putfield hG (ci := 7) (r := (RX2, TX2, 7)) rfl cw_7 ap_7 (k := 4) (Nat.le_of_ble_eq_true rfl) rfl (by decide +kernel) w_134 rfl (Or.inl rfl) dX2_renew_7
theorem s_X2_renew_10 {X : ev_E} {l : Launch} (hG : ev_Good X) (hl : l.stackTraces = false) : ev_Snd X l ev_ms x_X2_renew tx_X2_renew 10 (i_al 0 11) := s_aload_n dX2_renew_10 rfl
theorem s_X2_renew_11 {X : ev_E} {l : Launch} (hG : ev_Good X) (hl : l.stackTraces = false) : ev_Snd X l ev_ms x_X2_renew tx_X2_renew 11 (i_psh (.int (0)) 12) := s_iconst dX2_renew_11 rfl
theorem s_X2_renew_12 {X : ev_E} {l : Launch} (hG : ev_Good X) (hl : l.stackTraces = false) : ev_Snd X l ev_ms x_X2_renew tx_X2_renew 12 (i_pf 7 5 (.int) 15) := s_putfield hG (ci := 7) (r := (RX2, TX2, 7)) rfl cw_7 ap_7 (k := 5) (Nat.le_of_ble_eq_true rfl) rfl (by decide +kernel) w_137 rfl (Or.inl rfl) dX2_renew_12
theorem s_X2_renew_15 {X : ev_E} {l : Launch} (hG : ev_Good X) (hl : l.stackTraces = false) : ev_Snd X l ev_ms x_X2_renew tx_X2_renew 15 (i_al 0 16) := s_aload_n dX2_renew_15 rfl
theorem s_X2_renew_16 {X : ev_E} {l : Launch} (hG : ev_Good X) (hl : l.stackTraces = false) : ev_Snd X l ev_ms x_X2_renew tx_X2_renew 16 (i_psh (.int (-1)) 17) := s_iconst dX2_renew_16 rfl
theorem s_X2_renew_17 {X : ev_E} {l : Launch} (hG : ev_Good X) (hl : l.stackTraces = false) : ev_Snd X l ev_ms x_X2_renew tx_X2_renew 17 (i_pf 7 6 (.int) 20) := s_putfield hG (ci := 7) (r := (RX2, TX2, 7)) rfl cw_7 ap_7 (k := 6) (Nat.le_of_ble_eq_true rfl) rfl (by decide +kernel) w_139 rfl (Or.inl rfl) dX2_renew_17
theorem s_X2_renew_20 {X : ev_E} {l : Launch} (hG : ev_Good X) (hl : l.stackTraces = false) : ev_Snd X l ev_ms x_X2_renew tx_X2_renew 20 (i_al 0 21) := s_aload_n dX2_renew_20 rfl
theorem s_X2_renew_21 {X : ev_E} {l : Launch} (hG : ev_Good X) (hl : l.stackTraces = false) : ev_Snd X l ev_ms x_X2_renew tx_X2_renew 21 (i_cV X 35 0 7 2 24) := s_invokevirtual hG (mi := 35) (n := 0) (ci := 7) (r := (RX2, TX2, 7)) rfl (cal_X2_dropAll (Nat.le_of_ble_eq_true rfl)) w_247 w_248 w_249 dX2_renew_21
theorem s_X2_renew_24 {X : ev_E} {l : Launch} (hG : ev_Good X) (hl : l.stackTraces = false) : ev_Snd X l ev_ms x_X2_renew tx_X2_renew 24 (i_ir (.int)) := s_ireturn rfl dX2_renew_24
theorem sa_X2_renew {X : ev_E} {l : Launch} (hG : ev_Good X) (hl : l.stackTraces = false) : ∀ q ∈ tb_X2_renew X, ev_Snd X l ev_ms x_X2_renew tx_X2_renew q.1 q.2 := by
  intro q hq
  unfold tb_X2_renew at hq
  simp only [List.mem_cons, List.not_mem_nil, or_false] at hq
  rcases hq with rfl | rfl | rfl | rfl | rfl | rfl | rfl | rfl | rfl | rfl | rfl | rfl | rfl | rfl | rfl
  · exact s_X2_renew_0 hG hl
  · exact s_X2_renew_1 hG hl
  · exact s_X2_renew_2 hG hl
  · exact s_X2_renew_5 hG hl
  · exact s_X2_renew_6 hG hl
  · exact s_X2_renew_7 hG hl
  · exact s_X2_renew_10 hG hl
  · exact s_X2_renew_11 hG hl
  · exact s_X2_renew_12 hG hl
  · exact s_X2_renew_15 hG hl
  · exact s_X2_renew_16 hG hl
  · exact s_X2_renew_17 hG hl
  · exact s_X2_renew_20 hG hl
  · exact s_X2_renew_21 hG hl
  · exact s_X2_renew_24 hG hl
def tx_X2_told : ev_X := fun _ _ => some none
noncomputable def tb_X2_told (X : ev_E) : List (Nat × (ev_S → ev_N)) := [(0, i_al 0 1), (1, i_il 1 2), (2, i_cV X 39 1 7 2 5), (5, i_ifne 10 8), (8, i_psh (.int (-1)) 9), (9, i_ir (.int)), (10, i_il 2 11), (11, i_ifne 21 14), (14, i_al 0 15), (15, i_gf X 7 0 18), (18, i_il 1 19), (19, i_ald X ev_tI 20), (20, i_ir (.int)), (21, i_il 2 22), (22, i_psh (.int (1)) 23), (23, i_icne 33 26), (26, i_al 0 27), (27, i_gf X 7 1 30), (30, i_il 1 31), (31, i_ald X ev_tI 32), (32, i_ir (.int)), (33, i_al 0 34), (34, i_gf X 7 0 37), (37, i_il 1 38), (38, i_ald X ev_tI 39), (39, i_psh (.int (100)) 41), (41, i_ii (fun a b => a * b) 42), (42, i_al 0 43), (43, i_gf X 7 1 46), (46, i_il 1 47), (47, i_ald X ev_tI 48), (48, i_ii (fun a b => a + b) 49), (49, i_ir (.int))]
theorem s_X2_told_0 {X : ev_E} {l : Launch} (hG : ev_Good X) (hl : l.stackTraces = false) : ev_Snd X l ev_ms x_X2_told tx_X2_told 0 (i_al 0 1) := s_aload_n dX2_told_0 rfl
theorem s_X2_told_1 {X : ev_E} {l : Launch} (hG : ev_Good X) (hl : l.stackTraces = false) : ev_Snd X l ev_ms x_X2_told tx_X2_told 1 (i_il 1 2) := s_iload_n dX2_told_1 rfl
theorem s_X2_told_2 {X : ev_E} {l : Launch} (hG : ev_Good X) (hl : l.stackTraces = false) : ev_Snd X l ev_ms x_X2_told tx_X2_told 2 (i_cV X 39 1 7 2 5) := s_invokevirtual hG (mi := 39) (n := 1) (ci := 7) (r := (RX2, TX2, 7)) rfl (cal_X2_isPlace (Nat.le_of_ble_eq_true rfl)) w_741 w_742 w_743 dX2_told_2
theorem s_X2_told_5 {X : ev_E} {l : Launch} (hG : ev_Good X) (hl : l.stackTraces = false) : ev_Snd X l ev_ms x_X2_told tx_X2_told 5 (i_ifne 10 8) := s_ifne dX2_told_5 rfl
theorem s_X2_told_8 {X : ev_E} {l : Launch} (hG : ev_Good X) (hl : l.stackTraces = false) : ev_Snd X l ev_ms x_X2_told tx_X2_told 8 (i_psh (.int (-1)) 9) := s_iconst dX2_told_8 rfl
theorem s_X2_told_9 {X : ev_E} {l : Launch} (hG : ev_Good X) (hl : l.stackTraces = false) : ev_Snd X l ev_ms x_X2_told tx_X2_told 9 (i_ir (.int)) := s_ireturn rfl dX2_told_9
theorem s_X2_told_10 {X : ev_E} {l : Launch} (hG : ev_Good X) (hl : l.stackTraces = false) : ev_Snd X l ev_ms x_X2_told tx_X2_told 10 (i_il 2 11) := s_iload_n dX2_told_10 rfl
theorem s_X2_told_11 {X : ev_E} {l : Launch} (hG : ev_Good X) (hl : l.stackTraces = false) : ev_Snd X l ev_ms x_X2_told tx_X2_told 11 (i_ifne 21 14) := s_ifne dX2_told_11 rfl
theorem s_X2_told_14 {X : ev_E} {l : Launch} (hG : ev_Good X) (hl : l.stackTraces = false) : ev_Snd X l ev_ms x_X2_told tx_X2_told 14 (i_al 0 15) := s_aload_n dX2_told_14 rfl
theorem s_X2_told_15 {X : ev_E} {l : Launch} (hG : ev_Good X) (hl : l.stackTraces = false) : ev_Snd X l ev_ms x_X2_told tx_X2_told 15 (i_gf X 7 0 18) := s_getfield hG (ci := 7) (r := (RX2, TX2, 7)) rfl cw_7 (k := 0) (Nat.le_of_ble_eq_true rfl) w_127 rfl (Or.inl rfl) dX2_told_15
theorem s_X2_told_18 {X : ev_E} {l : Launch} (hG : ev_Good X) (hl : l.stackTraces = false) : ev_Snd X l ev_ms x_X2_told tx_X2_told 18 (i_il 1 19) := s_iload_n dX2_told_18 rfl
theorem s_X2_told_19 {X : ev_E} {l : Launch} (hG : ev_Good X) (hl : l.stackTraces = false) : ev_Snd X l ev_ms x_X2_told tx_X2_told 19 (i_ald X ev_tI 20) := s_iaload hG dX2_told_19
theorem s_X2_told_20 {X : ev_E} {l : Launch} (hG : ev_Good X) (hl : l.stackTraces = false) : ev_Snd X l ev_ms x_X2_told tx_X2_told 20 (i_ir (.int)) := s_ireturn rfl dX2_told_20
theorem s_X2_told_21 {X : ev_E} {l : Launch} (hG : ev_Good X) (hl : l.stackTraces = false) : ev_Snd X l ev_ms x_X2_told tx_X2_told 21 (i_il 2 22) := s_iload_n dX2_told_21 rfl
theorem s_X2_told_22 {X : ev_E} {l : Launch} (hG : ev_Good X) (hl : l.stackTraces = false) : ev_Snd X l ev_ms x_X2_told tx_X2_told 22 (i_psh (.int (1)) 23) := s_iconst dX2_told_22 rfl
theorem s_X2_told_23 {X : ev_E} {l : Launch} (hG : ev_Good X) (hl : l.stackTraces = false) : ev_Snd X l ev_ms x_X2_told tx_X2_told 23 (i_icne 33 26) := s_icne dX2_told_23 rfl
theorem s_X2_told_26 {X : ev_E} {l : Launch} (hG : ev_Good X) (hl : l.stackTraces = false) : ev_Snd X l ev_ms x_X2_told tx_X2_told 26 (i_al 0 27) := s_aload_n dX2_told_26 rfl
theorem s_X2_told_27 {X : ev_E} {l : Launch} (hG : ev_Good X) (hl : l.stackTraces = false) : ev_Snd X l ev_ms x_X2_told tx_X2_told 27 (i_gf X 7 1 30) := s_getfield hG (ci := 7) (r := (RX2, TX2, 7)) rfl cw_7 (k := 1) (Nat.le_of_ble_eq_true rfl) w_128 rfl (Or.inl rfl) dX2_told_27
theorem s_X2_told_30 {X : ev_E} {l : Launch} (hG : ev_Good X) (hl : l.stackTraces = false) : ev_Snd X l ev_ms x_X2_told tx_X2_told 30 (i_il 1 31) := s_iload_n dX2_told_30 rfl
theorem s_X2_told_31 {X : ev_E} {l : Launch} (hG : ev_Good X) (hl : l.stackTraces = false) : ev_Snd X l ev_ms x_X2_told tx_X2_told 31 (i_ald X ev_tI 32) := s_iaload hG dX2_told_31
theorem s_X2_told_32 {X : ev_E} {l : Launch} (hG : ev_Good X) (hl : l.stackTraces = false) : ev_Snd X l ev_ms x_X2_told tx_X2_told 32 (i_ir (.int)) := s_ireturn rfl dX2_told_32
theorem s_X2_told_33 {X : ev_E} {l : Launch} (hG : ev_Good X) (hl : l.stackTraces = false) : ev_Snd X l ev_ms x_X2_told tx_X2_told 33 (i_al 0 34) := s_aload_n dX2_told_33 rfl
theorem s_X2_told_34 {X : ev_E} {l : Launch} (hG : ev_Good X) (hl : l.stackTraces = false) : ev_Snd X l ev_ms x_X2_told tx_X2_told 34 (i_gf X 7 0 37) := s_getfield hG (ci := 7) (r := (RX2, TX2, 7)) rfl cw_7 (k := 0) (Nat.le_of_ble_eq_true rfl) w_127 rfl (Or.inl rfl) dX2_told_34
theorem s_X2_told_37 {X : ev_E} {l : Launch} (hG : ev_Good X) (hl : l.stackTraces = false) : ev_Snd X l ev_ms x_X2_told tx_X2_told 37 (i_il 1 38) := s_iload_n dX2_told_37 rfl
theorem s_X2_told_38 {X : ev_E} {l : Launch} (hG : ev_Good X) (hl : l.stackTraces = false) : ev_Snd X l ev_ms x_X2_told tx_X2_told 38 (i_ald X ev_tI 39) := s_iaload hG dX2_told_38
theorem s_X2_told_39 {X : ev_E} {l : Launch} (hG : ev_Good X) (hl : l.stackTraces = false) : ev_Snd X l ev_ms x_X2_told tx_X2_told 39 (i_psh (.int (100)) 41) := s_bipush dX2_told_39 rfl
theorem s_X2_told_41 {X : ev_E} {l : Launch} (hG : ev_Good X) (hl : l.stackTraces = false) : ev_Snd X l ev_ms x_X2_told tx_X2_told 41 (i_ii (fun a b => a * b) 42) := s_imul dX2_told_41
theorem s_X2_told_42 {X : ev_E} {l : Launch} (hG : ev_Good X) (hl : l.stackTraces = false) : ev_Snd X l ev_ms x_X2_told tx_X2_told 42 (i_al 0 43) := s_aload_n dX2_told_42 rfl
theorem s_X2_told_43 {X : ev_E} {l : Launch} (hG : ev_Good X) (hl : l.stackTraces = false) : ev_Snd X l ev_ms x_X2_told tx_X2_told 43 (i_gf X 7 1 46) := s_getfield hG (ci := 7) (r := (RX2, TX2, 7)) rfl cw_7 (k := 1) (Nat.le_of_ble_eq_true rfl) w_128 rfl (Or.inl rfl) dX2_told_43
theorem s_X2_told_46 {X : ev_E} {l : Launch} (hG : ev_Good X) (hl : l.stackTraces = false) : ev_Snd X l ev_ms x_X2_told tx_X2_told 46 (i_il 1 47) := s_iload_n dX2_told_46 rfl
theorem s_X2_told_47 {X : ev_E} {l : Launch} (hG : ev_Good X) (hl : l.stackTraces = false) : ev_Snd X l ev_ms x_X2_told tx_X2_told 47 (i_ald X ev_tI 48) := s_iaload hG dX2_told_47
theorem s_X2_told_48 {X : ev_E} {l : Launch} (hG : ev_Good X) (hl : l.stackTraces = false) : ev_Snd X l ev_ms x_X2_told tx_X2_told 48 (i_ii (fun a b => a + b) 49) := s_iadd dX2_told_48
theorem s_X2_told_49 {X : ev_E} {l : Launch} (hG : ev_Good X) (hl : l.stackTraces = false) : ev_Snd X l ev_ms x_X2_told tx_X2_told 49 (i_ir (.int)) := s_ireturn rfl dX2_told_49
theorem sa_X2_told {X : ev_E} {l : Launch} (hG : ev_Good X) (hl : l.stackTraces = false) : ∀ q ∈ tb_X2_told X, ev_Snd X l ev_ms x_X2_told tx_X2_told q.1 q.2 := by
  intro q hq
  unfold tb_X2_told at hq
  simp only [List.mem_cons, List.not_mem_nil, or_false] at hq
  rcases hq with rfl | rfl | rfl | rfl | rfl | rfl | rfl | rfl | rfl | rfl | rfl | rfl | rfl | rfl | rfl | rfl | rfl | rfl | rfl | rfl | rfl | rfl | rfl | rfl | rfl | rfl | rfl | rfl | rfl | rfl | rfl | rfl | rfl
  · exact s_X2_told_0 hG hl
  · exact s_X2_told_1 hG hl
  · exact s_X2_told_2 hG hl
  · exact s_X2_told_5 hG hl
  · exact s_X2_told_8 hG hl
  · exact s_X2_told_9 hG hl
  · exact s_X2_told_10 hG hl
  · exact s_X2_told_11 hG hl
  · exact s_X2_told_14 hG hl
  · exact s_X2_told_15 hG hl
  · exact s_X2_told_18 hG hl
  · exact s_X2_told_19 hG hl
  · exact s_X2_told_20 hG hl
  · exact s_X2_told_21 hG hl
  · exact s_X2_told_22 hG hl
  · exact s_X2_told_23 hG hl
  · exact s_X2_told_26 hG hl
  · exact s_X2_told_27 hG hl
  · exact s_X2_told_30 hG hl
  · exact s_X2_told_31 hG hl
  · exact s_X2_told_32 hG hl
  · exact s_X2_told_33 hG hl
  · exact s_X2_told_34 hG hl
  · exact s_X2_told_37 hG hl
  · exact s_X2_told_38 hG hl
  · exact s_X2_told_39 hG hl
  · exact s_X2_told_41 hG hl
  · exact s_X2_told_42 hG hl
  · exact s_X2_told_43 hG hl
  · exact s_X2_told_46 hG hl
  · exact s_X2_told_47 hG hl
  · exact s_X2_told_48 hG hl
  · exact s_X2_told_49 hG hl
def tx_X3_init : ev_X := fun pc _ => bif List.elem pc [15] then none else some none
noncomputable def tb_X3_init (X : ev_E) : List (Nat × (ev_S → ev_N)) := [(0, i_al 0 1), (1, i_oi 4), (4, i_al 0 5), (5, i_al 1 6), (6, i_pf 8 0 (.object "Lastasked$Row") 9), (9, i_al 0 10), (10, i_nw 9 6 [.null, .int 0, .int 0, .int 0, .int 0, .int 0] 13), (13, i_dup 14), (14, i_al 1 15), (15, i_cI 42 1 2 18), (18, i_pf 8 1 (.object "Lastasked$Walk") 21), (21, i_vr)]
theorem s_X3_init_0 {X : ev_E} {l : Launch} (hG : ev_Good X) (hl : l.stackTraces = false) : ev_Snd X l ev_ms x_X3_init tx_X3_init 0 (i_al 0 1) := s_aload_n dX3_init_0 rfl
theorem s_X3_init_1 {X : ev_E} {l : Launch} (hG : ev_Good X) (hl : l.stackTraces = false) : ev_Snd X l ev_ms x_X3_init tx_X3_init 1 (i_oi 4) := s_objinit hG w_162 w_88 w_89 dX3_init_1
theorem s_X3_init_4 {X : ev_E} {l : Launch} (hG : ev_Good X) (hl : l.stackTraces = false) : ev_Snd X l ev_ms x_X3_init tx_X3_init 4 (i_al 0 5) := s_aload_n dX3_init_4 rfl
theorem s_X3_init_5 {X : ev_E} {l : Launch} (hG : ev_Good X) (hl : l.stackTraces = false) : ev_Snd X l ev_ms x_X3_init tx_X3_init 5 (i_al 1 6) := s_aload_n dX3_init_5 rfl
theorem s_X3_init_6 {X : ev_E} {l : Launch} (hG : ev_Good X) (hl : l.stackTraces = false) : ev_Snd X l ev_ms x_X3_init tx_X3_init 6 (i_pf 8 0 (.object "Lastasked$Row") 9) := s_putfieldF hG (ci := 8) (r := (RX3, TX3, 2)) rfl cw_8 ap_8 (k := 0) (Nat.le_of_ble_eq_true rfl) rfl rfl rfl (by decide +kernel) w_188 rfl dX3_init_6
theorem s_X3_init_9 {X : ev_E} {l : Launch} (hG : ev_Good X) (hl : l.stackTraces = false) : ev_Snd X l ev_ms x_X3_init tx_X3_init 9 (i_al 0 10) := s_aload_n dX3_init_9 rfl
theorem s_X3_init_10 {X : ev_E} {l : Launch} (hG : ev_Good X) (hl : l.stackTraces = false) : ev_Snd X l ev_ms x_X3_init tx_X3_init 10 (i_nw 9 6 [.null, .int 0, .int 0, .int 0, .int 0, .int 0] 13) := s_new hG (ci := 9) (r := (RX4, TX4, 6)) rfl cw_9 tyX4 tyX4_ok (fun j hj => nw_9 j hj) w_163 rfl w_164 rfl w_53 rfl dX3_init_10
theorem s_X3_init_13 {X : ev_E} {l : Launch} (hG : ev_Good X) (hl : l.stackTraces = false) : ev_Snd X l ev_ms x_X3_init tx_X3_init 13 (i_dup 14) := s_dup dX3_init_13
theorem s_X3_init_14 {X : ev_E} {l : Launch} (hG : ev_Good X) (hl : l.stackTraces = false) : ev_Snd X l ev_ms x_X3_init tx_X3_init 14 (i_al 1 15) := s_aload_n dX3_init_14 rfl
theorem s_X3_init_15 {X : ev_E} {l : Launch} (hG : ev_Good X) (hl : l.stackTraces = false) : ev_Snd X l ev_ms x_X3_init tx_X3_init 15 (i_cI 42 1 2 18) := s_invokeinit hG (mi := 42) (n := 1) (cal_X4_init (Nat.le_of_ble_eq_true rfl)) rfl w_165 w_166 rfl (fun _ => rfl) dX3_init_15
theorem s_X3_init_18 {X : ev_E} {l : Launch} (hG : ev_Good X) (hl : l.stackTraces = false) : ev_Snd X l ev_ms x_X3_init tx_X3_init 18 (i_pf 8 1 (.object "Lastasked$Walk") 21) := s_putfieldF hG (ci := 8) (r := (RX3, TX3, 2)) rfl cw_8 ap_8 (k := 1) (Nat.le_of_ble_eq_true rfl) rfl rfl rfl (by decide +kernel) w_190 rfl dX3_init_18
theorem s_X3_init_21 {X : ev_E} {l : Launch} (hG : ev_Good X) (hl : l.stackTraces = false) : ev_Snd X l ev_ms x_X3_init tx_X3_init 21 (i_vr) := s_return rfl dX3_init_21
theorem sa_X3_init {X : ev_E} {l : Launch} (hG : ev_Good X) (hl : l.stackTraces = false) : ∀ q ∈ tb_X3_init X, ev_Snd X l ev_ms x_X3_init tx_X3_init q.1 q.2 := by
  intro q hq
  unfold tb_X3_init at hq
  simp only [List.mem_cons, List.not_mem_nil, or_false] at hq
  rcases hq with rfl | rfl | rfl | rfl | rfl | rfl | rfl | rfl | rfl | rfl | rfl | rfl
  · exact s_X3_init_0 hG hl
  · exact s_X3_init_1 hG hl
  · exact s_X3_init_4 hG hl
  · exact s_X3_init_5 hG hl
  · exact s_X3_init_6 hG hl
  · exact s_X3_init_9 hG hl
  · exact s_X3_init_10 hG hl
  · exact s_X3_init_13 hG hl
  · exact s_X3_init_14 hG hl
  · exact s_X3_init_15 hG hl
  · exact s_X3_init_18 hG hl
  · exact s_X3_init_21 hG hl
def tx_X4_canCut : ev_X := fun _ _ => some none
noncomputable def tb_X4_canCut (X : ev_E) : List (Nat × (ev_S → ev_N)) := [(0, i_al 0 1), (1, i_cV X 44 0 9 1 4), (4, i_ifeq 18 7), (7, i_al 0 8), (8, i_gf X 9 3 11), (11, i_ifeq 18 14), (14, i_psh (.int (1)) 15), (15, i_goto 19), (18, i_psh (.int (0)) 19), (19, i_ir (.boolean))]
theorem s_X4_canCut_0 {X : ev_E} {l : Launch} (hG : ev_Good X) (hl : l.stackTraces = false) : ev_Snd X l ev_ms x_X4_canCut tx_X4_canCut 0 (i_al 0 1) := s_aload_n dX4_canCut_0 rfl
theorem s_X4_canCut_1 {X : ev_E} {l : Launch} (hG : ev_Good X) (hl : l.stackTraces = false) : ev_Snd X l ev_ms x_X4_canCut tx_X4_canCut 1 (i_cV X 44 0 9 1 4) := s_invokevirtual hG (mi := 44) (n := 0) (ci := 9) (r := (RX4, TX4, 6)) rfl (cal_X4_isUsable (Nat.le_of_ble_eq_true rfl)) w_753 w_754 w_755 dX4_canCut_1
theorem s_X4_canCut_4 {X : ev_E} {l : Launch} (hG : ev_Good X) (hl : l.stackTraces = false) : ev_Snd X l ev_ms x_X4_canCut tx_X4_canCut 4 (i_ifeq 18 7) := s_ifeq dX4_canCut_4 rfl
theorem s_X4_canCut_7 {X : ev_E} {l : Launch} (hG : ev_Good X) (hl : l.stackTraces = false) : ev_Snd X l ev_ms x_X4_canCut tx_X4_canCut 7 (i_al 0 8) := s_aload_n dX4_canCut_7 rfl
theorem s_X4_canCut_8 {X : ev_E} {l : Launch} (hG : ev_Good X) (hl : l.stackTraces = false) : ev_Snd X l ev_ms x_X4_canCut tx_X4_canCut 8 (i_gf X 9 3 11) := s_getfield hG (ci := 9) (r := (RX4, TX4, 6)) rfl cw_9 (k := 3) (Nat.le_of_ble_eq_true rfl) w_172 rfl (Or.inl rfl) dX4_canCut_8
theorem s_X4_canCut_11 {X : ev_E} {l : Launch} (hG : ev_Good X) (hl : l.stackTraces = false) : ev_Snd X l ev_ms x_X4_canCut tx_X4_canCut 11 (i_ifeq 18 14) := s_ifeq dX4_canCut_11 rfl
theorem s_X4_canCut_14 {X : ev_E} {l : Launch} (hG : ev_Good X) (hl : l.stackTraces = false) : ev_Snd X l ev_ms x_X4_canCut tx_X4_canCut 14 (i_psh (.int (1)) 15) := s_iconst dX4_canCut_14 rfl
theorem s_X4_canCut_15 {X : ev_E} {l : Launch} (hG : ev_Good X) (hl : l.stackTraces = false) : ev_Snd X l ev_ms x_X4_canCut tx_X4_canCut 15 (i_goto 19) := s_goto dX4_canCut_15 rfl
theorem s_X4_canCut_18 {X : ev_E} {l : Launch} (hG : ev_Good X) (hl : l.stackTraces = false) : ev_Snd X l ev_ms x_X4_canCut tx_X4_canCut 18 (i_psh (.int (0)) 19) := s_iconst dX4_canCut_18 rfl
theorem s_X4_canCut_19 {X : ev_E} {l : Launch} (hG : ev_Good X) (hl : l.stackTraces = false) : ev_Snd X l ev_ms x_X4_canCut tx_X4_canCut 19 (i_ir (.boolean)) := s_ireturn rfl dX4_canCut_19
theorem sa_X4_canCut {X : ev_E} {l : Launch} (hG : ev_Good X) (hl : l.stackTraces = false) : ∀ q ∈ tb_X4_canCut X, ev_Snd X l ev_ms x_X4_canCut tx_X4_canCut q.1 q.2 := by
  intro q hq
  unfold tb_X4_canCut at hq
  simp only [List.mem_cons, List.not_mem_nil, or_false] at hq
  rcases hq with rfl | rfl | rfl | rfl | rfl | rfl | rfl | rfl | rfl | rfl
  · exact s_X4_canCut_0 hG hl
  · exact s_X4_canCut_1 hG hl
  · exact s_X4_canCut_4 hG hl
  · exact s_X4_canCut_7 hG hl
  · exact s_X4_canCut_8 hG hl
  · exact s_X4_canCut_11 hG hl
  · exact s_X4_canCut_14 hG hl
  · exact s_X4_canCut_15 hG hl
  · exact s_X4_canCut_18 hG hl
  · exact s_X4_canCut_19 hG hl
def tx_X4_isAnyAhead : ev_X := fun _ _ => some none
noncomputable def tb_X4_isAnyAhead (X : ev_E) : List (Nat × (ev_S → ev_N)) := [(0, i_al 0 1), (1, i_cV X 44 0 9 1 4), (4, i_ifeq 25 7), (7, i_al 0 8), (8, i_gf X 9 0 11), (11, i_al 0 12), (12, i_gf X 9 5 15), (15, i_cV X 39 1 7 2 18), (18, i_ifeq 25 21), (21, i_psh (.int (1)) 22), (22, i_goto 26), (25, i_psh (.int (0)) 26), (26, i_ir (.boolean))]
theorem s_X4_isAnyAhead_0 {X : ev_E} {l : Launch} (hG : ev_Good X) (hl : l.stackTraces = false) : ev_Snd X l ev_ms x_X4_isAnyAhead tx_X4_isAnyAhead 0 (i_al 0 1) := s_aload_n dX4_isAnyAhead_0 rfl
theorem s_X4_isAnyAhead_1 {X : ev_E} {l : Launch} (hG : ev_Good X) (hl : l.stackTraces = false) : ev_Snd X l ev_ms x_X4_isAnyAhead tx_X4_isAnyAhead 1 (i_cV X 44 0 9 1 4) := s_invokevirtual hG (mi := 44) (n := 0) (ci := 9) (r := (RX4, TX4, 6)) rfl (cal_X4_isUsable (Nat.le_of_ble_eq_true rfl)) w_753 w_754 w_755 dX4_isAnyAhead_1
theorem s_X4_isAnyAhead_4 {X : ev_E} {l : Launch} (hG : ev_Good X) (hl : l.stackTraces = false) : ev_Snd X l ev_ms x_X4_isAnyAhead tx_X4_isAnyAhead 4 (i_ifeq 25 7) := s_ifeq dX4_isAnyAhead_4 rfl
theorem s_X4_isAnyAhead_7 {X : ev_E} {l : Launch} (hG : ev_Good X) (hl : l.stackTraces = false) : ev_Snd X l ev_ms x_X4_isAnyAhead tx_X4_isAnyAhead 7 (i_al 0 8) := s_aload_n dX4_isAnyAhead_7 rfl
theorem s_X4_isAnyAhead_8 {X : ev_E} {l : Launch} (hG : ev_Good X) (hl : l.stackTraces = false) : ev_Snd X l ev_ms x_X4_isAnyAhead tx_X4_isAnyAhead 8 (i_gf X 9 0 11) := s_getfield hG (ci := 9) (r := (RX4, TX4, 6)) rfl cw_9 (k := 0) (Nat.le_of_ble_eq_true rfl) w_169 rfl (Or.inl rfl) dX4_isAnyAhead_8
theorem s_X4_isAnyAhead_11 {X : ev_E} {l : Launch} (hG : ev_Good X) (hl : l.stackTraces = false) : ev_Snd X l ev_ms x_X4_isAnyAhead tx_X4_isAnyAhead 11 (i_al 0 12) := s_aload_n dX4_isAnyAhead_11 rfl
theorem s_X4_isAnyAhead_12 {X : ev_E} {l : Launch} (hG : ev_Good X) (hl : l.stackTraces = false) : ev_Snd X l ev_ms x_X4_isAnyAhead tx_X4_isAnyAhead 12 (i_gf X 9 5 15) := s_getfield hG (ci := 9) (r := (RX4, TX4, 6)) rfl cw_9 (k := 5) (Nat.le_of_ble_eq_true rfl) w_174 rfl (Or.inl rfl) dX4_isAnyAhead_12
theorem s_X4_isAnyAhead_15 {X : ev_E} {l : Launch} (hG : ev_Good X) (hl : l.stackTraces = false) : ev_Snd X l ev_ms x_X4_isAnyAhead tx_X4_isAnyAhead 15 (i_cV X 39 1 7 2 18) := s_invokevirtual hG (mi := 39) (n := 1) (ci := 7) (r := (RX2, TX2, 7)) rfl (cal_X2_isPlace (Nat.le_of_ble_eq_true rfl)) w_757 w_742 w_743 dX4_isAnyAhead_15
theorem s_X4_isAnyAhead_18 {X : ev_E} {l : Launch} (hG : ev_Good X) (hl : l.stackTraces = false) : ev_Snd X l ev_ms x_X4_isAnyAhead tx_X4_isAnyAhead 18 (i_ifeq 25 21) := s_ifeq dX4_isAnyAhead_18 rfl
theorem s_X4_isAnyAhead_21 {X : ev_E} {l : Launch} (hG : ev_Good X) (hl : l.stackTraces = false) : ev_Snd X l ev_ms x_X4_isAnyAhead tx_X4_isAnyAhead 21 (i_psh (.int (1)) 22) := s_iconst dX4_isAnyAhead_21 rfl
theorem s_X4_isAnyAhead_22 {X : ev_E} {l : Launch} (hG : ev_Good X) (hl : l.stackTraces = false) : ev_Snd X l ev_ms x_X4_isAnyAhead tx_X4_isAnyAhead 22 (i_goto 26) := s_goto dX4_isAnyAhead_22 rfl
theorem s_X4_isAnyAhead_25 {X : ev_E} {l : Launch} (hG : ev_Good X) (hl : l.stackTraces = false) : ev_Snd X l ev_ms x_X4_isAnyAhead tx_X4_isAnyAhead 25 (i_psh (.int (0)) 26) := s_iconst dX4_isAnyAhead_25 rfl
theorem s_X4_isAnyAhead_26 {X : ev_E} {l : Launch} (hG : ev_Good X) (hl : l.stackTraces = false) : ev_Snd X l ev_ms x_X4_isAnyAhead tx_X4_isAnyAhead 26 (i_ir (.boolean)) := s_ireturn rfl dX4_isAnyAhead_26
theorem sa_X4_isAnyAhead {X : ev_E} {l : Launch} (hG : ev_Good X) (hl : l.stackTraces = false) : ∀ q ∈ tb_X4_isAnyAhead X, ev_Snd X l ev_ms x_X4_isAnyAhead tx_X4_isAnyAhead q.1 q.2 := by
  intro q hq
  unfold tb_X4_isAnyAhead at hq
  simp only [List.mem_cons, List.not_mem_nil, or_false] at hq
  rcases hq with rfl | rfl | rfl | rfl | rfl | rfl | rfl | rfl | rfl | rfl | rfl | rfl | rfl
  · exact s_X4_isAnyAhead_0 hG hl
  · exact s_X4_isAnyAhead_1 hG hl
  · exact s_X4_isAnyAhead_4 hG hl
  · exact s_X4_isAnyAhead_7 hG hl
  · exact s_X4_isAnyAhead_8 hG hl
  · exact s_X4_isAnyAhead_11 hG hl
  · exact s_X4_isAnyAhead_12 hG hl
  · exact s_X4_isAnyAhead_15 hG hl
  · exact s_X4_isAnyAhead_18 hG hl
  · exact s_X4_isAnyAhead_21 hG hl
  · exact s_X4_isAnyAhead_22 hG hl
  · exact s_X4_isAnyAhead_25 hG hl
  · exact s_X4_isAnyAhead_26 hG hl
def tx_X5_areMissesByDepth : ev_X := fun _ _ => some none
noncomputable def tb_X5_areMissesByDepth (X : ev_E) : List (Nat × (ev_S → ev_N)) := [(0, i_al 0 1), (1, i_gf X 10 3 4), (4, i_as 1 5), (5, i_al 1 6), (6, i_len X 7), (7, i_is 2 8), (8, i_psh (.int (0)) 9), (9, i_is 3 10), (10, i_il 3 11), (11, i_il 2 12), (12, i_icge 51 15), (15, i_al 1 16), (16, i_il 3 17), (17, i_ald X FieldType.isReference 18), (18, i_as 4 20), (20, i_al 4 22), (22, i_gf X 6 1 25), (25, i_al 0 26), (26, i_gf X 10 1 29), (29, i_al 4 31), (31, i_gf X 6 0 34), (34, i_gf X 7 4 37), (37, i_cV X 28 1 5 4 40), (40, i_iceq 45 43), (43, i_psh (.int (0)) 44), (44, i_ir (.boolean)), (45, i_inc 3 (1) 48), (48, i_goto 10), (51, i_psh (.int (1)) 52), (52, i_ir (.boolean))]
theorem s_X5_areMissesByDepth_0 {X : ev_E} {l : Launch} (hG : ev_Good X) (hl : l.stackTraces = false) : ev_Snd X l ev_ms x_X5_areMissesByDepth tx_X5_areMissesByDepth 0 (i_al 0 1) := s_aload_n dX5_areMissesByDepth_0 rfl
theorem s_X5_areMissesByDepth_1 {X : ev_E} {l : Launch} (hG : ev_Good X) (hl : l.stackTraces = false) : ev_Snd X l ev_ms x_X5_areMissesByDepth tx_X5_areMissesByDepth 1 (i_gf X 10 3 4) := s_getfield hG (ci := 10) (r := (RX5, TX5, 7)) rfl cw_10 (k := 3) (Nat.le_of_ble_eq_true rfl) w_220 rfl (Or.inl rfl) dX5_areMissesByDepth_1
theorem s_X5_areMissesByDepth_4 {X : ev_E} {l : Launch} (hG : ev_Good X) (hl : l.stackTraces = false) : ev_Snd X l ev_ms x_X5_areMissesByDepth tx_X5_areMissesByDepth 4 (i_as 1 5) := s_astore_n dX5_areMissesByDepth_4 rfl (Nat.le_of_ble_eq_true rfl)
theorem s_X5_areMissesByDepth_5 {X : ev_E} {l : Launch} (hG : ev_Good X) (hl : l.stackTraces = false) : ev_Snd X l ev_ms x_X5_areMissesByDepth tx_X5_areMissesByDepth 5 (i_al 1 6) := s_aload_n dX5_areMissesByDepth_5 rfl
theorem s_X5_areMissesByDepth_6 {X : ev_E} {l : Launch} (hG : ev_Good X) (hl : l.stackTraces = false) : ev_Snd X l ev_ms x_X5_areMissesByDepth tx_X5_areMissesByDepth 6 (i_len X 7) := s_arraylength hG dX5_areMissesByDepth_6
theorem s_X5_areMissesByDepth_7 {X : ev_E} {l : Launch} (hG : ev_Good X) (hl : l.stackTraces = false) : ev_Snd X l ev_ms x_X5_areMissesByDepth tx_X5_areMissesByDepth 7 (i_is 2 8) := s_istore_n dX5_areMissesByDepth_7 rfl (Nat.le_of_ble_eq_true rfl)
theorem s_X5_areMissesByDepth_8 {X : ev_E} {l : Launch} (hG : ev_Good X) (hl : l.stackTraces = false) : ev_Snd X l ev_ms x_X5_areMissesByDepth tx_X5_areMissesByDepth 8 (i_psh (.int (0)) 9) := s_iconst dX5_areMissesByDepth_8 rfl
theorem s_X5_areMissesByDepth_9 {X : ev_E} {l : Launch} (hG : ev_Good X) (hl : l.stackTraces = false) : ev_Snd X l ev_ms x_X5_areMissesByDepth tx_X5_areMissesByDepth 9 (i_is 3 10) := s_istore_n dX5_areMissesByDepth_9 rfl (Nat.le_of_ble_eq_true rfl)
theorem s_X5_areMissesByDepth_10 {X : ev_E} {l : Launch} (hG : ev_Good X) (hl : l.stackTraces = false) : ev_Snd X l ev_ms x_X5_areMissesByDepth tx_X5_areMissesByDepth 10 (i_il 3 11) := s_iload_n dX5_areMissesByDepth_10 rfl
theorem s_X5_areMissesByDepth_11 {X : ev_E} {l : Launch} (hG : ev_Good X) (hl : l.stackTraces = false) : ev_Snd X l ev_ms x_X5_areMissesByDepth tx_X5_areMissesByDepth 11 (i_il 2 12) := s_iload_n dX5_areMissesByDepth_11 rfl
theorem s_X5_areMissesByDepth_12 {X : ev_E} {l : Launch} (hG : ev_Good X) (hl : l.stackTraces = false) : ev_Snd X l ev_ms x_X5_areMissesByDepth tx_X5_areMissesByDepth 12 (i_icge 51 15) := s_icge dX5_areMissesByDepth_12 rfl
theorem s_X5_areMissesByDepth_15 {X : ev_E} {l : Launch} (hG : ev_Good X) (hl : l.stackTraces = false) : ev_Snd X l ev_ms x_X5_areMissesByDepth tx_X5_areMissesByDepth 15 (i_al 1 16) := s_aload_n dX5_areMissesByDepth_15 rfl
theorem s_X5_areMissesByDepth_16 {X : ev_E} {l : Launch} (hG : ev_Good X) (hl : l.stackTraces = false) : ev_Snd X l ev_ms x_X5_areMissesByDepth tx_X5_areMissesByDepth 16 (i_il 3 17) := s_iload_n dX5_areMissesByDepth_16 rfl
theorem s_X5_areMissesByDepth_17 {X : ev_E} {l : Launch} (hG : ev_Good X) (hl : l.stackTraces = false) : ev_Snd X l ev_ms x_X5_areMissesByDepth tx_X5_areMissesByDepth 17 (i_ald X FieldType.isReference 18) := s_aaload hG dX5_areMissesByDepth_17
theorem s_X5_areMissesByDepth_18 {X : ev_E} {l : Launch} (hG : ev_Good X) (hl : l.stackTraces = false) : ev_Snd X l ev_ms x_X5_areMissesByDepth tx_X5_areMissesByDepth 18 (i_as 4 20) := s_astore dX5_areMissesByDepth_18 (Nat.le_of_ble_eq_true rfl)
theorem s_X5_areMissesByDepth_20 {X : ev_E} {l : Launch} (hG : ev_Good X) (hl : l.stackTraces = false) : ev_Snd X l ev_ms x_X5_areMissesByDepth tx_X5_areMissesByDepth 20 (i_al 4 22) := s_aload dX5_areMissesByDepth_20
theorem s_X5_areMissesByDepth_22 {X : ev_E} {l : Launch} (hG : ev_Good X) (hl : l.stackTraces = false) : ev_Snd X l ev_ms x_X5_areMissesByDepth tx_X5_areMissesByDepth 22 (i_gf X 6 1 25) := s_getfieldN hG (ci := 6) (r := (RX1, TX1, 3)) rfl cw_6 (k := 1) (Nat.le_of_ble_eq_true rfl) w_207 rfl dX5_areMissesByDepth_22
theorem s_X5_areMissesByDepth_25 {X : ev_E} {l : Launch} (hG : ev_Good X) (hl : l.stackTraces = false) : ev_Snd X l ev_ms x_X5_areMissesByDepth tx_X5_areMissesByDepth 25 (i_al 0 26) := s_aload_n dX5_areMissesByDepth_25 rfl
theorem s_X5_areMissesByDepth_26 {X : ev_E} {l : Launch} (hG : ev_Good X) (hl : l.stackTraces = false) : ev_Snd X l ev_ms x_X5_areMissesByDepth tx_X5_areMissesByDepth 26 (i_gf X 10 1 29) := s_getfield hG (ci := 10) (r := (RX5, TX5, 7)) rfl cw_10 (k := 1) (Nat.le_of_ble_eq_true rfl) w_218 rfl (Or.inl rfl) dX5_areMissesByDepth_26
theorem s_X5_areMissesByDepth_29 {X : ev_E} {l : Launch} (hG : ev_Good X) (hl : l.stackTraces = false) : ev_Snd X l ev_ms x_X5_areMissesByDepth tx_X5_areMissesByDepth 29 (i_al 4 31) := s_aload dX5_areMissesByDepth_29
theorem s_X5_areMissesByDepth_31 {X : ev_E} {l : Launch} (hG : ev_Good X) (hl : l.stackTraces = false) : ev_Snd X l ev_ms x_X5_areMissesByDepth tx_X5_areMissesByDepth 31 (i_gf X 6 0 34) := s_getfieldN hG (ci := 6) (r := (RX1, TX1, 3)) rfl cw_6 (k := 0) (Nat.le_of_ble_eq_true rfl) w_205 rfl dX5_areMissesByDepth_31
theorem s_X5_areMissesByDepth_34 {X : ev_E} {l : Launch} (hG : ev_Good X) (hl : l.stackTraces = false) : ev_Snd X l ev_ms x_X5_areMissesByDepth tx_X5_areMissesByDepth 34 (i_gf X 7 4 37) := s_getfieldN hG (ci := 7) (r := (RX2, TX2, 7)) rfl cw_7 (k := 4) (Nat.le_of_ble_eq_true rfl) w_136 rfl dX5_areMissesByDepth_34
theorem s_X5_areMissesByDepth_37 {X : ev_E} {l : Launch} (hG : ev_Good X) (hl : l.stackTraces = false) : ev_Snd X l ev_ms x_X5_areMissesByDepth tx_X5_areMissesByDepth 37 (i_cV X 28 1 5 4 40) := s_invokevirtual hG (mi := 28) (n := 1) (ci := 5) (r := (RX0, TX0, 6)) rfl (cal_X0_countOutOfReach (Nat.le_of_ble_eq_true rfl)) w_661 w_662 w_663 dX5_areMissesByDepth_37
theorem s_X5_areMissesByDepth_40 {X : ev_E} {l : Launch} (hG : ev_Good X) (hl : l.stackTraces = false) : ev_Snd X l ev_ms x_X5_areMissesByDepth tx_X5_areMissesByDepth 40 (i_iceq 45 43) := s_iceq dX5_areMissesByDepth_40 rfl
theorem s_X5_areMissesByDepth_43 {X : ev_E} {l : Launch} (hG : ev_Good X) (hl : l.stackTraces = false) : ev_Snd X l ev_ms x_X5_areMissesByDepth tx_X5_areMissesByDepth 43 (i_psh (.int (0)) 44) := s_iconst dX5_areMissesByDepth_43 rfl
theorem s_X5_areMissesByDepth_44 {X : ev_E} {l : Launch} (hG : ev_Good X) (hl : l.stackTraces = false) : ev_Snd X l ev_ms x_X5_areMissesByDepth tx_X5_areMissesByDepth 44 (i_ir (.boolean)) := s_ireturn rfl dX5_areMissesByDepth_44
theorem s_X5_areMissesByDepth_45 {X : ev_E} {l : Launch} (hG : ev_Good X) (hl : l.stackTraces = false) : ev_Snd X l ev_ms x_X5_areMissesByDepth tx_X5_areMissesByDepth 45 (i_inc 3 (1) 48) := s_iinc dX5_areMissesByDepth_45 rfl (Nat.le_of_ble_eq_true rfl)
theorem s_X5_areMissesByDepth_48 {X : ev_E} {l : Launch} (hG : ev_Good X) (hl : l.stackTraces = false) : ev_Snd X l ev_ms x_X5_areMissesByDepth tx_X5_areMissesByDepth 48 (i_goto 10) := s_goto dX5_areMissesByDepth_48 rfl
theorem s_X5_areMissesByDepth_51 {X : ev_E} {l : Launch} (hG : ev_Good X) (hl : l.stackTraces = false) : ev_Snd X l ev_ms x_X5_areMissesByDepth tx_X5_areMissesByDepth 51 (i_psh (.int (1)) 52) := s_iconst dX5_areMissesByDepth_51 rfl
theorem s_X5_areMissesByDepth_52 {X : ev_E} {l : Launch} (hG : ev_Good X) (hl : l.stackTraces = false) : ev_Snd X l ev_ms x_X5_areMissesByDepth tx_X5_areMissesByDepth 52 (i_ir (.boolean)) := s_ireturn rfl dX5_areMissesByDepth_52
theorem sa_X5_areMissesByDepth {X : ev_E} {l : Launch} (hG : ev_Good X) (hl : l.stackTraces = false) : ∀ q ∈ tb_X5_areMissesByDepth X, ev_Snd X l ev_ms x_X5_areMissesByDepth tx_X5_areMissesByDepth q.1 q.2 := by
  intro q hq
  unfold tb_X5_areMissesByDepth at hq
  simp only [List.mem_cons, List.not_mem_nil, or_false] at hq
  rcases hq with rfl | rfl | rfl | rfl | rfl | rfl | rfl | rfl | rfl | rfl | rfl | rfl | rfl | rfl | rfl | rfl | rfl | rfl | rfl | rfl | rfl | rfl | rfl | rfl | rfl | rfl | rfl | rfl | rfl | rfl
  · exact s_X5_areMissesByDepth_0 hG hl
  · exact s_X5_areMissesByDepth_1 hG hl
  · exact s_X5_areMissesByDepth_4 hG hl
  · exact s_X5_areMissesByDepth_5 hG hl
  · exact s_X5_areMissesByDepth_6 hG hl
  · exact s_X5_areMissesByDepth_7 hG hl
  · exact s_X5_areMissesByDepth_8 hG hl
  · exact s_X5_areMissesByDepth_9 hG hl
  · exact s_X5_areMissesByDepth_10 hG hl
  · exact s_X5_areMissesByDepth_11 hG hl
  · exact s_X5_areMissesByDepth_12 hG hl
  · exact s_X5_areMissesByDepth_15 hG hl
  · exact s_X5_areMissesByDepth_16 hG hl
  · exact s_X5_areMissesByDepth_17 hG hl
  · exact s_X5_areMissesByDepth_18 hG hl
  · exact s_X5_areMissesByDepth_20 hG hl
  · exact s_X5_areMissesByDepth_22 hG hl
  · exact s_X5_areMissesByDepth_25 hG hl
  · exact s_X5_areMissesByDepth_26 hG hl
  · exact s_X5_areMissesByDepth_29 hG hl
  · exact s_X5_areMissesByDepth_31 hG hl
  · exact s_X5_areMissesByDepth_34 hG hl
  · exact s_X5_areMissesByDepth_37 hG hl
  · exact s_X5_areMissesByDepth_40 hG hl
  · exact s_X5_areMissesByDepth_43 hG hl
  · exact s_X5_areMissesByDepth_44 hG hl
  · exact s_X5_areMissesByDepth_45 hG hl
  · exact s_X5_areMissesByDepth_48 hG hl
  · exact s_X5_areMissesByDepth_51 hG hl
  · exact s_X5_areMissesByDepth_52 hG hl
def tx_X5_askedAt : ev_X := fun _ _ => some none
noncomputable def tb_X5_askedAt (X : ev_E) : List (Nat × (ev_S → ev_N)) := [(0, i_al 0 1), (1, i_gf X 10 1 4), (4, i_il 1 5), (5, i_cV X 32 1 5 2 8), (8, i_ifeq 23 11), (11, i_al 0 12), (12, i_gf X 10 1 15), (15, i_gf X 5 0 18), (18, i_il 1 19), (19, i_ald X ev_tI 20), (20, i_goto 24), (23, i_psh (.int (-1)) 24), (24, i_ir (.int))]
theorem s_X5_askedAt_0 {X : ev_E} {l : Launch} (hG : ev_Good X) (hl : l.stackTraces = false) : ev_Snd X l ev_ms x_X5_askedAt tx_X5_askedAt 0 (i_al 0 1) := s_aload_n dX5_askedAt_0 rfl
theorem s_X5_askedAt_1 {X : ev_E} {l : Launch} (hG : ev_Good X) (hl : l.stackTraces = false) : ev_Snd X l ev_ms x_X5_askedAt tx_X5_askedAt 1 (i_gf X 10 1 4) := s_getfield hG (ci := 10) (r := (RX5, TX5, 7)) rfl cw_10 (k := 1) (Nat.le_of_ble_eq_true rfl) w_218 rfl (Or.inl rfl) dX5_askedAt_1
theorem s_X5_askedAt_4 {X : ev_E} {l : Launch} (hG : ev_Good X) (hl : l.stackTraces = false) : ev_Snd X l ev_ms x_X5_askedAt tx_X5_askedAt 4 (i_il 1 5) := s_iload_n dX5_askedAt_4 rfl
theorem s_X5_askedAt_5 {X : ev_E} {l : Launch} (hG : ev_Good X) (hl : l.stackTraces = false) : ev_Snd X l ev_ms x_X5_askedAt tx_X5_askedAt 5 (i_cV X 32 1 5 2 8) := s_invokevirtual hG (mi := 32) (n := 1) (ci := 5) (r := (RX0, TX0, 6)) rfl (cal_X0_isNumber (Nat.le_of_ble_eq_true rfl)) w_264 w_265 w_266 dX5_askedAt_5
theorem s_X5_askedAt_8 {X : ev_E} {l : Launch} (hG : ev_Good X) (hl : l.stackTraces = false) : ev_Snd X l ev_ms x_X5_askedAt tx_X5_askedAt 8 (i_ifeq 23 11) := s_ifeq dX5_askedAt_8 rfl
theorem s_X5_askedAt_11 {X : ev_E} {l : Launch} (hG : ev_Good X) (hl : l.stackTraces = false) : ev_Snd X l ev_ms x_X5_askedAt tx_X5_askedAt 11 (i_al 0 12) := s_aload_n dX5_askedAt_11 rfl
theorem s_X5_askedAt_12 {X : ev_E} {l : Launch} (hG : ev_Good X) (hl : l.stackTraces = false) : ev_Snd X l ev_ms x_X5_askedAt tx_X5_askedAt 12 (i_gf X 10 1 15) := s_getfield hG (ci := 10) (r := (RX5, TX5, 7)) rfl cw_10 (k := 1) (Nat.le_of_ble_eq_true rfl) w_218 rfl (Or.inl rfl) dX5_askedAt_12
theorem s_X5_askedAt_15 {X : ev_E} {l : Launch} (hG : ev_Good X) (hl : l.stackTraces = false) : ev_Snd X l ev_ms x_X5_askedAt tx_X5_askedAt 15 (i_gf X 5 0 18) := s_getfieldN hG (ci := 5) (r := (RX0, TX0, 6)) rfl cw_5 (k := 0) (Nat.le_of_ble_eq_true rfl) w_99 rfl dX5_askedAt_15
theorem s_X5_askedAt_18 {X : ev_E} {l : Launch} (hG : ev_Good X) (hl : l.stackTraces = false) : ev_Snd X l ev_ms x_X5_askedAt tx_X5_askedAt 18 (i_il 1 19) := s_iload_n dX5_askedAt_18 rfl
theorem s_X5_askedAt_19 {X : ev_E} {l : Launch} (hG : ev_Good X) (hl : l.stackTraces = false) : ev_Snd X l ev_ms x_X5_askedAt tx_X5_askedAt 19 (i_ald X ev_tI 20) := s_iaload hG dX5_askedAt_19
theorem s_X5_askedAt_20 {X : ev_E} {l : Launch} (hG : ev_Good X) (hl : l.stackTraces = false) : ev_Snd X l ev_ms x_X5_askedAt tx_X5_askedAt 20 (i_goto 24) := s_goto dX5_askedAt_20 rfl
theorem s_X5_askedAt_23 {X : ev_E} {l : Launch} (hG : ev_Good X) (hl : l.stackTraces = false) : ev_Snd X l ev_ms x_X5_askedAt tx_X5_askedAt 23 (i_psh (.int (-1)) 24) := s_iconst dX5_askedAt_23 rfl
theorem s_X5_askedAt_24 {X : ev_E} {l : Launch} (hG : ev_Good X) (hl : l.stackTraces = false) : ev_Snd X l ev_ms x_X5_askedAt tx_X5_askedAt 24 (i_ir (.int)) := s_ireturn rfl dX5_askedAt_24
theorem sa_X5_askedAt {X : ev_E} {l : Launch} (hG : ev_Good X) (hl : l.stackTraces = false) : ∀ q ∈ tb_X5_askedAt X, ev_Snd X l ev_ms x_X5_askedAt tx_X5_askedAt q.1 q.2 := by
  intro q hq
  unfold tb_X5_askedAt at hq
  simp only [List.mem_cons, List.not_mem_nil, or_false] at hq
  rcases hq with rfl | rfl | rfl | rfl | rfl | rfl | rfl | rfl | rfl | rfl | rfl | rfl | rfl
  · exact s_X5_askedAt_0 hG hl
  · exact s_X5_askedAt_1 hG hl
  · exact s_X5_askedAt_4 hG hl
  · exact s_X5_askedAt_5 hG hl
  · exact s_X5_askedAt_8 hG hl
  · exact s_X5_askedAt_11 hG hl
  · exact s_X5_askedAt_12 hG hl
  · exact s_X5_askedAt_15 hG hl
  · exact s_X5_askedAt_18 hG hl
  · exact s_X5_askedAt_19 hG hl
  · exact s_X5_askedAt_20 hG hl
  · exact s_X5_askedAt_23 hG hl
  · exact s_X5_askedAt_24 hG hl
def tx_X5_clear : ev_X := fun _ _ => some none
noncomputable def tb_X5_clear (X : ev_E) : List (Nat × (ev_S → ev_N)) := [(0, i_al 0 1), (1, i_il 1 2), (2, i_cV X 59 1 10 2 5), (5, i_as 2 6), (6, i_al 2 7), (7, i_gf X 8 1 10), (10, i_cV X 45 0 9 1 13), (13, i_al 2 14), (14, i_gf X 8 0 17), (17, i_cV X 35 0 7 2 20), (20, i_ir (.int))]
theorem s_X5_clear_0 {X : ev_E} {l : Launch} (hG : ev_Good X) (hl : l.stackTraces = false) : ev_Snd X l ev_ms x_X5_clear tx_X5_clear 0 (i_al 0 1) := s_aload_n dX5_clear_0 rfl
theorem s_X5_clear_1 {X : ev_E} {l : Launch} (hG : ev_Good X) (hl : l.stackTraces = false) : ev_Snd X l ev_ms x_X5_clear tx_X5_clear 1 (i_il 1 2) := s_iload_n dX5_clear_1 rfl
theorem s_X5_clear_2 {X : ev_E} {l : Launch} (hG : ev_Good X) (hl : l.stackTraces = false) : ev_Snd X l ev_ms x_X5_clear tx_X5_clear 2 (i_cV X 59 1 10 2 5) := s_invokevirtual hG (mi := 59) (n := 1) (ci := 10) (r := (RX5, TX5, 7)) rfl (cal_X5_tableOf (Nat.le_of_ble_eq_true rfl)) w_705 w_707 w_11 dX5_clear_2
theorem s_X5_clear_5 {X : ev_E} {l : Launch} (hG : ev_Good X) (hl : l.stackTraces = false) : ev_Snd X l ev_ms x_X5_clear tx_X5_clear 5 (i_as 2 6) := s_astore_n dX5_clear_5 rfl (Nat.le_of_ble_eq_true rfl)
theorem s_X5_clear_6 {X : ev_E} {l : Launch} (hG : ev_Good X) (hl : l.stackTraces = false) : ev_Snd X l ev_ms x_X5_clear tx_X5_clear 6 (i_al 2 7) := s_aload_n dX5_clear_6 rfl
theorem s_X5_clear_7 {X : ev_E} {l : Launch} (hG : ev_Good X) (hl : l.stackTraces = false) : ev_Snd X l ev_ms x_X5_clear tx_X5_clear 7 (i_gf X 8 1 10) := s_getfieldN hG (ci := 8) (r := (RX3, TX3, 2)) rfl cw_8 (k := 1) (Nat.le_of_ble_eq_true rfl) w_191 rfl dX5_clear_7
theorem s_X5_clear_10 {X : ev_E} {l : Launch} (hG : ev_Good X) (hl : l.stackTraces = false) : ev_Snd X l ev_ms x_X5_clear tx_X5_clear 10 (i_cV X 45 0 9 1 13) := s_invokevirtual hG (mi := 45) (n := 0) (ci := 9) (r := (RX4, TX4, 6)) rfl (cal_X4_outdate (Nat.le_of_ble_eq_true rfl)) w_828 w_829 w_830 dX5_clear_10
theorem s_X5_clear_13 {X : ev_E} {l : Launch} (hG : ev_Good X) (hl : l.stackTraces = false) : ev_Snd X l ev_ms x_X5_clear tx_X5_clear 13 (i_al 2 14) := s_aload_n dX5_clear_13 rfl
theorem s_X5_clear_14 {X : ev_E} {l : Launch} (hG : ev_Good X) (hl : l.stackTraces = false) : ev_Snd X l ev_ms x_X5_clear tx_X5_clear 14 (i_gf X 8 0 17) := s_getfieldN hG (ci := 8) (r := (RX3, TX3, 2)) rfl cw_8 (k := 0) (Nat.le_of_ble_eq_true rfl) w_189 rfl dX5_clear_14
theorem s_X5_clear_17 {X : ev_E} {l : Launch} (hG : ev_Good X) (hl : l.stackTraces = false) : ev_Snd X l ev_ms x_X5_clear tx_X5_clear 17 (i_cV X 35 0 7 2 20) := s_invokevirtual hG (mi := 35) (n := 0) (ci := 7) (r := (RX2, TX2, 7)) rfl (cal_X2_dropAll (Nat.le_of_ble_eq_true rfl)) w_934 w_248 w_249 dX5_clear_17
theorem s_X5_clear_20 {X : ev_E} {l : Launch} (hG : ev_Good X) (hl : l.stackTraces = false) : ev_Snd X l ev_ms x_X5_clear tx_X5_clear 20 (i_ir (.int)) := s_ireturn rfl dX5_clear_20
theorem sa_X5_clear {X : ev_E} {l : Launch} (hG : ev_Good X) (hl : l.stackTraces = false) : ∀ q ∈ tb_X5_clear X, ev_Snd X l ev_ms x_X5_clear tx_X5_clear q.1 q.2 := by
  intro q hq
  unfold tb_X5_clear at hq
  simp only [List.mem_cons, List.not_mem_nil, or_false] at hq
  rcases hq with rfl | rfl | rfl | rfl | rfl | rfl | rfl | rfl | rfl | rfl | rfl
  · exact s_X5_clear_0 hG hl
  · exact s_X5_clear_1 hG hl
  · exact s_X5_clear_2 hG hl
  · exact s_X5_clear_5 hG hl
  · exact s_X5_clear_6 hG hl
  · exact s_X5_clear_7 hG hl
  · exact s_X5_clear_10 hG hl
  · exact s_X5_clear_13 hG hl
  · exact s_X5_clear_14 hG hl
  · exact s_X5_clear_17 hG hl
  · exact s_X5_clear_20 hG hl
def tx_X5_depthAt : ev_X := fun _ _ => some none
noncomputable def tb_X5_depthAt (X : ev_E) : List (Nat × (ev_S → ev_N)) := [(0, i_al 0 1), (1, i_gf X 10 1 4), (4, i_il 1 5), (5, i_cV X 32 1 5 2 8), (8, i_ifeq 23 11), (11, i_al 0 12), (12, i_gf X 10 1 15), (15, i_gf X 5 1 18), (18, i_il 1 19), (19, i_ald X ev_tI 20), (20, i_goto 24), (23, i_psh (.int (-1)) 24), (24, i_ir (.int))]
theorem s_X5_depthAt_0 {X : ev_E} {l : Launch} (hG : ev_Good X) (hl : l.stackTraces = false) : ev_Snd X l ev_ms x_X5_depthAt tx_X5_depthAt 0 (i_al 0 1) := s_aload_n dX5_depthAt_0 rfl
theorem s_X5_depthAt_1 {X : ev_E} {l : Launch} (hG : ev_Good X) (hl : l.stackTraces = false) : ev_Snd X l ev_ms x_X5_depthAt tx_X5_depthAt 1 (i_gf X 10 1 4) := s_getfield hG (ci := 10) (r := (RX5, TX5, 7)) rfl cw_10 (k := 1) (Nat.le_of_ble_eq_true rfl) w_218 rfl (Or.inl rfl) dX5_depthAt_1
theorem s_X5_depthAt_4 {X : ev_E} {l : Launch} (hG : ev_Good X) (hl : l.stackTraces = false) : ev_Snd X l ev_ms x_X5_depthAt tx_X5_depthAt 4 (i_il 1 5) := s_iload_n dX5_depthAt_4 rfl
theorem s_X5_depthAt_5 {X : ev_E} {l : Launch} (hG : ev_Good X) (hl : l.stackTraces = false) : ev_Snd X l ev_ms x_X5_depthAt tx_X5_depthAt 5 (i_cV X 32 1 5 2 8) := s_invokevirtual hG (mi := 32) (n := 1) (ci := 5) (r := (RX0, TX0, 6)) rfl (cal_X0_isNumber (Nat.le_of_ble_eq_true rfl)) w_264 w_265 w_266 dX5_depthAt_5
theorem s_X5_depthAt_8 {X : ev_E} {l : Launch} (hG : ev_Good X) (hl : l.stackTraces = false) : ev_Snd X l ev_ms x_X5_depthAt tx_X5_depthAt 8 (i_ifeq 23 11) := s_ifeq dX5_depthAt_8 rfl
theorem s_X5_depthAt_11 {X : ev_E} {l : Launch} (hG : ev_Good X) (hl : l.stackTraces = false) : ev_Snd X l ev_ms x_X5_depthAt tx_X5_depthAt 11 (i_al 0 12) := s_aload_n dX5_depthAt_11 rfl
theorem s_X5_depthAt_12 {X : ev_E} {l : Launch} (hG : ev_Good X) (hl : l.stackTraces = false) : ev_Snd X l ev_ms x_X5_depthAt tx_X5_depthAt 12 (i_gf X 10 1 15) := s_getfield hG (ci := 10) (r := (RX5, TX5, 7)) rfl cw_10 (k := 1) (Nat.le_of_ble_eq_true rfl) w_218 rfl (Or.inl rfl) dX5_depthAt_12
theorem s_X5_depthAt_15 {X : ev_E} {l : Launch} (hG : ev_Good X) (hl : l.stackTraces = false) : ev_Snd X l ev_ms x_X5_depthAt tx_X5_depthAt 15 (i_gf X 5 1 18) := s_getfieldN hG (ci := 5) (r := (RX0, TX0, 6)) rfl cw_5 (k := 1) (Nat.le_of_ble_eq_true rfl) w_101 rfl dX5_depthAt_15
theorem s_X5_depthAt_18 {X : ev_E} {l : Launch} (hG : ev_Good X) (hl : l.stackTraces = false) : ev_Snd X l ev_ms x_X5_depthAt tx_X5_depthAt 18 (i_il 1 19) := s_iload_n dX5_depthAt_18 rfl
theorem s_X5_depthAt_19 {X : ev_E} {l : Launch} (hG : ev_Good X) (hl : l.stackTraces = false) : ev_Snd X l ev_ms x_X5_depthAt tx_X5_depthAt 19 (i_ald X ev_tI 20) := s_iaload hG dX5_depthAt_19
theorem s_X5_depthAt_20 {X : ev_E} {l : Launch} (hG : ev_Good X) (hl : l.stackTraces = false) : ev_Snd X l ev_ms x_X5_depthAt tx_X5_depthAt 20 (i_goto 24) := s_goto dX5_depthAt_20 rfl
theorem s_X5_depthAt_23 {X : ev_E} {l : Launch} (hG : ev_Good X) (hl : l.stackTraces = false) : ev_Snd X l ev_ms x_X5_depthAt tx_X5_depthAt 23 (i_psh (.int (-1)) 24) := s_iconst dX5_depthAt_23 rfl
theorem s_X5_depthAt_24 {X : ev_E} {l : Launch} (hG : ev_Good X) (hl : l.stackTraces = false) : ev_Snd X l ev_ms x_X5_depthAt tx_X5_depthAt 24 (i_ir (.int)) := s_ireturn rfl dX5_depthAt_24
theorem sa_X5_depthAt {X : ev_E} {l : Launch} (hG : ev_Good X) (hl : l.stackTraces = false) : ∀ q ∈ tb_X5_depthAt X, ev_Snd X l ev_ms x_X5_depthAt tx_X5_depthAt q.1 q.2 := by
  intro q hq
  unfold tb_X5_depthAt at hq
  simp only [List.mem_cons, List.not_mem_nil, or_false] at hq
  rcases hq with rfl | rfl | rfl | rfl | rfl | rfl | rfl | rfl | rfl | rfl | rfl | rfl | rfl
  · exact s_X5_depthAt_0 hG hl
  · exact s_X5_depthAt_1 hG hl
  · exact s_X5_depthAt_4 hG hl
  · exact s_X5_depthAt_5 hG hl
  · exact s_X5_depthAt_8 hG hl
  · exact s_X5_depthAt_11 hG hl
  · exact s_X5_depthAt_12 hG hl
  · exact s_X5_depthAt_15 hG hl
  · exact s_X5_depthAt_18 hG hl
  · exact s_X5_depthAt_19 hG hl
  · exact s_X5_depthAt_20 hG hl
  · exact s_X5_depthAt_23 hG hl
  · exact s_X5_depthAt_24 hG hl
def tx_X5_depthNow : ev_X := fun _ _ => some none
noncomputable def tb_X5_depthNow (X : ev_E) : List (Nat × (ev_S → ev_N)) := [(0, i_al 0 1), (1, i_gf X 10 2 4), (4, i_il 1 5), (5, i_cV X 36 1 7 3 8), (8, i_is 2 9), (9, i_il 2 10), (10, i_psh (.int (-1)) 11), (11, i_icne 18 14), (14, i_psh (.int (0)) 15), (15, i_goto 27), (18, i_al 0 19), (19, i_gf X 10 2 22), (22, i_gf X 7 2 25), (25, i_il 2 26), (26, i_ii (fun a b => a - b) 27), (27, i_ir (.int))]
theorem s_X5_depthNow_0 {X : ev_E} {l : Launch} (hG : ev_Good X) (hl : l.stackTraces = false) : ev_Snd X l ev_ms x_X5_depthNow tx_X5_depthNow 0 (i_al 0 1) := s_aload_n dX5_depthNow_0 rfl
theorem s_X5_depthNow_1 {X : ev_E} {l : Launch} (hG : ev_Good X) (hl : l.stackTraces = false) : ev_Snd X l ev_ms x_X5_depthNow tx_X5_depthNow 1 (i_gf X 10 2 4) := s_getfield hG (ci := 10) (r := (RX5, TX5, 7)) rfl cw_10 (k := 2) (Nat.le_of_ble_eq_true rfl) w_219 rfl (Or.inl rfl) dX5_depthNow_1
theorem s_X5_depthNow_4 {X : ev_E} {l : Launch} (hG : ev_Good X) (hl : l.stackTraces = false) : ev_Snd X l ev_ms x_X5_depthNow tx_X5_depthNow 4 (i_il 1 5) := s_iload_n dX5_depthNow_4 rfl
theorem s_X5_depthNow_5 {X : ev_E} {l : Launch} (hG : ev_Good X) (hl : l.stackTraces = false) : ev_Snd X l ev_ms x_X5_depthNow tx_X5_depthNow 5 (i_cV X 36 1 7 3 8) := s_invokevirtual hG (mi := 36) (n := 1) (ci := 7) (r := (RX2, TX2, 7)) rfl (cal_X2_find (Nat.le_of_ble_eq_true rfl)) w_800 w_801 w_802 dX5_depthNow_5
theorem s_X5_depthNow_8 {X : ev_E} {l : Launch} (hG : ev_Good X) (hl : l.stackTraces = false) : ev_Snd X l ev_ms x_X5_depthNow tx_X5_depthNow 8 (i_is 2 9) := s_istore_n dX5_depthNow_8 rfl (Nat.le_of_ble_eq_true rfl)
theorem s_X5_depthNow_9 {X : ev_E} {l : Launch} (hG : ev_Good X) (hl : l.stackTraces = false) : ev_Snd X l ev_ms x_X5_depthNow tx_X5_depthNow 9 (i_il 2 10) := s_iload_n dX5_depthNow_9 rfl
theorem s_X5_depthNow_10 {X : ev_E} {l : Launch} (hG : ev_Good X) (hl : l.stackTraces = false) : ev_Snd X l ev_ms x_X5_depthNow tx_X5_depthNow 10 (i_psh (.int (-1)) 11) := s_iconst dX5_depthNow_10 rfl
theorem s_X5_depthNow_11 {X : ev_E} {l : Launch} (hG : ev_Good X) (hl : l.stackTraces = false) : ev_Snd X l ev_ms x_X5_depthNow tx_X5_depthNow 11 (i_icne 18 14) := s_icne dX5_depthNow_11 rfl
theorem s_X5_depthNow_14 {X : ev_E} {l : Launch} (hG : ev_Good X) (hl : l.stackTraces = false) : ev_Snd X l ev_ms x_X5_depthNow tx_X5_depthNow 14 (i_psh (.int (0)) 15) := s_iconst dX5_depthNow_14 rfl
theorem s_X5_depthNow_15 {X : ev_E} {l : Launch} (hG : ev_Good X) (hl : l.stackTraces = false) : ev_Snd X l ev_ms x_X5_depthNow tx_X5_depthNow 15 (i_goto 27) := s_goto dX5_depthNow_15 rfl
theorem s_X5_depthNow_18 {X : ev_E} {l : Launch} (hG : ev_Good X) (hl : l.stackTraces = false) : ev_Snd X l ev_ms x_X5_depthNow tx_X5_depthNow 18 (i_al 0 19) := s_aload_n dX5_depthNow_18 rfl
theorem s_X5_depthNow_19 {X : ev_E} {l : Launch} (hG : ev_Good X) (hl : l.stackTraces = false) : ev_Snd X l ev_ms x_X5_depthNow tx_X5_depthNow 19 (i_gf X 10 2 22) := s_getfield hG (ci := 10) (r := (RX5, TX5, 7)) rfl cw_10 (k := 2) (Nat.le_of_ble_eq_true rfl) w_219 rfl (Or.inl rfl) dX5_depthNow_19
theorem s_X5_depthNow_22 {X : ev_E} {l : Launch} (hG : ev_Good X) (hl : l.stackTraces = false) : ev_Snd X l ev_ms x_X5_depthNow tx_X5_depthNow 22 (i_gf X 7 2 25) := s_getfieldN hG (ci := 7) (r := (RX2, TX2, 7)) rfl cw_7 (k := 2) (Nat.le_of_ble_eq_true rfl) w_131 rfl dX5_depthNow_22
theorem s_X5_depthNow_25 {X : ev_E} {l : Launch} (hG : ev_Good X) (hl : l.stackTraces = false) : ev_Snd X l ev_ms x_X5_depthNow tx_X5_depthNow 25 (i_il 2 26) := s_iload_n dX5_depthNow_25 rfl
theorem s_X5_depthNow_26 {X : ev_E} {l : Launch} (hG : ev_Good X) (hl : l.stackTraces = false) : ev_Snd X l ev_ms x_X5_depthNow tx_X5_depthNow 26 (i_ii (fun a b => a - b) 27) := s_isub dX5_depthNow_26
theorem s_X5_depthNow_27 {X : ev_E} {l : Launch} (hG : ev_Good X) (hl : l.stackTraces = false) : ev_Snd X l ev_ms x_X5_depthNow tx_X5_depthNow 27 (i_ir (.int)) := s_ireturn rfl dX5_depthNow_27
theorem sa_X5_depthNow {X : ev_E} {l : Launch} (hG : ev_Good X) (hl : l.stackTraces = false) : ∀ q ∈ tb_X5_depthNow X, ev_Snd X l ev_ms x_X5_depthNow tx_X5_depthNow q.1 q.2 := by
  intro q hq
  unfold tb_X5_depthNow at hq
  simp only [List.mem_cons, List.not_mem_nil, or_false] at hq
  rcases hq with rfl | rfl | rfl | rfl | rfl | rfl | rfl | rfl | rfl | rfl | rfl | rfl | rfl | rfl | rfl | rfl
  · exact s_X5_depthNow_0 hG hl
  · exact s_X5_depthNow_1 hG hl
  · exact s_X5_depthNow_4 hG hl
  · exact s_X5_depthNow_5 hG hl
  · exact s_X5_depthNow_8 hG hl
  · exact s_X5_depthNow_9 hG hl
  · exact s_X5_depthNow_10 hG hl
  · exact s_X5_depthNow_11 hG hl
  · exact s_X5_depthNow_14 hG hl
  · exact s_X5_depthNow_15 hG hl
  · exact s_X5_depthNow_18 hG hl
  · exact s_X5_depthNow_19 hG hl
  · exact s_X5_depthNow_22 hG hl
  · exact s_X5_depthNow_25 hG hl
  · exact s_X5_depthNow_26 hG hl
  · exact s_X5_depthNow_27 hG hl
def tx_X5_has : ev_X := fun _ _ => some none
noncomputable def tb_X5_has (X : ev_E) : List (Nat × (ev_S → ev_N)) := [(0, i_al 0 1), (1, i_il 1 2), (2, i_cV X 59 1 10 2 5), (5, i_as 3 6), (6, i_il 2 7), (7, i_cS 48 1 1 10), (10, i_al 3 11), (11, i_gf X 8 0 14), (14, i_il 2 15), (15, i_cV X 36 1 7 3 18), (18, i_psh (.int (-1)) 19), (19, i_iceq 26 22), (22, i_psh (.int (1)) 23), (23, i_goto 27), (26, i_psh (.int (0)) 27), (27, i_ir (.boolean))]
theorem s_X5_has_0 {X : ev_E} {l : Launch} (hG : ev_Good X) (hl : l.stackTraces = false) : ev_Snd X l ev_ms x_X5_has tx_X5_has 0 (i_al 0 1) := s_aload_n dX5_has_0 rfl
theorem s_X5_has_1 {X : ev_E} {l : Launch} (hG : ev_Good X) (hl : l.stackTraces = false) : ev_Snd X l ev_ms x_X5_has tx_X5_has 1 (i_il 1 2) := s_iload_n dX5_has_1 rfl
theorem s_X5_has_2 {X : ev_E} {l : Launch} (hG : ev_Good X) (hl : l.stackTraces = false) : ev_Snd X l ev_ms x_X5_has tx_X5_has 2 (i_cV X 59 1 10 2 5) := s_invokevirtual hG (mi := 59) (n := 1) (ci := 10) (r := (RX5, TX5, 7)) rfl (cal_X5_tableOf (Nat.le_of_ble_eq_true rfl)) w_705 w_707 w_11 dX5_has_2
theorem s_X5_has_5 {X : ev_E} {l : Launch} (hG : ev_Good X) (hl : l.stackTraces = false) : ev_Snd X l ev_ms x_X5_has tx_X5_has 5 (i_as 3 6) := s_astore_n dX5_has_5 rfl (Nat.le_of_ble_eq_true rfl)
theorem s_X5_has_6 {X : ev_E} {l : Launch} (hG : ev_Good X) (hl : l.stackTraces = false) : ev_Snd X l ev_ms x_X5_has tx_X5_has 6 (i_il 2 7) := s_iload_n dX5_has_6 rfl
theorem s_X5_has_7 {X : ev_E} {l : Launch} (hG : ev_Good X) (hl : l.stackTraces = false) : ev_Snd X l ev_ms x_X5_has tx_X5_has 7 (i_cS 48 1 1 10) := s_invokestatic hG (mi := 48) (n := 1) (cal_X5_demandKey (Nat.le_of_ble_eq_true rfl)) w_796 w_797 dX5_has_7
theorem s_X5_has_10 {X : ev_E} {l : Launch} (hG : ev_Good X) (hl : l.stackTraces = false) : ev_Snd X l ev_ms x_X5_has tx_X5_has 10 (i_al 3 11) := s_aload_n dX5_has_10 rfl
theorem s_X5_has_11 {X : ev_E} {l : Launch} (hG : ev_Good X) (hl : l.stackTraces = false) : ev_Snd X l ev_ms x_X5_has tx_X5_has 11 (i_gf X 8 0 14) := s_getfieldN hG (ci := 8) (r := (RX3, TX3, 2)) rfl cw_8 (k := 0) (Nat.le_of_ble_eq_true rfl) w_189 rfl dX5_has_11
theorem s_X5_has_14 {X : ev_E} {l : Launch} (hG : ev_Good X) (hl : l.stackTraces = false) : ev_Snd X l ev_ms x_X5_has tx_X5_has 14 (i_il 2 15) := s_iload_n dX5_has_14 rfl
theorem s_X5_has_15 {X : ev_E} {l : Launch} (hG : ev_Good X) (hl : l.stackTraces = false) : ev_Snd X l ev_ms x_X5_has tx_X5_has 15 (i_cV X 36 1 7 3 18) := s_invokevirtual hG (mi := 36) (n := 1) (ci := 7) (r := (RX2, TX2, 7)) rfl (cal_X2_find (Nat.le_of_ble_eq_true rfl)) w_800 w_801 w_802 dX5_has_15
theorem s_X5_has_18 {X : ev_E} {l : Launch} (hG : ev_Good X) (hl : l.stackTraces = false) : ev_Snd X l ev_ms x_X5_has tx_X5_has 18 (i_psh (.int (-1)) 19) := s_iconst dX5_has_18 rfl
theorem s_X5_has_19 {X : ev_E} {l : Launch} (hG : ev_Good X) (hl : l.stackTraces = false) : ev_Snd X l ev_ms x_X5_has tx_X5_has 19 (i_iceq 26 22) := s_iceq dX5_has_19 rfl
theorem s_X5_has_22 {X : ev_E} {l : Launch} (hG : ev_Good X) (hl : l.stackTraces = false) : ev_Snd X l ev_ms x_X5_has tx_X5_has 22 (i_psh (.int (1)) 23) := s_iconst dX5_has_22 rfl
theorem s_X5_has_23 {X : ev_E} {l : Launch} (hG : ev_Good X) (hl : l.stackTraces = false) : ev_Snd X l ev_ms x_X5_has tx_X5_has 23 (i_goto 27) := s_goto dX5_has_23 rfl
theorem s_X5_has_26 {X : ev_E} {l : Launch} (hG : ev_Good X) (hl : l.stackTraces = false) : ev_Snd X l ev_ms x_X5_has tx_X5_has 26 (i_psh (.int (0)) 27) := s_iconst dX5_has_26 rfl
theorem s_X5_has_27 {X : ev_E} {l : Launch} (hG : ev_Good X) (hl : l.stackTraces = false) : ev_Snd X l ev_ms x_X5_has tx_X5_has 27 (i_ir (.boolean)) := s_ireturn rfl dX5_has_27
theorem sa_X5_has {X : ev_E} {l : Launch} (hG : ev_Good X) (hl : l.stackTraces = false) : ∀ q ∈ tb_X5_has X, ev_Snd X l ev_ms x_X5_has tx_X5_has q.1 q.2 := by
  intro q hq
  unfold tb_X5_has at hq
  simp only [List.mem_cons, List.not_mem_nil, or_false] at hq
  rcases hq with rfl | rfl | rfl | rfl | rfl | rfl | rfl | rfl | rfl | rfl | rfl | rfl | rfl | rfl | rfl | rfl
  · exact s_X5_has_0 hG hl
  · exact s_X5_has_1 hG hl
  · exact s_X5_has_2 hG hl
  · exact s_X5_has_5 hG hl
  · exact s_X5_has_6 hG hl
  · exact s_X5_has_7 hG hl
  · exact s_X5_has_10 hG hl
  · exact s_X5_has_11 hG hl
  · exact s_X5_has_14 hG hl
  · exact s_X5_has_15 hG hl
  · exact s_X5_has_18 hG hl
  · exact s_X5_has_19 hG hl
  · exact s_X5_has_22 hG hl
  · exact s_X5_has_23 hG hl
  · exact s_X5_has_26 hG hl
  · exact s_X5_has_27 hG hl
def tx_X5_house : ev_X := fun _ _ => some none
noncomputable def tb_X5_house (X : ev_E) : List (Nat × (ev_S → ev_N)) := [(0, i_il 1 1), (1, i_sw (0) [36, 41, 49, 57, 62] 67), (36, i_al 0 37), (37, i_cV X 57 0 10 6 40), (40, i_ir (.int)), (41, i_al 0 42), (42, i_gf X 10 1 45), (45, i_gf X 5 5 48), (48, i_ir (.int)), (49, i_al 0 50), (50, i_gf X 10 2 53), (53, i_gf X 7 2 56), (56, i_ir (.int)), (57, i_al 0 58), (58, i_gf X 10 5 61), (61, i_ir (.int)), (62, i_al 0 63), (63, i_gf X 10 6 66), (66, i_ir (.int)), (67, i_thr 1)]
theorem s_X5_house_0 {X : ev_E} {l : Launch} (hG : ev_Good X) (hl : l.stackTraces = false) : ev_Snd X l ev_ms x_X5_house tx_X5_house 0 (i_il 1 1) := s_iload_n dX5_house_0 rfl
theorem s_X5_house_1 {X : ev_E} {l : Launch} (hG : ev_Good X) (hl : l.stackTraces = false) : ev_Snd X l ev_ms x_X5_house tx_X5_house 1 (i_sw (0) [36, 41, 49, 57, 62] 67) := s_tableswitch dX5_house_1 rfl rfl (by decide +kernel)
theorem s_X5_house_36 {X : ev_E} {l : Launch} (hG : ev_Good X) (hl : l.stackTraces = false) : ev_Snd X l ev_ms x_X5_house tx_X5_house 36 (i_al 0 37) := s_aload_n dX5_house_36 rfl
theorem s_X5_house_37 {X : ev_E} {l : Launch} (hG : ev_Good X) (hl : l.stackTraces = false) : ev_Snd X l ev_ms x_X5_house tx_X5_house 37 (i_cV X 57 0 10 6 40) := s_invokevirtual hG (mi := 57) (n := 0) (ci := 10) (r := (RX5, TX5, 7)) rfl (cal_X5_pairsOfTables (Nat.le_of_ble_eq_true rfl)) w_686 w_688 w_9 dX5_house_37
theorem s_X5_house_40 {X : ev_E} {l : Launch} (hG : ev_Good X) (hl : l.stackTraces = false) : ev_Snd X l ev_ms x_X5_house tx_X5_house 40 (i_ir (.int)) := s_ireturn rfl dX5_house_40
theorem s_X5_house_41 {X : ev_E} {l : Launch} (hG : ev_Good X) (hl : l.stackTraces = false) : ev_Snd X l ev_ms x_X5_house tx_X5_house 41 (i_al 0 42) := s_aload_n dX5_house_41 rfl
theorem s_X5_house_42 {X : ev_E} {l : Launch} (hG : ev_Good X) (hl : l.stackTraces = false) : ev_Snd X l ev_ms x_X5_house tx_X5_house 42 (i_gf X 10 1 45) := s_getfield hG (ci := 10) (r := (RX5, TX5, 7)) rfl cw_10 (k := 1) (Nat.le_of_ble_eq_true rfl) w_218 rfl (Or.inl rfl) dX5_house_42
theorem s_X5_house_45 {X : ev_E} {l : Launch} (hG : ev_Good X) (hl : l.stackTraces = false) : ev_Snd X l ev_ms x_X5_house tx_X5_house 45 (i_gf X 5 5 48) := s_getfieldN hG (ci := 5) (r := (RX0, TX0, 6)) rfl cw_5 (k := 5) (Nat.le_of_ble_eq_true rfl) w_106 rfl dX5_house_45
theorem s_X5_house_48 {X : ev_E} {l : Launch} (hG : ev_Good X) (hl : l.stackTraces = false) : ev_Snd X l ev_ms x_X5_house tx_X5_house 48 (i_ir (.int)) := s_ireturn rfl dX5_house_48
theorem s_X5_house_49 {X : ev_E} {l : Launch} (hG : ev_Good X) (hl : l.stackTraces = false) : ev_Snd X l ev_ms x_X5_house tx_X5_house 49 (i_al 0 50) := s_aload_n dX5_house_49 rfl
theorem s_X5_house_50 {X : ev_E} {l : Launch} (hG : ev_Good X) (hl : l.stackTraces = false) : ev_Snd X l ev_ms x_X5_house tx_X5_house 50 (i_gf X 10 2 53) := s_getfield hG (ci := 10) (r := (RX5, TX5, 7)) rfl cw_10 (k := 2) (Nat.le_of_ble_eq_true rfl) w_219 rfl (Or.inl rfl) dX5_house_50
theorem s_X5_house_53 {X : ev_E} {l : Launch} (hG : ev_Good X) (hl : l.stackTraces = false) : ev_Snd X l ev_ms x_X5_house tx_X5_house 53 (i_gf X 7 2 56) := s_getfieldN hG (ci := 7) (r := (RX2, TX2, 7)) rfl cw_7 (k := 2) (Nat.le_of_ble_eq_true rfl) w_131 rfl dX5_house_53
theorem s_X5_house_56 {X : ev_E} {l : Launch} (hG : ev_Good X) (hl : l.stackTraces = false) : ev_Snd X l ev_ms x_X5_house tx_X5_house 56 (i_ir (.int)) := s_ireturn rfl dX5_house_56
theorem s_X5_house_57 {X : ev_E} {l : Launch} (hG : ev_Good X) (hl : l.stackTraces = false) : ev_Snd X l ev_ms x_X5_house tx_X5_house 57 (i_al 0 58) := s_aload_n dX5_house_57 rfl
theorem s_X5_house_58 {X : ev_E} {l : Launch} (hG : ev_Good X) (hl : l.stackTraces = false) : ev_Snd X l ev_ms x_X5_house tx_X5_house 58 (i_gf X 10 5 61) := s_getfield hG (ci := 10) (r := (RX5, TX5, 7)) rfl cw_10 (k := 5) (Nat.le_of_ble_eq_true rfl) w_222 rfl (Or.inl rfl) dX5_house_58
theorem s_X5_house_61 {X : ev_E} {l : Launch} (hG : ev_Good X) (hl : l.stackTraces = false) : ev_Snd X l ev_ms x_X5_house tx_X5_house 61 (i_ir (.int)) := s_ireturn rfl dX5_house_61
theorem s_X5_house_62 {X : ev_E} {l : Launch} (hG : ev_Good X) (hl : l.stackTraces = false) : ev_Snd X l ev_ms x_X5_house tx_X5_house 62 (i_al 0 63) := s_aload_n dX5_house_62 rfl
theorem s_X5_house_63 {X : ev_E} {l : Launch} (hG : ev_Good X) (hl : l.stackTraces = false) : ev_Snd X l ev_ms x_X5_house tx_X5_house 63 (i_gf X 10 6 66) := s_getfield hG (ci := 10) (r := (RX5, TX5, 7)) rfl cw_10 (k := 6) (Nat.le_of_ble_eq_true rfl) w_223 rfl (Or.inl rfl) dX5_house_63
theorem s_X5_house_66 {X : ev_E} {l : Launch} (hG : ev_Good X) (hl : l.stackTraces = false) : ev_Snd X l ev_ms x_X5_house tx_X5_house 66 (i_ir (.int)) := s_ireturn rfl dX5_house_66
theorem s_X5_house_67 {X : ev_E} {l : Launch} (hG : ev_Good X) (hl : l.stackTraces = false) : ev_Snd X l ev_ms x_X5_house tx_X5_house 67 (i_thr 1) := s_throw hG hl (E := 1) (text := "what is not 0 to 4") (names := ["java/lang/RuntimeException", "java/lang/Exception"]) (by decide +kernel) (by decide +kernel) (by decide) rfl w_690 w_65 (ta_RX5_62_1 (i := 58)).1 (ta_RX5_62_1 (i := 58)).2 (str_RX5_155 hG) dX5_house_67 dX5_house_70 dX5_house_71 dX5_house_73 dX5_house_76
theorem sa_X5_house {X : ev_E} {l : Launch} (hG : ev_Good X) (hl : l.stackTraces = false) : ∀ q ∈ tb_X5_house X, ev_Snd X l ev_ms x_X5_house tx_X5_house q.1 q.2 := by
  intro q hq
  unfold tb_X5_house at hq
  simp only [List.mem_cons, List.not_mem_nil, or_false] at hq
  rcases hq with rfl | rfl | rfl | rfl | rfl | rfl | rfl | rfl | rfl | rfl | rfl | rfl | rfl | rfl | rfl | rfl | rfl | rfl | rfl | rfl
  · exact s_X5_house_0 hG hl
  · exact s_X5_house_1 hG hl
  · exact s_X5_house_36 hG hl
  · exact s_X5_house_37 hG hl
  · exact s_X5_house_40 hG hl
  · exact s_X5_house_41 hG hl
  · exact s_X5_house_42 hG hl
  · exact s_X5_house_45 hG hl
  · exact s_X5_house_48 hG hl
  · exact s_X5_house_49 hG hl
  · exact s_X5_house_50 hG hl
  · exact s_X5_house_53 hG hl
  · exact s_X5_house_56 hG hl
  · exact s_X5_house_57 hG hl
  · exact s_X5_house_58 hG hl
  · exact s_X5_house_61 hG hl
  · exact s_X5_house_62 hG hl
  · exact s_X5_house_63 hG hl
  · exact s_X5_house_66 hG hl
  · exact s_X5_house_67 hG hl
def tx_X5_isNoTableAboveMost : ev_X := fun _ _ => some none
noncomputable def tb_X5_isNoTableAboveMost (X : ev_E) : List (Nat × (ev_S → ev_N)) := [(0, i_al 0 1), (1, i_gf X 10 0 4), (4, i_as 1 5), (5, i_al 1 6), (6, i_len X 7), (7, i_is 2 8), (8, i_psh (.int (0)) 9), (9, i_is 3 10), (10, i_il 3 11), (11, i_il 2 12), (12, i_icge 39 15), (15, i_al 1 16), (16, i_il 3 17), (17, i_ald X FieldType.isReference 18), (18, i_as 4 20), (20, i_al 4 22), (22, i_gf X 8 0 25), (25, i_cV X 38 0 7 1 28), (28, i_ifeq 33 31), (31, i_psh (.int (0)) 32), (32, i_ir (.boolean)), (33, i_inc 3 (1) 36), (36, i_goto 10), (39, i_al 0 40), (40, i_gf X 10 3 43), (43, i_as 1 44), (44, i_al 1 45), (45, i_len X 46), (46, i_is 2 47), (47, i_psh (.int (0)) 48), (48, i_is 3 49), (49, i_il 3 50), (50, i_il 2 51), (51, i_icge 78 54), (54, i_al 1 55), (55, i_il 3 56), (56, i_ald X FieldType.isReference 57), (57, i_as 4 59), (59, i_al 4 61), (61, i_gf X 6 0 64), (64, i_cV X 38 0 7 1 67), (67, i_ifeq 72 70), (70, i_psh (.int (0)) 71), (71, i_ir (.boolean)), (72, i_inc 3 (1) 75), (75, i_goto 49), (78, i_psh (.int (1)) 79), (79, i_ir (.boolean))]
theorem s_X5_isNoTableAboveMost_0 {X : ev_E} {l : Launch} (hG : ev_Good X) (hl : l.stackTraces = false) : ev_Snd X l ev_ms x_X5_isNoTableAboveMost tx_X5_isNoTableAboveMost 0 (i_al 0 1) := s_aload_n dX5_isNoTableAboveMost_0 rfl
theorem s_X5_isNoTableAboveMost_1 {X : ev_E} {l : Launch} (hG : ev_Good X) (hl : l.stackTraces = false) : ev_Snd X l ev_ms x_X5_isNoTableAboveMost tx_X5_isNoTableAboveMost 1 (i_gf X 10 0 4) := s_getfield hG (ci := 10) (r := (RX5, TX5, 7)) rfl cw_10 (k := 0) (Nat.le_of_ble_eq_true rfl) w_217 rfl (Or.inl rfl) dX5_isNoTableAboveMost_1
theorem s_X5_isNoTableAboveMost_4 {X : ev_E} {l : Launch} (hG : ev_Good X) (hl : l.stackTraces = false) : ev_Snd X l ev_ms x_X5_isNoTableAboveMost tx_X5_isNoTableAboveMost 4 (i_as 1 5) := s_astore_n dX5_isNoTableAboveMost_4 rfl (Nat.le_of_ble_eq_true rfl)
theorem s_X5_isNoTableAboveMost_5 {X : ev_E} {l : Launch} (hG : ev_Good X) (hl : l.stackTraces = false) : ev_Snd X l ev_ms x_X5_isNoTableAboveMost tx_X5_isNoTableAboveMost 5 (i_al 1 6) := s_aload_n dX5_isNoTableAboveMost_5 rfl
theorem s_X5_isNoTableAboveMost_6 {X : ev_E} {l : Launch} (hG : ev_Good X) (hl : l.stackTraces = false) : ev_Snd X l ev_ms x_X5_isNoTableAboveMost tx_X5_isNoTableAboveMost 6 (i_len X 7) := s_arraylength hG dX5_isNoTableAboveMost_6
theorem s_X5_isNoTableAboveMost_7 {X : ev_E} {l : Launch} (hG : ev_Good X) (hl : l.stackTraces = false) : ev_Snd X l ev_ms x_X5_isNoTableAboveMost tx_X5_isNoTableAboveMost 7 (i_is 2 8) := s_istore_n dX5_isNoTableAboveMost_7 rfl (Nat.le_of_ble_eq_true rfl)
theorem s_X5_isNoTableAboveMost_8 {X : ev_E} {l : Launch} (hG : ev_Good X) (hl : l.stackTraces = false) : ev_Snd X l ev_ms x_X5_isNoTableAboveMost tx_X5_isNoTableAboveMost 8 (i_psh (.int (0)) 9) := s_iconst dX5_isNoTableAboveMost_8 rfl
theorem s_X5_isNoTableAboveMost_9 {X : ev_E} {l : Launch} (hG : ev_Good X) (hl : l.stackTraces = false) : ev_Snd X l ev_ms x_X5_isNoTableAboveMost tx_X5_isNoTableAboveMost 9 (i_is 3 10) := s_istore_n dX5_isNoTableAboveMost_9 rfl (Nat.le_of_ble_eq_true rfl)
theorem s_X5_isNoTableAboveMost_10 {X : ev_E} {l : Launch} (hG : ev_Good X) (hl : l.stackTraces = false) : ev_Snd X l ev_ms x_X5_isNoTableAboveMost tx_X5_isNoTableAboveMost 10 (i_il 3 11) := s_iload_n dX5_isNoTableAboveMost_10 rfl
theorem s_X5_isNoTableAboveMost_11 {X : ev_E} {l : Launch} (hG : ev_Good X) (hl : l.stackTraces = false) : ev_Snd X l ev_ms x_X5_isNoTableAboveMost tx_X5_isNoTableAboveMost 11 (i_il 2 12) := s_iload_n dX5_isNoTableAboveMost_11 rfl
theorem s_X5_isNoTableAboveMost_12 {X : ev_E} {l : Launch} (hG : ev_Good X) (hl : l.stackTraces = false) : ev_Snd X l ev_ms x_X5_isNoTableAboveMost tx_X5_isNoTableAboveMost 12 (i_icge 39 15) := s_icge dX5_isNoTableAboveMost_12 rfl
theorem s_X5_isNoTableAboveMost_15 {X : ev_E} {l : Launch} (hG : ev_Good X) (hl : l.stackTraces = false) : ev_Snd X l ev_ms x_X5_isNoTableAboveMost tx_X5_isNoTableAboveMost 15 (i_al 1 16) := s_aload_n dX5_isNoTableAboveMost_15 rfl
theorem s_X5_isNoTableAboveMost_16 {X : ev_E} {l : Launch} (hG : ev_Good X) (hl : l.stackTraces = false) : ev_Snd X l ev_ms x_X5_isNoTableAboveMost tx_X5_isNoTableAboveMost 16 (i_il 3 17) := s_iload_n dX5_isNoTableAboveMost_16 rfl
theorem s_X5_isNoTableAboveMost_17 {X : ev_E} {l : Launch} (hG : ev_Good X) (hl : l.stackTraces = false) : ev_Snd X l ev_ms x_X5_isNoTableAboveMost tx_X5_isNoTableAboveMost 17 (i_ald X FieldType.isReference 18) := s_aaload hG dX5_isNoTableAboveMost_17
theorem s_X5_isNoTableAboveMost_18 {X : ev_E} {l : Launch} (hG : ev_Good X) (hl : l.stackTraces = false) : ev_Snd X l ev_ms x_X5_isNoTableAboveMost tx_X5_isNoTableAboveMost 18 (i_as 4 20) := s_astore dX5_isNoTableAboveMost_18 (Nat.le_of_ble_eq_true rfl)
theorem s_X5_isNoTableAboveMost_20 {X : ev_E} {l : Launch} (hG : ev_Good X) (hl : l.stackTraces = false) : ev_Snd X l ev_ms x_X5_isNoTableAboveMost tx_X5_isNoTableAboveMost 20 (i_al 4 22) := s_aload dX5_isNoTableAboveMost_20
theorem s_X5_isNoTableAboveMost_22 {X : ev_E} {l : Launch} (hG : ev_Good X) (hl : l.stackTraces = false) : ev_Snd X l ev_ms x_X5_isNoTableAboveMost tx_X5_isNoTableAboveMost 22 (i_gf X 8 0 25) := s_getfieldN hG (ci := 8) (r := (RX3, TX3, 2)) rfl cw_8 (k := 0) (Nat.le_of_ble_eq_true rfl) w_189 rfl dX5_isNoTableAboveMost_22
theorem s_X5_isNoTableAboveMost_25 {X : ev_E} {l : Launch} (hG : ev_Good X) (hl : l.stackTraces = false) : ev_Snd X l ev_ms x_X5_isNoTableAboveMost tx_X5_isNoTableAboveMost 25 (i_cV X 38 0 7 1 28) := s_invokevirtual hG (mi := 38) (n := 0) (ci := 7) (r := (RX2, TX2, 7)) rfl (cal_X2_isAboveMost (Nat.le_of_ble_eq_true rfl)) w_644 w_645 w_646 dX5_isNoTableAboveMost_25
theorem s_X5_isNoTableAboveMost_28 {X : ev_E} {l : Launch} (hG : ev_Good X) (hl : l.stackTraces = false) : ev_Snd X l ev_ms x_X5_isNoTableAboveMost tx_X5_isNoTableAboveMost 28 (i_ifeq 33 31) := s_ifeq dX5_isNoTableAboveMost_28 rfl
theorem s_X5_isNoTableAboveMost_31 {X : ev_E} {l : Launch} (hG : ev_Good X) (hl : l.stackTraces = false) : ev_Snd X l ev_ms x_X5_isNoTableAboveMost tx_X5_isNoTableAboveMost 31 (i_psh (.int (0)) 32) := s_iconst dX5_isNoTableAboveMost_31 rfl
theorem s_X5_isNoTableAboveMost_32 {X : ev_E} {l : Launch} (hG : ev_Good X) (hl : l.stackTraces = false) : ev_Snd X l ev_ms x_X5_isNoTableAboveMost tx_X5_isNoTableAboveMost 32 (i_ir (.boolean)) := s_ireturn rfl dX5_isNoTableAboveMost_32
theorem s_X5_isNoTableAboveMost_33 {X : ev_E} {l : Launch} (hG : ev_Good X) (hl : l.stackTraces = false) : ev_Snd X l ev_ms x_X5_isNoTableAboveMost tx_X5_isNoTableAboveMost 33 (i_inc 3 (1) 36) := s_iinc dX5_isNoTableAboveMost_33 rfl (Nat.le_of_ble_eq_true rfl)
theorem s_X5_isNoTableAboveMost_36 {X : ev_E} {l : Launch} (hG : ev_Good X) (hl : l.stackTraces = false) : ev_Snd X l ev_ms x_X5_isNoTableAboveMost tx_X5_isNoTableAboveMost 36 (i_goto 10) := s_goto dX5_isNoTableAboveMost_36 rfl
theorem s_X5_isNoTableAboveMost_39 {X : ev_E} {l : Launch} (hG : ev_Good X) (hl : l.stackTraces = false) : ev_Snd X l ev_ms x_X5_isNoTableAboveMost tx_X5_isNoTableAboveMost 39 (i_al 0 40) := s_aload_n dX5_isNoTableAboveMost_39 rfl
theorem s_X5_isNoTableAboveMost_40 {X : ev_E} {l : Launch} (hG : ev_Good X) (hl : l.stackTraces = false) : ev_Snd X l ev_ms x_X5_isNoTableAboveMost tx_X5_isNoTableAboveMost 40 (i_gf X 10 3 43) := s_getfield hG (ci := 10) (r := (RX5, TX5, 7)) rfl cw_10 (k := 3) (Nat.le_of_ble_eq_true rfl) w_220 rfl (Or.inl rfl) dX5_isNoTableAboveMost_40
theorem s_X5_isNoTableAboveMost_43 {X : ev_E} {l : Launch} (hG : ev_Good X) (hl : l.stackTraces = false) : ev_Snd X l ev_ms x_X5_isNoTableAboveMost tx_X5_isNoTableAboveMost 43 (i_as 1 44) := s_astore_n dX5_isNoTableAboveMost_43 rfl (Nat.le_of_ble_eq_true rfl)
theorem s_X5_isNoTableAboveMost_44 {X : ev_E} {l : Launch} (hG : ev_Good X) (hl : l.stackTraces = false) : ev_Snd X l ev_ms x_X5_isNoTableAboveMost tx_X5_isNoTableAboveMost 44 (i_al 1 45) := s_aload_n dX5_isNoTableAboveMost_44 rfl
theorem s_X5_isNoTableAboveMost_45 {X : ev_E} {l : Launch} (hG : ev_Good X) (hl : l.stackTraces = false) : ev_Snd X l ev_ms x_X5_isNoTableAboveMost tx_X5_isNoTableAboveMost 45 (i_len X 46) := s_arraylength hG dX5_isNoTableAboveMost_45
theorem s_X5_isNoTableAboveMost_46 {X : ev_E} {l : Launch} (hG : ev_Good X) (hl : l.stackTraces = false) : ev_Snd X l ev_ms x_X5_isNoTableAboveMost tx_X5_isNoTableAboveMost 46 (i_is 2 47) := s_istore_n dX5_isNoTableAboveMost_46 rfl (Nat.le_of_ble_eq_true rfl)
theorem s_X5_isNoTableAboveMost_47 {X : ev_E} {l : Launch} (hG : ev_Good X) (hl : l.stackTraces = false) : ev_Snd X l ev_ms x_X5_isNoTableAboveMost tx_X5_isNoTableAboveMost 47 (i_psh (.int (0)) 48) := s_iconst dX5_isNoTableAboveMost_47 rfl
theorem s_X5_isNoTableAboveMost_48 {X : ev_E} {l : Launch} (hG : ev_Good X) (hl : l.stackTraces = false) : ev_Snd X l ev_ms x_X5_isNoTableAboveMost tx_X5_isNoTableAboveMost 48 (i_is 3 49) := s_istore_n dX5_isNoTableAboveMost_48 rfl (Nat.le_of_ble_eq_true rfl)
theorem s_X5_isNoTableAboveMost_49 {X : ev_E} {l : Launch} (hG : ev_Good X) (hl : l.stackTraces = false) : ev_Snd X l ev_ms x_X5_isNoTableAboveMost tx_X5_isNoTableAboveMost 49 (i_il 3 50) := s_iload_n dX5_isNoTableAboveMost_49 rfl
theorem s_X5_isNoTableAboveMost_50 {X : ev_E} {l : Launch} (hG : ev_Good X) (hl : l.stackTraces = false) : ev_Snd X l ev_ms x_X5_isNoTableAboveMost tx_X5_isNoTableAboveMost 50 (i_il 2 51) := s_iload_n dX5_isNoTableAboveMost_50 rfl
theorem s_X5_isNoTableAboveMost_51 {X : ev_E} {l : Launch} (hG : ev_Good X) (hl : l.stackTraces = false) : ev_Snd X l ev_ms x_X5_isNoTableAboveMost tx_X5_isNoTableAboveMost 51 (i_icge 78 54) := s_icge dX5_isNoTableAboveMost_51 rfl
theorem s_X5_isNoTableAboveMost_54 {X : ev_E} {l : Launch} (hG : ev_Good X) (hl : l.stackTraces = false) : ev_Snd X l ev_ms x_X5_isNoTableAboveMost tx_X5_isNoTableAboveMost 54 (i_al 1 55) := s_aload_n dX5_isNoTableAboveMost_54 rfl
theorem s_X5_isNoTableAboveMost_55 {X : ev_E} {l : Launch} (hG : ev_Good X) (hl : l.stackTraces = false) : ev_Snd X l ev_ms x_X5_isNoTableAboveMost tx_X5_isNoTableAboveMost 55 (i_il 3 56) := s_iload_n dX5_isNoTableAboveMost_55 rfl
theorem s_X5_isNoTableAboveMost_56 {X : ev_E} {l : Launch} (hG : ev_Good X) (hl : l.stackTraces = false) : ev_Snd X l ev_ms x_X5_isNoTableAboveMost tx_X5_isNoTableAboveMost 56 (i_ald X FieldType.isReference 57) := s_aaload hG dX5_isNoTableAboveMost_56
theorem s_X5_isNoTableAboveMost_57 {X : ev_E} {l : Launch} (hG : ev_Good X) (hl : l.stackTraces = false) : ev_Snd X l ev_ms x_X5_isNoTableAboveMost tx_X5_isNoTableAboveMost 57 (i_as 4 59) := s_astore dX5_isNoTableAboveMost_57 (Nat.le_of_ble_eq_true rfl)
theorem s_X5_isNoTableAboveMost_59 {X : ev_E} {l : Launch} (hG : ev_Good X) (hl : l.stackTraces = false) : ev_Snd X l ev_ms x_X5_isNoTableAboveMost tx_X5_isNoTableAboveMost 59 (i_al 4 61) := s_aload dX5_isNoTableAboveMost_59
theorem s_X5_isNoTableAboveMost_61 {X : ev_E} {l : Launch} (hG : ev_Good X) (hl : l.stackTraces = false) : ev_Snd X l ev_ms x_X5_isNoTableAboveMost tx_X5_isNoTableAboveMost 61 (i_gf X 6 0 64) := s_getfieldN hG (ci := 6) (r := (RX1, TX1, 3)) rfl cw_6 (k := 0) (Nat.le_of_ble_eq_true rfl) w_205 rfl dX5_isNoTableAboveMost_61
theorem s_X5_isNoTableAboveMost_64 {X : ev_E} {l : Launch} (hG : ev_Good X) (hl : l.stackTraces = false) : ev_Snd X l ev_ms x_X5_isNoTableAboveMost tx_X5_isNoTableAboveMost 64 (i_cV X 38 0 7 1 67) := s_invokevirtual hG (mi := 38) (n := 0) (ci := 7) (r := (RX2, TX2, 7)) rfl (cal_X2_isAboveMost (Nat.le_of_ble_eq_true rfl)) w_644 w_645 w_646 dX5_isNoTableAboveMost_64
theorem s_X5_isNoTableAboveMost_67 {X : ev_E} {l : Launch} (hG : ev_Good X) (hl : l.stackTraces = false) : ev_Snd X l ev_ms x_X5_isNoTableAboveMost tx_X5_isNoTableAboveMost 67 (i_ifeq 72 70) := s_ifeq dX5_isNoTableAboveMost_67 rfl
theorem s_X5_isNoTableAboveMost_70 {X : ev_E} {l : Launch} (hG : ev_Good X) (hl : l.stackTraces = false) : ev_Snd X l ev_ms x_X5_isNoTableAboveMost tx_X5_isNoTableAboveMost 70 (i_psh (.int (0)) 71) := s_iconst dX5_isNoTableAboveMost_70 rfl
theorem s_X5_isNoTableAboveMost_71 {X : ev_E} {l : Launch} (hG : ev_Good X) (hl : l.stackTraces = false) : ev_Snd X l ev_ms x_X5_isNoTableAboveMost tx_X5_isNoTableAboveMost 71 (i_ir (.boolean)) := s_ireturn rfl dX5_isNoTableAboveMost_71
theorem s_X5_isNoTableAboveMost_72 {X : ev_E} {l : Launch} (hG : ev_Good X) (hl : l.stackTraces = false) : ev_Snd X l ev_ms x_X5_isNoTableAboveMost tx_X5_isNoTableAboveMost 72 (i_inc 3 (1) 75) := s_iinc dX5_isNoTableAboveMost_72 rfl (Nat.le_of_ble_eq_true rfl)
theorem s_X5_isNoTableAboveMost_75 {X : ev_E} {l : Launch} (hG : ev_Good X) (hl : l.stackTraces = false) : ev_Snd X l ev_ms x_X5_isNoTableAboveMost tx_X5_isNoTableAboveMost 75 (i_goto 49) := s_goto dX5_isNoTableAboveMost_75 rfl
theorem s_X5_isNoTableAboveMost_78 {X : ev_E} {l : Launch} (hG : ev_Good X) (hl : l.stackTraces = false) : ev_Snd X l ev_ms x_X5_isNoTableAboveMost tx_X5_isNoTableAboveMost 78 (i_psh (.int (1)) 79) := s_iconst dX5_isNoTableAboveMost_78 rfl
theorem s_X5_isNoTableAboveMost_79 {X : ev_E} {l : Launch} (hG : ev_Good X) (hl : l.stackTraces = false) : ev_Snd X l ev_ms x_X5_isNoTableAboveMost tx_X5_isNoTableAboveMost 79 (i_ir (.boolean)) := s_ireturn rfl dX5_isNoTableAboveMost_79
theorem sa_X5_isNoTableAboveMost {X : ev_E} {l : Launch} (hG : ev_Good X) (hl : l.stackTraces = false) : ∀ q ∈ tb_X5_isNoTableAboveMost X, ev_Snd X l ev_ms x_X5_isNoTableAboveMost tx_X5_isNoTableAboveMost q.1 q.2 := by
  intro q hq
  unfold tb_X5_isNoTableAboveMost at hq
  simp only [List.mem_cons, List.not_mem_nil, or_false] at hq
  rcases hq with rfl | rfl | rfl | rfl | rfl | rfl | rfl | rfl | rfl | rfl | rfl | rfl | rfl | rfl | rfl | rfl | rfl | rfl | rfl | rfl | rfl | rfl | rfl | rfl | rfl | rfl | rfl | rfl | rfl | rfl | rfl | rfl | rfl | rfl | rfl | rfl | rfl | rfl | rfl | rfl | rfl | rfl | rfl | rfl | rfl | rfl | rfl | rfl
  · exact s_X5_isNoTableAboveMost_0 hG hl
  · exact s_X5_isNoTableAboveMost_1 hG hl
  · exact s_X5_isNoTableAboveMost_4 hG hl
  · exact s_X5_isNoTableAboveMost_5 hG hl
  · exact s_X5_isNoTableAboveMost_6 hG hl
  · exact s_X5_isNoTableAboveMost_7 hG hl
  · exact s_X5_isNoTableAboveMost_8 hG hl
  · exact s_X5_isNoTableAboveMost_9 hG hl
  · exact s_X5_isNoTableAboveMost_10 hG hl
  · exact s_X5_isNoTableAboveMost_11 hG hl
  · exact s_X5_isNoTableAboveMost_12 hG hl
  · exact s_X5_isNoTableAboveMost_15 hG hl
  · exact s_X5_isNoTableAboveMost_16 hG hl
  · exact s_X5_isNoTableAboveMost_17 hG hl
  · exact s_X5_isNoTableAboveMost_18 hG hl
  · exact s_X5_isNoTableAboveMost_20 hG hl
  · exact s_X5_isNoTableAboveMost_22 hG hl
  · exact s_X5_isNoTableAboveMost_25 hG hl
  · exact s_X5_isNoTableAboveMost_28 hG hl
  · exact s_X5_isNoTableAboveMost_31 hG hl
  · exact s_X5_isNoTableAboveMost_32 hG hl
  · exact s_X5_isNoTableAboveMost_33 hG hl
  · exact s_X5_isNoTableAboveMost_36 hG hl
  · exact s_X5_isNoTableAboveMost_39 hG hl
  · exact s_X5_isNoTableAboveMost_40 hG hl
  · exact s_X5_isNoTableAboveMost_43 hG hl
  · exact s_X5_isNoTableAboveMost_44 hG hl
  · exact s_X5_isNoTableAboveMost_45 hG hl
  · exact s_X5_isNoTableAboveMost_46 hG hl
  · exact s_X5_isNoTableAboveMost_47 hG hl
  · exact s_X5_isNoTableAboveMost_48 hG hl
  · exact s_X5_isNoTableAboveMost_49 hG hl
  · exact s_X5_isNoTableAboveMost_50 hG hl
  · exact s_X5_isNoTableAboveMost_51 hG hl
  · exact s_X5_isNoTableAboveMost_54 hG hl
  · exact s_X5_isNoTableAboveMost_55 hG hl
  · exact s_X5_isNoTableAboveMost_56 hG hl
  · exact s_X5_isNoTableAboveMost_57 hG hl
  · exact s_X5_isNoTableAboveMost_59 hG hl
  · exact s_X5_isNoTableAboveMost_61 hG hl
  · exact s_X5_isNoTableAboveMost_64 hG hl
  · exact s_X5_isNoTableAboveMost_67 hG hl
  · exact s_X5_isNoTableAboveMost_70 hG hl
  · exact s_X5_isNoTableAboveMost_71 hG hl
  · exact s_X5_isNoTableAboveMost_72 hG hl
  · exact s_X5_isNoTableAboveMost_75 hG hl
  · exact s_X5_isNoTableAboveMost_78 hG hl
  · exact s_X5_isNoTableAboveMost_79 hG hl
def tx_X5_isStale : ev_X := fun _ _ => some none
noncomputable def tb_X5_isStale (X : ev_E) : List (Nat × (ev_S → ev_N)) := [(0, i_al 0 1), (1, i_il 1 2), (2, i_cV X 59 1 10 2 5), (5, i_gf X 8 1 8), (8, i_cV X 43 0 9 1 11), (11, i_ir (.boolean))]
theorem s_X5_isStale_0 {X : ev_E} {l : Launch} (hG : ev_Good X) (hl : l.stackTraces = false) : ev_Snd X l ev_ms x_X5_isStale tx_X5_isStale 0 (i_al 0 1) := s_aload_n dX5_isStale_0 rfl
theorem s_X5_isStale_1 {X : ev_E} {l : Launch} (hG : ev_Good X) (hl : l.stackTraces = false) : ev_Snd X l ev_ms x_X5_isStale tx_X5_isStale 1 (i_il 1 2) := s_iload_n dX5_isStale_1 rfl
theorem s_X5_isStale_2 {X : ev_E} {l : Launch} (hG : ev_Good X) (hl : l.stackTraces = false) : ev_Snd X l ev_ms x_X5_isStale tx_X5_isStale 2 (i_cV X 59 1 10 2 5) := s_invokevirtual hG (mi := 59) (n := 1) (ci := 10) (r := (RX5, TX5, 7)) rfl (cal_X5_tableOf (Nat.le_of_ble_eq_true rfl)) w_705 w_707 w_11 dX5_isStale_2
theorem s_X5_isStale_5 {X : ev_E} {l : Launch} (hG : ev_Good X) (hl : l.stackTraces = false) : ev_Snd X l ev_ms x_X5_isStale tx_X5_isStale 5 (i_gf X 8 1 8) := s_getfieldN hG (ci := 8) (r := (RX3, TX3, 2)) rfl cw_8 (k := 1) (Nat.le_of_ble_eq_true rfl) w_191 rfl dX5_isStale_5
theorem s_X5_isStale_8 {X : ev_E} {l : Launch} (hG : ev_Good X) (hl : l.stackTraces = false) : ev_Snd X l ev_ms x_X5_isStale tx_X5_isStale 8 (i_cV X 43 0 9 1 11) := s_invokevirtual hG (mi := 43) (n := 0) (ci := 9) (r := (RX4, TX4, 6)) rfl (cal_X4_isOutdated (Nat.le_of_ble_eq_true rfl)) w_762 w_763 w_764 dX5_isStale_8
theorem s_X5_isStale_11 {X : ev_E} {l : Launch} (hG : ev_Good X) (hl : l.stackTraces = false) : ev_Snd X l ev_ms x_X5_isStale tx_X5_isStale 11 (i_ir (.boolean)) := s_ireturn rfl dX5_isStale_11
theorem sa_X5_isStale {X : ev_E} {l : Launch} (hG : ev_Good X) (hl : l.stackTraces = false) : ∀ q ∈ tb_X5_isStale X, ev_Snd X l ev_ms x_X5_isStale tx_X5_isStale q.1 q.2 := by
  intro q hq
  unfold tb_X5_isStale at hq
  simp only [List.mem_cons, List.not_mem_nil, or_false] at hq
  rcases hq with rfl | rfl | rfl | rfl | rfl | rfl
  · exact s_X5_isStale_0 hG hl
  · exact s_X5_isStale_1 hG hl
  · exact s_X5_isStale_2 hG hl
  · exact s_X5_isStale_5 hG hl
  · exact s_X5_isStale_8 hG hl
  · exact s_X5_isStale_11 hG hl
def tx_X5_keeperOf : ev_X := fun _ _ => some none
noncomputable def tb_X5_keeperOf (X : ev_E) : List (Nat × (ev_S → ev_N)) := [(0, i_il 1 1), (1, i_cS 51 1 1 4), (4, i_al 0 5), (5, i_gf X 10 3 8), (8, i_il 1 9), (9, i_psh (.int (1)) 10), (10, i_ii (fun a b => a - b) 11), (11, i_ald X FieldType.isReference 12), (12, i_ar)]
theorem s_X5_keeperOf_0 {X : ev_E} {l : Launch} (hG : ev_Good X) (hl : l.stackTraces = false) : ev_Snd X l ev_ms x_X5_keeperOf tx_X5_keeperOf 0 (i_il 1 1) := s_iload_n dX5_keeperOf_0 rfl
theorem s_X5_keeperOf_1 {X : ev_E} {l : Launch} (hG : ev_Good X) (hl : l.stackTraces = false) : ev_Snd X l ev_ms x_X5_keeperOf tx_X5_keeperOf 1 (i_cS 51 1 1 4) := s_invokestatic hG (mi := 51) (n := 1) (cal_X5_demandSize (Nat.le_of_ble_eq_true rfl)) w_780 w_781 dX5_keeperOf_1
theorem s_X5_keeperOf_4 {X : ev_E} {l : Launch} (hG : ev_Good X) (hl : l.stackTraces = false) : ev_Snd X l ev_ms x_X5_keeperOf tx_X5_keeperOf 4 (i_al 0 5) := s_aload_n dX5_keeperOf_4 rfl
theorem s_X5_keeperOf_5 {X : ev_E} {l : Launch} (hG : ev_Good X) (hl : l.stackTraces = false) : ev_Snd X l ev_ms x_X5_keeperOf tx_X5_keeperOf 5 (i_gf X 10 3 8) := s_getfield hG (ci := 10) (r := (RX5, TX5, 7)) rfl cw_10 (k := 3) (Nat.le_of_ble_eq_true rfl) w_220 rfl (Or.inl rfl) dX5_keeperOf_5
theorem s_X5_keeperOf_8 {X : ev_E} {l : Launch} (hG : ev_Good X) (hl : l.stackTraces = false) : ev_Snd X l ev_ms x_X5_keeperOf tx_X5_keeperOf 8 (i_il 1 9) := s_iload_n dX5_keeperOf_8 rfl
theorem s_X5_keeperOf_9 {X : ev_E} {l : Launch} (hG : ev_Good X) (hl : l.stackTraces = false) : ev_Snd X l ev_ms x_X5_keeperOf tx_X5_keeperOf 9 (i_psh (.int (1)) 10) := s_iconst dX5_keeperOf_9 rfl
theorem s_X5_keeperOf_10 {X : ev_E} {l : Launch} (hG : ev_Good X) (hl : l.stackTraces = false) : ev_Snd X l ev_ms x_X5_keeperOf tx_X5_keeperOf 10 (i_ii (fun a b => a - b) 11) := s_isub dX5_keeperOf_10
theorem s_X5_keeperOf_11 {X : ev_E} {l : Launch} (hG : ev_Good X) (hl : l.stackTraces = false) : ev_Snd X l ev_ms x_X5_keeperOf tx_X5_keeperOf 11 (i_ald X FieldType.isReference 12) := s_aaload hG dX5_keeperOf_11
theorem s_X5_keeperOf_12 {X : ev_E} {l : Launch} (hG : ev_Good X) (hl : l.stackTraces = false) : ev_Snd X l ev_ms x_X5_keeperOf tx_X5_keeperOf 12 (i_ar) := s_areturn (rt := (.object "Lastasked$Keeper")) rfl (by first | exact Or.inl ⟨_, rfl⟩ | exact Or.inr ⟨_, rfl⟩) dX5_keeperOf_12
theorem sa_X5_keeperOf {X : ev_E} {l : Launch} (hG : ev_Good X) (hl : l.stackTraces = false) : ∀ q ∈ tb_X5_keeperOf X, ev_Snd X l ev_ms x_X5_keeperOf tx_X5_keeperOf q.1 q.2 := by
  intro q hq
  unfold tb_X5_keeperOf at hq
  simp only [List.mem_cons, List.not_mem_nil, or_false] at hq
  rcases hq with rfl | rfl | rfl | rfl | rfl | rfl | rfl | rfl | rfl
  · exact s_X5_keeperOf_0 hG hl
  · exact s_X5_keeperOf_1 hG hl
  · exact s_X5_keeperOf_4 hG hl
  · exact s_X5_keeperOf_5 hG hl
  · exact s_X5_keeperOf_8 hG hl
  · exact s_X5_keeperOf_9 hG hl
  · exact s_X5_keeperOf_10 hG hl
  · exact s_X5_keeperOf_11 hG hl
  · exact s_X5_keeperOf_12 hG hl
def tx_X5_ofTable : ev_X := fun _ _ => some none
noncomputable def tb_X5_ofTable (X : ev_E) : List (Nat × (ev_S → ev_N)) := [(0, i_al 0 1), (1, i_il 1 2), (2, i_cV X 59 1 10 2 5), (5, i_gf X 8 0 8), (8, i_as 3 9), (9, i_il 2 10), (10, i_sw (0) [44, 57, 62, 67, 72] 77), (44, i_al 3 45), (45, i_gf X 7 3 48), (48, i_ifeq 55 51), (51, i_psh (.int (1)) 52), (52, i_goto 56), (55, i_psh (.int (0)) 56), (56, i_ir (.int)), (57, i_al 3 58), (58, i_gf X 7 4 61), (61, i_ir (.int)), (62, i_al 3 63), (63, i_gf X 7 5 66), (66, i_ir (.int)), (67, i_al 3 68), (68, i_gf X 7 6 71), (71, i_ir (.int)), (72, i_al 3 73), (73, i_cV X 40 0 7 3 76), (76, i_ir (.int)), (77, i_thr 1)]
theorem s_X5_ofTable_0 {X : ev_E} {l : Launch} (hG : ev_Good X) (hl : l.stackTraces = false) : ev_Snd X l ev_ms x_X5_ofTable tx_X5_ofTable 0 (i_al 0 1) := s_aload_n dX5_ofTable_0 rfl
theorem s_X5_ofTable_1 {X : ev_E} {l : Launch} (hG : ev_Good X) (hl : l.stackTraces = false) : ev_Snd X l ev_ms x_X5_ofTable tx_X5_ofTable 1 (i_il 1 2) := s_iload_n dX5_ofTable_1 rfl
theorem s_X5_ofTable_2 {X : ev_E} {l : Launch} (hG : ev_Good X) (hl : l.stackTraces = false) : ev_Snd X l ev_ms x_X5_ofTable tx_X5_ofTable 2 (i_cV X 59 1 10 2 5) := s_invokevirtual hG (mi := 59) (n := 1) (ci := 10) (r := (RX5, TX5, 7)) rfl (cal_X5_tableOf (Nat.le_of_ble_eq_true rfl)) w_705 w_707 w_11 dX5_ofTable_2
theorem s_X5_ofTable_5 {X : ev_E} {l : Launch} (hG : ev_Good X) (hl : l.stackTraces = false) : ev_Snd X l ev_ms x_X5_ofTable tx_X5_ofTable 5 (i_gf X 8 0 8) := s_getfieldN hG (ci := 8) (r := (RX3, TX3, 2)) rfl cw_8 (k := 0) (Nat.le_of_ble_eq_true rfl) w_189 rfl dX5_ofTable_5
theorem s_X5_ofTable_8 {X : ev_E} {l : Launch} (hG : ev_Good X) (hl : l.stackTraces = false) : ev_Snd X l ev_ms x_X5_ofTable tx_X5_ofTable 8 (i_as 3 9) := s_astore_n dX5_ofTable_8 rfl (Nat.le_of_ble_eq_true rfl)
theorem s_X5_ofTable_9 {X : ev_E} {l : Launch} (hG : ev_Good X) (hl : l.stackTraces = false) : ev_Snd X l ev_ms x_X5_ofTable tx_X5_ofTable 9 (i_il 2 10) := s_iload_n dX5_ofTable_9 rfl
theorem s_X5_ofTable_10 {X : ev_E} {l : Launch} (hG : ev_Good X) (hl : l.stackTraces = false) : ev_Snd X l ev_ms x_X5_ofTable tx_X5_ofTable 10 (i_sw (0) [44, 57, 62, 67, 72] 77) := s_tableswitch dX5_ofTable_10 rfl rfl (by decide +kernel)
theorem s_X5_ofTable_44 {X : ev_E} {l : Launch} (hG : ev_Good X) (hl : l.stackTraces = false) : ev_Snd X l ev_ms x_X5_ofTable tx_X5_ofTable 44 (i_al 3 45) := s_aload_n dX5_ofTable_44 rfl
theorem s_X5_ofTable_45 {X : ev_E} {l : Launch} (hG : ev_Good X) (hl : l.stackTraces = false) : ev_Snd X l ev_ms x_X5_ofTable tx_X5_ofTable 45 (i_gf X 7 3 48) := s_getfieldN hG (ci := 7) (r := (RX2, TX2, 7)) rfl cw_7 (k := 3) (Nat.le_of_ble_eq_true rfl) w_133 rfl dX5_ofTable_45
theorem s_X5_ofTable_48 {X : ev_E} {l : Launch} (hG : ev_Good X) (hl : l.stackTraces = false) : ev_Snd X l ev_ms x_X5_ofTable tx_X5_ofTable 48 (i_ifeq 55 51) := s_ifeq dX5_ofTable_48 rfl
theorem s_X5_ofTable_51 {X : ev_E} {l : Launch} (hG : ev_Good X) (hl : l.stackTraces = false) : ev_Snd X l ev_ms x_X5_ofTable tx_X5_ofTable 51 (i_psh (.int (1)) 52) := s_iconst dX5_ofTable_51 rfl
theorem s_X5_ofTable_52 {X : ev_E} {l : Launch} (hG : ev_Good X) (hl : l.stackTraces = false) : ev_Snd X l ev_ms x_X5_ofTable tx_X5_ofTable 52 (i_goto 56) := s_goto dX5_ofTable_52 rfl
theorem s_X5_ofTable_55 {X : ev_E} {l : Launch} (hG : ev_Good X) (hl : l.stackTraces = false) : ev_Snd X l ev_ms x_X5_ofTable tx_X5_ofTable 55 (i_psh (.int (0)) 56) := s_iconst dX5_ofTable_55 rfl
theorem s_X5_ofTable_56 {X : ev_E} {l : Launch} (hG : ev_Good X) (hl : l.stackTraces = false) : ev_Snd X l ev_ms x_X5_ofTable tx_X5_ofTable 56 (i_ir (.int)) := s_ireturn rfl dX5_ofTable_56
theorem s_X5_ofTable_57 {X : ev_E} {l : Launch} (hG : ev_Good X) (hl : l.stackTraces = false) : ev_Snd X l ev_ms x_X5_ofTable tx_X5_ofTable 57 (i_al 3 58) := s_aload_n dX5_ofTable_57 rfl
theorem s_X5_ofTable_58 {X : ev_E} {l : Launch} (hG : ev_Good X) (hl : l.stackTraces = false) : ev_Snd X l ev_ms x_X5_ofTable tx_X5_ofTable 58 (i_gf X 7 4 61) := s_getfieldN hG (ci := 7) (r := (RX2, TX2, 7)) rfl cw_7 (k := 4) (Nat.le_of_ble_eq_true rfl) w_136 rfl dX5_ofTable_58
theorem s_X5_ofTable_61 {X : ev_E} {l : Launch} (hG : ev_Good X) (hl : l.stackTraces = false) : ev_Snd X l ev_ms x_X5_ofTable tx_X5_ofTable 61 (i_ir (.int)) := s_ireturn rfl dX5_ofTable_61
theorem s_X5_ofTable_62 {X : ev_E} {l : Launch} (hG : ev_Good X) (hl : l.stackTraces = false) : ev_Snd X l ev_ms x_X5_ofTable tx_X5_ofTable 62 (i_al 3 63) := s_aload_n dX5_ofTable_62 rfl
theorem s_X5_ofTable_63 {X : ev_E} {l : Launch} (hG : ev_Good X) (hl : l.stackTraces = false) : ev_Snd X l ev_ms x_X5_ofTable tx_X5_ofTable 63 (i_gf X 7 5 66) := s_getfieldN hG (ci := 7) (r := (RX2, TX2, 7)) rfl cw_7 (k := 5) (Nat.le_of_ble_eq_true rfl) w_138 rfl dX5_ofTable_63
theorem s_X5_ofTable_66 {X : ev_E} {l : Launch} (hG : ev_Good X) (hl : l.stackTraces = false) : ev_Snd X l ev_ms x_X5_ofTable tx_X5_ofTable 66 (i_ir (.int)) := s_ireturn rfl dX5_ofTable_66
theorem s_X5_ofTable_67 {X : ev_E} {l : Launch} (hG : ev_Good X) (hl : l.stackTraces = false) : ev_Snd X l ev_ms x_X5_ofTable tx_X5_ofTable 67 (i_al 3 68) := s_aload_n dX5_ofTable_67 rfl
theorem s_X5_ofTable_68 {X : ev_E} {l : Launch} (hG : ev_Good X) (hl : l.stackTraces = false) : ev_Snd X l ev_ms x_X5_ofTable tx_X5_ofTable 68 (i_gf X 7 6 71) := s_getfieldN hG (ci := 7) (r := (RX2, TX2, 7)) rfl cw_7 (k := 6) (Nat.le_of_ble_eq_true rfl) w_140 rfl dX5_ofTable_68
theorem s_X5_ofTable_71 {X : ev_E} {l : Launch} (hG : ev_Good X) (hl : l.stackTraces = false) : ev_Snd X l ev_ms x_X5_ofTable tx_X5_ofTable 71 (i_ir (.int)) := s_ireturn rfl dX5_ofTable_71
theorem s_X5_ofTable_72 {X : ev_E} {l : Launch} (hG : ev_Good X) (hl : l.stackTraces = false) : ev_Snd X l ev_ms x_X5_ofTable tx_X5_ofTable 72 (i_al 3 73) := s_aload_n dX5_ofTable_72 rfl
theorem s_X5_ofTable_73 {X : ev_E} {l : Launch} (hG : ev_Good X) (hl : l.stackTraces = false) : ev_Snd X l ev_ms x_X5_ofTable tx_X5_ofTable 73 (i_cV X 40 0 7 3 76) := s_invokevirtual hG (mi := 40) (n := 0) (ci := 7) (r := (RX2, TX2, 7)) rfl (cal_X2_sumOfValues (Nat.le_of_ble_eq_true rfl)) w_725 w_726 w_727 dX5_ofTable_73
theorem s_X5_ofTable_76 {X : ev_E} {l : Launch} (hG : ev_Good X) (hl : l.stackTraces = false) : ev_Snd X l ev_ms x_X5_ofTable tx_X5_ofTable 76 (i_ir (.int)) := s_ireturn rfl dX5_ofTable_76
theorem s_X5_ofTable_77 {X : ev_E} {l : Launch} (hG : ev_Good X) (hl : l.stackTraces = false) : ev_Snd X l ev_ms x_X5_ofTable tx_X5_ofTable 77 (i_thr 1) := s_throw hG hl (E := 1) (text := "what is not 0 to 4") (names := ["java/lang/RuntimeException", "java/lang/Exception"]) (by decide +kernel) (by decide +kernel) (by decide) rfl w_690 w_65 (ta_RX5_62_1 (i := 58)).1 (ta_RX5_62_1 (i := 58)).2 (str_RX5_155 hG) dX5_ofTable_77 dX5_ofTable_80 dX5_ofTable_81 dX5_ofTable_83 dX5_ofTable_86
theorem sa_X5_ofTable {X : ev_E} {l : Launch} (hG : ev_Good X) (hl : l.stackTraces = false) : ∀ q ∈ tb_X5_ofTable X, ev_Snd X l ev_ms x_X5_ofTable tx_X5_ofTable q.1 q.2 := by
  intro q hq
  unfold tb_X5_ofTable at hq
  simp only [List.mem_cons, List.not_mem_nil, or_false] at hq
  rcases hq with rfl | rfl | rfl | rfl | rfl | rfl | rfl | rfl | rfl | rfl | rfl | rfl | rfl | rfl | rfl | rfl | rfl | rfl | rfl | rfl | rfl | rfl | rfl | rfl | rfl | rfl | rfl
  · exact s_X5_ofTable_0 hG hl
  · exact s_X5_ofTable_1 hG hl
  · exact s_X5_ofTable_2 hG hl
  · exact s_X5_ofTable_5 hG hl
  · exact s_X5_ofTable_8 hG hl
  · exact s_X5_ofTable_9 hG hl
  · exact s_X5_ofTable_10 hG hl
  · exact s_X5_ofTable_44 hG hl
  · exact s_X5_ofTable_45 hG hl
  · exact s_X5_ofTable_48 hG hl
  · exact s_X5_ofTable_51 hG hl
  · exact s_X5_ofTable_52 hG hl
  · exact s_X5_ofTable_55 hG hl
  · exact s_X5_ofTable_56 hG hl
  · exact s_X5_ofTable_57 hG hl
  · exact s_X5_ofTable_58 hG hl
  · exact s_X5_ofTable_61 hG hl
  · exact s_X5_ofTable_62 hG hl
  · exact s_X5_ofTable_63 hG hl
  · exact s_X5_ofTable_66 hG hl
  · exact s_X5_ofTable_67 hG hl
  · exact s_X5_ofTable_68 hG hl
  · exact s_X5_ofTable_71 hG hl
  · exact s_X5_ofTable_72 hG hl
  · exact s_X5_ofTable_73 hG hl
  · exact s_X5_ofTable_76 hG hl
  · exact s_X5_ofTable_77 hG hl
def tx_X5_placeOf : ev_X := fun _ _ => some none
noncomputable def tb_X5_placeOf (X : ev_E) : List (Nat × (ev_S → ev_N)) := [(0, i_al 0 1), (1, i_il 1 2), (2, i_cV X 59 1 10 2 5), (5, i_as 3 6), (6, i_il 2 7), (7, i_cS 48 1 1 10), (10, i_al 3 11), (11, i_gf X 8 0 14), (14, i_il 2 15), (15, i_cV X 36 1 7 3 18), (18, i_ir (.int))]
theorem s_X5_placeOf_0 {X : ev_E} {l : Launch} (hG : ev_Good X) (hl : l.stackTraces = false) : ev_Snd X l ev_ms x_X5_placeOf tx_X5_placeOf 0 (i_al 0 1) := s_aload_n dX5_placeOf_0 rfl
theorem s_X5_placeOf_1 {X : ev_E} {l : Launch} (hG : ev_Good X) (hl : l.stackTraces = false) : ev_Snd X l ev_ms x_X5_placeOf tx_X5_placeOf 1 (i_il 1 2) := s_iload_n dX5_placeOf_1 rfl
theorem s_X5_placeOf_2 {X : ev_E} {l : Launch} (hG : ev_Good X) (hl : l.stackTraces = false) : ev_Snd X l ev_ms x_X5_placeOf tx_X5_placeOf 2 (i_cV X 59 1 10 2 5) := s_invokevirtual hG (mi := 59) (n := 1) (ci := 10) (r := (RX5, TX5, 7)) rfl (cal_X5_tableOf (Nat.le_of_ble_eq_true rfl)) w_705 w_707 w_11 dX5_placeOf_2
theorem s_X5_placeOf_5 {X : ev_E} {l : Launch} (hG : ev_Good X) (hl : l.stackTraces = false) : ev_Snd X l ev_ms x_X5_placeOf tx_X5_placeOf 5 (i_as 3 6) := s_astore_n dX5_placeOf_5 rfl (Nat.le_of_ble_eq_true rfl)
theorem s_X5_placeOf_6 {X : ev_E} {l : Launch} (hG : ev_Good X) (hl : l.stackTraces = false) : ev_Snd X l ev_ms x_X5_placeOf tx_X5_placeOf 6 (i_il 2 7) := s_iload_n dX5_placeOf_6 rfl
theorem s_X5_placeOf_7 {X : ev_E} {l : Launch} (hG : ev_Good X) (hl : l.stackTraces = false) : ev_Snd X l ev_ms x_X5_placeOf tx_X5_placeOf 7 (i_cS 48 1 1 10) := s_invokestatic hG (mi := 48) (n := 1) (cal_X5_demandKey (Nat.le_of_ble_eq_true rfl)) w_796 w_797 dX5_placeOf_7
theorem s_X5_placeOf_10 {X : ev_E} {l : Launch} (hG : ev_Good X) (hl : l.stackTraces = false) : ev_Snd X l ev_ms x_X5_placeOf tx_X5_placeOf 10 (i_al 3 11) := s_aload_n dX5_placeOf_10 rfl
theorem s_X5_placeOf_11 {X : ev_E} {l : Launch} (hG : ev_Good X) (hl : l.stackTraces = false) : ev_Snd X l ev_ms x_X5_placeOf tx_X5_placeOf 11 (i_gf X 8 0 14) := s_getfieldN hG (ci := 8) (r := (RX3, TX3, 2)) rfl cw_8 (k := 0) (Nat.le_of_ble_eq_true rfl) w_189 rfl dX5_placeOf_11
theorem s_X5_placeOf_14 {X : ev_E} {l : Launch} (hG : ev_Good X) (hl : l.stackTraces = false) : ev_Snd X l ev_ms x_X5_placeOf tx_X5_placeOf 14 (i_il 2 15) := s_iload_n dX5_placeOf_14 rfl
theorem s_X5_placeOf_15 {X : ev_E} {l : Launch} (hG : ev_Good X) (hl : l.stackTraces = false) : ev_Snd X l ev_ms x_X5_placeOf tx_X5_placeOf 15 (i_cV X 36 1 7 3 18) := s_invokevirtual hG (mi := 36) (n := 1) (ci := 7) (r := (RX2, TX2, 7)) rfl (cal_X2_find (Nat.le_of_ble_eq_true rfl)) w_800 w_801 w_802 dX5_placeOf_15
theorem s_X5_placeOf_18 {X : ev_E} {l : Launch} (hG : ev_Good X) (hl : l.stackTraces = false) : ev_Snd X l ev_ms x_X5_placeOf tx_X5_placeOf 18 (i_ir (.int)) := s_ireturn rfl dX5_placeOf_18
theorem sa_X5_placeOf {X : ev_E} {l : Launch} (hG : ev_Good X) (hl : l.stackTraces = false) : ∀ q ∈ tb_X5_placeOf X, ev_Snd X l ev_ms x_X5_placeOf tx_X5_placeOf q.1 q.2 := by
  intro q hq
  unfold tb_X5_placeOf at hq
  simp only [List.mem_cons, List.not_mem_nil, or_false] at hq
  rcases hq with rfl | rfl | rfl | rfl | rfl | rfl | rfl | rfl | rfl | rfl | rfl
  · exact s_X5_placeOf_0 hG hl
  · exact s_X5_placeOf_1 hG hl
  · exact s_X5_placeOf_2 hG hl
  · exact s_X5_placeOf_5 hG hl
  · exact s_X5_placeOf_6 hG hl
  · exact s_X5_placeOf_7 hG hl
  · exact s_X5_placeOf_10 hG hl
  · exact s_X5_placeOf_11 hG hl
  · exact s_X5_placeOf_14 hG hl
  · exact s_X5_placeOf_15 hG hl
  · exact s_X5_placeOf_18 hG hl
def tx_X5_size : ev_X := fun _ _ => some none
noncomputable def tb_X5_size (X : ev_E) : List (Nat × (ev_S → ev_N)) := [(0, i_al 0 1), (1, i_il 1 2), (2, i_cV X 59 1 10 2 5), (5, i_gf X 8 0 8), (8, i_gf X 7 2 11), (11, i_ir (.int))]
theorem s_X5_size_0 {X : ev_E} {l : Launch} (hG : ev_Good X) (hl : l.stackTraces = false) : ev_Snd X l ev_ms x_X5_size tx_X5_size 0 (i_al 0 1) := s_aload_n dX5_size_0 rfl
theorem s_X5_size_1 {X : ev_E} {l : Launch} (hG : ev_Good X) (hl : l.stackTraces = false) : ev_Snd X l ev_ms x_X5_size tx_X5_size 1 (i_il 1 2) := s_iload_n dX5_size_1 rfl
theorem s_X5_size_2 {X : ev_E} {l : Launch} (hG : ev_Good X) (hl : l.stackTraces = false) : ev_Snd X l ev_ms x_X5_size tx_X5_size 2 (i_cV X 59 1 10 2 5) := s_invokevirtual hG (mi := 59) (n := 1) (ci := 10) (r := (RX5, TX5, 7)) rfl (cal_X5_tableOf (Nat.le_of_ble_eq_true rfl)) w_705 w_707 w_11 dX5_size_2
theorem s_X5_size_5 {X : ev_E} {l : Launch} (hG : ev_Good X) (hl : l.stackTraces = false) : ev_Snd X l ev_ms x_X5_size tx_X5_size 5 (i_gf X 8 0 8) := s_getfieldN hG (ci := 8) (r := (RX3, TX3, 2)) rfl cw_8 (k := 0) (Nat.le_of_ble_eq_true rfl) w_189 rfl dX5_size_5
theorem s_X5_size_8 {X : ev_E} {l : Launch} (hG : ev_Good X) (hl : l.stackTraces = false) : ev_Snd X l ev_ms x_X5_size tx_X5_size 8 (i_gf X 7 2 11) := s_getfieldN hG (ci := 7) (r := (RX2, TX2, 7)) rfl cw_7 (k := 2) (Nat.le_of_ble_eq_true rfl) w_131 rfl dX5_size_8
theorem s_X5_size_11 {X : ev_E} {l : Launch} (hG : ev_Good X) (hl : l.stackTraces = false) : ev_Snd X l ev_ms x_X5_size tx_X5_size 11 (i_ir (.int)) := s_ireturn rfl dX5_size_11
theorem sa_X5_size {X : ev_E} {l : Launch} (hG : ev_Good X) (hl : l.stackTraces = false) : ∀ q ∈ tb_X5_size X, ev_Snd X l ev_ms x_X5_size tx_X5_size q.1 q.2 := by
  intro q hq
  unfold tb_X5_size at hq
  simp only [List.mem_cons, List.not_mem_nil, or_false] at hq
  rcases hq with rfl | rfl | rfl | rfl | rfl | rfl
  · exact s_X5_size_0 hG hl
  · exact s_X5_size_1 hG hl
  · exact s_X5_size_2 hG hl
  · exact s_X5_size_5 hG hl
  · exact s_X5_size_8 hG hl
  · exact s_X5_size_11 hG hl
def tx_X5_walk : ev_X := fun _ _ => some none
noncomputable def tb_X5_walk (X : ev_E) : List (Nat × (ev_S → ev_N)) := [(0, i_al 0 1), (1, i_il 1 2), (2, i_cV X 59 1 10 2 5), (5, i_as 3 6), (6, i_il 2 7), (7, i_cS 49 1 1 10), (10, i_al 3 11), (11, i_gf X 8 1 14), (14, i_il 2 15), (15, i_cV X 41 1 9 2 18), (18, i_al 3 19), (19, i_gf X 8 0 22), (22, i_gf X 7 2 25), (25, i_ir (.int))]
theorem s_X5_walk_0 {X : ev_E} {l : Launch} (hG : ev_Good X) (hl : l.stackTraces = false) : ev_Snd X l ev_ms x_X5_walk tx_X5_walk 0 (i_al 0 1) := s_aload_n dX5_walk_0 rfl
theorem s_X5_walk_1 {X : ev_E} {l : Launch} (hG : ev_Good X) (hl : l.stackTraces = false) : ev_Snd X l ev_ms x_X5_walk tx_X5_walk 1 (i_il 1 2) := s_iload_n dX5_walk_1 rfl
theorem s_X5_walk_2 {X : ev_E} {l : Launch} (hG : ev_Good X) (hl : l.stackTraces = false) : ev_Snd X l ev_ms x_X5_walk tx_X5_walk 2 (i_cV X 59 1 10 2 5) := s_invokevirtual hG (mi := 59) (n := 1) (ci := 10) (r := (RX5, TX5, 7)) rfl (cal_X5_tableOf (Nat.le_of_ble_eq_true rfl)) w_705 w_707 w_11 dX5_walk_2
theorem s_X5_walk_5 {X : ev_E} {l : Launch} (hG : ev_Good X) (hl : l.stackTraces = false) : ev_Snd X l ev_ms x_X5_walk tx_X5_walk 5 (i_as 3 6) := s_astore_n dX5_walk_5 rfl (Nat.le_of_ble_eq_true rfl)
theorem s_X5_walk_6 {X : ev_E} {l : Launch} (hG : ev_Good X) (hl : l.stackTraces = false) : ev_Snd X l ev_ms x_X5_walk tx_X5_walk 6 (i_il 2 7) := s_iload_n dX5_walk_6 rfl
theorem s_X5_walk_7 {X : ev_E} {l : Launch} (hG : ev_Good X) (hl : l.stackTraces = false) : ev_Snd X l ev_ms x_X5_walk tx_X5_walk 7 (i_cS 49 1 1 10) := s_invokestatic hG (mi := 49) (n := 1) (cal_X5_demandKindOfWalk (Nat.le_of_ble_eq_true rfl)) w_1017 w_1018 dX5_walk_7
theorem s_X5_walk_10 {X : ev_E} {l : Launch} (hG : ev_Good X) (hl : l.stackTraces = false) : ev_Snd X l ev_ms x_X5_walk tx_X5_walk 10 (i_al 3 11) := s_aload_n dX5_walk_10 rfl
theorem s_X5_walk_11 {X : ev_E} {l : Launch} (hG : ev_Good X) (hl : l.stackTraces = false) : ev_Snd X l ev_ms x_X5_walk tx_X5_walk 11 (i_gf X 8 1 14) := s_getfieldN hG (ci := 8) (r := (RX3, TX3, 2)) rfl cw_8 (k := 1) (Nat.le_of_ble_eq_true rfl) w_191 rfl dX5_walk_11
theorem s_X5_walk_14 {X : ev_E} {l : Launch} (hG : ev_Good X) (hl : l.stackTraces = false) : ev_Snd X l ev_ms x_X5_walk tx_X5_walk 14 (i_il 2 15) := s_iload_n dX5_walk_14 rfl
theorem s_X5_walk_15 {X : ev_E} {l : Launch} (hG : ev_Good X) (hl : l.stackTraces = false) : ev_Snd X l ev_ms x_X5_walk tx_X5_walk 15 (i_cV X 41 1 9 2 18) := s_invokevirtual hG (mi := 41) (n := 1) (ci := 9) (r := (RX4, TX4, 6)) rfl (cal_X4_begin (Nat.le_of_ble_eq_true rfl)) w_1032 w_1033 w_1034 dX5_walk_15
theorem s_X5_walk_18 {X : ev_E} {l : Launch} (hG : ev_Good X) (hl : l.stackTraces = false) : ev_Snd X l ev_ms x_X5_walk tx_X5_walk 18 (i_al 3 19) := s_aload_n dX5_walk_18 rfl
theorem s_X5_walk_19 {X : ev_E} {l : Launch} (hG : ev_Good X) (hl : l.stackTraces = false) : ev_Snd X l ev_ms x_X5_walk tx_X5_walk 19 (i_gf X 8 0 22) := s_getfieldN hG (ci := 8) (r := (RX3, TX3, 2)) rfl cw_8 (k := 0) (Nat.le_of_ble_eq_true rfl) w_189 rfl dX5_walk_19
theorem s_X5_walk_22 {X : ev_E} {l : Launch} (hG : ev_Good X) (hl : l.stackTraces = false) : ev_Snd X l ev_ms x_X5_walk tx_X5_walk 22 (i_gf X 7 2 25) := s_getfieldN hG (ci := 7) (r := (RX2, TX2, 7)) rfl cw_7 (k := 2) (Nat.le_of_ble_eq_true rfl) w_131 rfl dX5_walk_22
theorem s_X5_walk_25 {X : ev_E} {l : Launch} (hG : ev_Good X) (hl : l.stackTraces = false) : ev_Snd X l ev_ms x_X5_walk tx_X5_walk 25 (i_ir (.int)) := s_ireturn rfl dX5_walk_25
theorem sa_X5_walk {X : ev_E} {l : Launch} (hG : ev_Good X) (hl : l.stackTraces = false) : ∀ q ∈ tb_X5_walk X, ev_Snd X l ev_ms x_X5_walk tx_X5_walk q.1 q.2 := by
  intro q hq
  unfold tb_X5_walk at hq
  simp only [List.mem_cons, List.not_mem_nil, or_false] at hq
  rcases hq with rfl | rfl | rfl | rfl | rfl | rfl | rfl | rfl | rfl | rfl | rfl | rfl | rfl | rfl
  · exact s_X5_walk_0 hG hl
  · exact s_X5_walk_1 hG hl
  · exact s_X5_walk_2 hG hl
  · exact s_X5_walk_5 hG hl
  · exact s_X5_walk_6 hG hl
  · exact s_X5_walk_7 hG hl
  · exact s_X5_walk_10 hG hl
  · exact s_X5_walk_11 hG hl
  · exact s_X5_walk_14 hG hl
  · exact s_X5_walk_15 hG hl
  · exact s_X5_walk_18 hG hl
  · exact s_X5_walk_19 hG hl
  · exact s_X5_walk_22 hG hl
  · exact s_X5_walk_25 hG hl
def tx_X5_withDepth : ev_X := fun _ _ => some none
noncomputable def tb_X5_withDepth (X : ev_E) : List (Nat × (ev_S → ev_N)) := [(0, i_al 0 1), (1, i_gf X 10 1 4), (4, i_il 1 5), (5, i_cV X 27 1 5 4 8), (8, i_ir (.int))]
theorem s_X5_withDepth_0 {X : ev_E} {l : Launch} (hG : ev_Good X) (hl : l.stackTraces = false) : ev_Snd X l ev_ms x_X5_withDepth tx_X5_withDepth 0 (i_al 0 1) := s_aload_n dX5_withDepth_0 rfl
theorem s_X5_withDepth_1 {X : ev_E} {l : Launch} (hG : ev_Good X) (hl : l.stackTraces = false) : ev_Snd X l ev_ms x_X5_withDepth tx_X5_withDepth 1 (i_gf X 10 1 4) := s_getfield hG (ci := 10) (r := (RX5, TX5, 7)) rfl cw_10 (k := 1) (Nat.le_of_ble_eq_true rfl) w_218 rfl (Or.inl rfl) dX5_withDepth_1
theorem s_X5_withDepth_4 {X : ev_E} {l : Launch} (hG : ev_Good X) (hl : l.stackTraces = false) : ev_Snd X l ev_ms x_X5_withDepth tx_X5_withDepth 4 (i_il 1 5) := s_iload_n dX5_withDepth_4 rfl
theorem s_X5_withDepth_5 {X : ev_E} {l : Launch} (hG : ev_Good X) (hl : l.stackTraces = false) : ev_Snd X l ev_ms x_X5_withDepth tx_X5_withDepth 5 (i_cV X 27 1 5 4 8) := s_invokevirtual hG (mi := 27) (n := 1) (ci := 5) (r := (RX0, TX0, 6)) rfl (cal_X0_countOfDepth (Nat.le_of_ble_eq_true rfl)) w_614 w_615 w_616 dX5_withDepth_5
theorem s_X5_withDepth_8 {X : ev_E} {l : Launch} (hG : ev_Good X) (hl : l.stackTraces = false) : ev_Snd X l ev_ms x_X5_withDepth tx_X5_withDepth 8 (i_ir (.int)) := s_ireturn rfl dX5_withDepth_8
theorem sa_X5_withDepth {X : ev_E} {l : Launch} (hG : ev_Good X) (hl : l.stackTraces = false) : ∀ q ∈ tb_X5_withDepth X, ev_Snd X l ev_ms x_X5_withDepth tx_X5_withDepth q.1 q.2 := by
  intro q hq
  unfold tb_X5_withDepth at hq
  simp only [List.mem_cons, List.not_mem_nil, or_false] at hq
  rcases hq with rfl | rfl | rfl | rfl | rfl
  · exact s_X5_withDepth_0 hG hl
  · exact s_X5_withDepth_1 hG hl
  · exact s_X5_withDepth_4 hG hl
  · exact s_X5_withDepth_5 hG hl
  · exact s_X5_withDepth_8 hG hl
def tx_X1_startAnew : ev_X := fun _ _ => some none
noncomputable def tb_X1_startAnew (X : ev_E) : List (Nat × (ev_S → ev_N)) := [(0, i_al 0 1), (1, i_gf X 6 0 4), (4, i_psh (.int (1)) 5), (5, i_al 0 6), (6, i_gf X 6 0 9), (9, i_gf X 7 4 12), (12, i_cV X 95 2 7 3 15), (15, i_pop 16), (16, i_al 0 17), (17, i_psh (.int (0)) 18), (18, i_pf 6 1 (.int) 21), (21, i_al 0 22), (22, i_psh (.int (0)) 23), (23, i_pf 6 2 (.int) 26), (26, i_vr)]
theorem s_X1_startAnew_0 {X : ev_E} {l : Launch} (hG : ev_Good X) (hl : l.stackTraces = false) : ev_Snd X l ev_ms x_X1_startAnew tx_X1_startAnew 0 (i_al 0 1) := s_aload_n dX1_startAnew_0 rfl
theorem s_X1_startAnew_1 {X : ev_E} {l : Launch} (hG : ev_Good X) (hl : l.stackTraces = false) : ev_Snd X l ev_ms x_X1_startAnew tx_X1_startAnew 1 (i_gf X 6 0 4) := s_getfield hG (ci := 6) (r := (RX1, TX1, 3)) rfl cw_6 (k := 0) (Nat.le_of_ble_eq_true rfl) w_204 rfl (Or.inl rfl) dX1_startAnew_1
theorem s_X1_startAnew_4 {X : ev_E} {l : Launch} (hG : ev_Good X) (hl : l.stackTraces = false) : ev_Snd X l ev_ms x_X1_startAnew tx_X1_startAnew 4 (i_psh (.int (1)) 5) := s_iconst dX1_startAnew_4 rfl
theorem s_X1_startAnew_5 {X : ev_E} {l : Launch} (hG : ev_Good X) (hl : l.stackTraces = false) : ev_Snd X l ev_ms x_X1_startAnew tx_X1_startAnew 5 (i_al 0 6) := s_aload_n dX1_startAnew_5 rfl
theorem s_X1_startAnew_6 {X : ev_E} {l : Launch} (hG : ev_Good X) (hl : l.stackTraces = false) : ev_Snd X l ev_ms x_X1_startAnew tx_X1_startAnew 6 (i_gf X 6 0 9) := s_getfield hG (ci := 6) (r := (RX1, TX1, 3)) rfl cw_6 (k := 0) (Nat.le_of_ble_eq_true rfl) w_204 rfl (Or.inl rfl) dX1_startAnew_6
theorem s_X1_startAnew_9 {X : ev_E} {l : Launch} (hG : ev_Good X) (hl : l.stackTraces = false) : ev_Snd X l ev_ms x_X1_startAnew tx_X1_startAnew 9 (i_gf X 7 4 12) := s_getfieldN hG (ci := 7) (r := (RX2, TX2, 7)) rfl cw_7 (k := 4) (Nat.le_of_ble_eq_true rfl) w_135 rfl dX1_startAnew_9
theorem s_X1_startAnew_12 {X : ev_E} {l : Launch} (hG : ev_Good X) (hl : l.stackTraces = false) : ev_Snd X l ev_ms x_X1_startAnew tx_X1_startAnew 12 (i_cV X 95 2 7 3 15) := s_invokevirtual hG (mi := 95) (n := 2) (ci := 7) (r := (RX2, TX2, 7)) rfl (cal_X2_renew (Nat.le_of_ble_eq_true rfl)) w_255 w_244 w_245 dX1_startAnew_12
theorem s_X1_startAnew_15 {X : ev_E} {l : Launch} (hG : ev_Good X) (hl : l.stackTraces = false) : ev_Snd X l ev_ms x_X1_startAnew tx_X1_startAnew 15 (i_pop 16) := s_pop dX1_startAnew_15
theorem s_X1_startAnew_16 {X : ev_E} {l : Launch} (hG : ev_Good X) (hl : l.stackTraces = false) : ev_Snd X l ev_ms x_X1_startAnew tx_X1_startAnew 16 (i_al 0 17) := s_aload_n dX1_startAnew_16 rfl
theorem s_X1_startAnew_17 {X : ev_E} {l : Launch} (hG : ev_Good X) (hl : l.stackTraces = false) : ev_Snd X l ev_ms x_X1_startAnew tx_X1_startAnew 17 (i_psh (.int (0)) 18) := s_iconst dX1_startAnew_17 rfl
theorem s_X1_startAnew_18 {X : ev_E} {l : Launch} (hG : ev_Good X) (hl : l.stackTraces = false) : ev_Snd X l ev_ms x_X1_startAnew tx_X1_startAnew 18 (i_pf 6 1 (.int) 21) := s_putfield hG (ci := 6) (r := (RX1, TX1, 3)) rfl cw_6 ap_6 (k := 1) (Nat.le_of_ble_eq_true rfl) rfl (by decide +kernel) w_206 rfl (Or.inl rfl) dX1_startAnew_18
theorem s_X1_startAnew_21 {X : ev_E} {l : Launch} (hG : ev_Good X) (hl : l.stackTraces = false) : ev_Snd X l ev_ms x_X1_startAnew tx_X1_startAnew 21 (i_al 0 22) := s_aload_n dX1_startAnew_21 rfl
theorem s_X1_startAnew_22 {X : ev_E} {l : Launch} (hG : ev_Good X) (hl : l.stackTraces = false) : ev_Snd X l ev_ms x_X1_startAnew tx_X1_startAnew 22 (i_psh (.int (0)) 23) := s_iconst dX1_startAnew_22 rfl
theorem s_X1_startAnew_23 {X : ev_E} {l : Launch} (hG : ev_Good X) (hl : l.stackTraces = false) : ev_Snd X l ev_ms x_X1_startAnew tx_X1_startAnew 23 (i_pf 6 2 (.int) 26) := s_putfield hG (ci := 6) (r := (RX1, TX1, 3)) rfl cw_6 ap_6 (k := 2) (Nat.le_of_ble_eq_true rfl) rfl (by decide +kernel) w_208 rfl (Or.inl rfl) dX1_startAnew_23
theorem s_X1_startAnew_26 {X : ev_E} {l : Launch} (hG : ev_Good X) (hl : l.stackTraces = false) : ev_Snd X l ev_ms x_X1_startAnew tx_X1_startAnew 26 (i_vr) := s_return rfl dX1_startAnew_26
theorem sa_X1_startAnew {X : ev_E} {l : Launch} (hG : ev_Good X) (hl : l.stackTraces = false) : ∀ q ∈ tb_X1_startAnew X, ev_Snd X l ev_ms x_X1_startAnew tx_X1_startAnew q.1 q.2 := by
  intro q hq
  unfold tb_X1_startAnew at hq
  simp only [List.mem_cons, List.not_mem_nil, or_false] at hq
  rcases hq with rfl | rfl | rfl | rfl | rfl | rfl | rfl | rfl | rfl | rfl | rfl | rfl | rfl | rfl | rfl
  · exact s_X1_startAnew_0 hG hl
  · exact s_X1_startAnew_1 hG hl
  · exact s_X1_startAnew_4 hG hl
  · exact s_X1_startAnew_5 hG hl
  · exact s_X1_startAnew_6 hG hl
  · exact s_X1_startAnew_9 hG hl
  · exact s_X1_startAnew_12 hG hl
  · exact s_X1_startAnew_15 hG hl
  · exact s_X1_startAnew_16 hG hl
  · exact s_X1_startAnew_17 hG hl
  · exact s_X1_startAnew_18 hG hl
  · exact s_X1_startAnew_21 hG hl
  · exact s_X1_startAnew_22 hG hl
  · exact s_X1_startAnew_23 hG hl
  · exact s_X1_startAnew_26 hG hl
def tx_X2_become : ev_X := fun _ _ => some none
noncomputable def tb_X2_become (X : ev_E) : List (Nat × (ev_S → ev_N)) := [(0, i_al 1 1), (1, i_gf X 7 2 4), (4, i_is 2 5), (5, i_al 0 6), (6, i_psh (.int (0)) 7), (7, i_psh (.int (-1)) 8), (8, i_cV X 95 2 7 3 11), (11, i_pop 12), (12, i_psh (.int (0)) 13), (13, i_is 3 14), (14, i_il 3 15), (15, i_il 2 16), (16, i_icge 49 19), (19, i_al 0 20), (20, i_gf X 7 0 23), (23, i_il 3 24), (24, i_al 1 25), (25, i_gf X 7 0 28), (28, i_il 3 29), (29, i_ald X ev_tI 30), (30, i_ast ev_tI (fun v => v) 31), (31, i_al 0 32), (32, i_gf X 7 1 35), (35, i_il 3 36), (36, i_al 1 37), (37, i_gf X 7 1 40), (40, i_il 3 41), (41, i_ald X ev_tI 42), (42, i_ast ev_tI (fun v => v) 43), (43, i_inc 3 (1) 46), (46, i_goto 14), (49, i_al 0 50), (50, i_il 2 51), (51, i_pf 7 2 (.int) 54), (54, i_vr)]
theorem s_X2_become_0 {X : ev_E} {l : Launch} (hG : ev_Good X) (hl : l.stackTraces = false) : ev_Snd X l ev_ms x_X2_become tx_X2_become 0 (i_al 1 1) := s_aload_n dX2_become_0 rfl
theorem s_X2_become_1 {X : ev_E} {l : Launch} (hG : ev_Good X) (hl : l.stackTraces = false) : ev_Snd X l ev_ms x_X2_become tx_X2_become 1 (i_gf X 7 2 4) := s_getfield hG (ci := 7) (r := (RX2, TX2, 7)) rfl cw_7 (k := 2) (Nat.le_of_ble_eq_true rfl) w_129 rfl (Or.inl rfl) dX2_become_1
theorem s_X2_become_4 {X : ev_E} {l : Launch} (hG : ev_Good X) (hl : l.stackTraces = false) : ev_Snd X l ev_ms x_X2_become tx_X2_become 4 (i_is 2 5) := s_istore_n dX2_become_4 rfl (Nat.le_of_ble_eq_true rfl)
theorem s_X2_become_5 {X : ev_E} {l : Launch} (hG : ev_Good X) (hl : l.stackTraces = false) : ev_Snd X l ev_ms x_X2_become tx_X2_become 5 (i_al 0 6) := s_aload_n dX2_become_5 rfl
theorem s_X2_become_6 {X : ev_E} {l : Launch} (hG : ev_Good X) (hl : l.stackTraces = false) : ev_Snd X l ev_ms x_X2_become tx_X2_become 6 (i_psh (.int (0)) 7) := s_iconst dX2_become_6 rfl
theorem s_X2_become_7 {X : ev_E} {l : Launch} (hG : ev_Good X) (hl : l.stackTraces = false) : ev_Snd X l ev_ms x_X2_become tx_X2_become 7 (i_psh (.int (-1)) 8) := s_iconst dX2_become_7 rfl
theorem s_X2_become_8 {X : ev_E} {l : Launch} (hG : ev_Good X) (hl : l.stackTraces = false) : ev_Snd X l ev_ms x_X2_become tx_X2_become 8 (i_cV X 95 2 7 3 11) := s_invokevirtual hG (mi := 95) (n := 2) (ci := 7) (r := (RX2, TX2, 7)) rfl (cal_X2_renew (Nat.le_of_ble_eq_true rfl)) w_959 w_244 w_245 dX2_become_8
theorem s_X2_become_11 {X : ev_E} {l : Launch} (hG : ev_Good X) (hl : l.stackTraces = false) : ev_Snd X l ev_ms x_X2_become tx_X2_become 11 (i_pop 12) := s_pop dX2_become_11
theorem s_X2_become_12 {X : ev_E} {l : Launch} (hG : ev_Good X) (hl : l.stackTraces = false) : ev_Snd X l ev_ms x_X2_become tx_X2_become 12 (i_psh (.int (0)) 13) := s_iconst dX2_become_12 rfl
theorem s_X2_become_13 {X : ev_E} {l : Launch} (hG : ev_Good X) (hl : l.stackTraces = false) : ev_Snd X l ev_ms x_X2_become tx_X2_become 13 (i_is 3 14) := s_istore_n dX2_become_13 rfl (Nat.le_of_ble_eq_true rfl)
theorem s_X2_become_14 {X : ev_E} {l : Launch} (hG : ev_Good X) (hl : l.stackTraces = false) : ev_Snd X l ev_ms x_X2_become tx_X2_become 14 (i_il 3 15) := s_iload_n dX2_become_14 rfl
theorem s_X2_become_15 {X : ev_E} {l : Launch} (hG : ev_Good X) (hl : l.stackTraces = false) : ev_Snd X l ev_ms x_X2_become tx_X2_become 15 (i_il 2 16) := s_iload_n dX2_become_15 rfl
theorem s_X2_become_16 {X : ev_E} {l : Launch} (hG : ev_Good X) (hl : l.stackTraces = false) : ev_Snd X l ev_ms x_X2_become tx_X2_become 16 (i_icge 49 19) := s_icge dX2_become_16 rfl
theorem s_X2_become_19 {X : ev_E} {l : Launch} (hG : ev_Good X) (hl : l.stackTraces = false) : ev_Snd X l ev_ms x_X2_become tx_X2_become 19 (i_al 0 20) := s_aload_n dX2_become_19 rfl
theorem s_X2_become_20 {X : ev_E} {l : Launch} (hG : ev_Good X) (hl : l.stackTraces = false) : ev_Snd X l ev_ms x_X2_become tx_X2_become 20 (i_gf X 7 0 23) := s_getfield hG (ci := 7) (r := (RX2, TX2, 7)) rfl cw_7 (k := 0) (Nat.le_of_ble_eq_true rfl) w_127 rfl (Or.inl rfl) dX2_become_20
theorem s_X2_become_23 {X : ev_E} {l : Launch} (hG : ev_Good X) (hl : l.stackTraces = false) : ev_Snd X l ev_ms x_X2_become tx_X2_become 23 (i_il 3 24) := s_iload_n dX2_become_23 rfl
theorem s_X2_become_24 {X : ev_E} {l : Launch} (hG : ev_Good X) (hl : l.stackTraces = false) : ev_Snd X l ev_ms x_X2_become tx_X2_become 24 (i_al 1 25) := s_aload_n dX2_become_24 rfl
theorem s_X2_become_25 {X : ev_E} {l : Launch} (hG : ev_Good X) (hl : l.stackTraces = false) : ev_Snd X l ev_ms x_X2_become tx_X2_become 25 (i_gf X 7 0 28) := s_getfield hG (ci := 7) (r := (RX2, TX2, 7)) rfl cw_7 (k := 0) (Nat.le_of_ble_eq_true rfl) w_127 rfl (Or.inl rfl) dX2_become_25
theorem s_X2_become_28 {X : ev_E} {l : Launch} (hG : ev_Good X) (hl : l.stackTraces = false) : ev_Snd X l ev_ms x_X2_become tx_X2_become 28 (i_il 3 29) := s_iload_n dX2_become_28 rfl
theorem s_X2_become_29 {X : ev_E} {l : Launch} (hG : ev_Good X) (hl : l.stackTraces = false) : ev_Snd X l ev_ms x_X2_become tx_X2_become 29 (i_ald X ev_tI 30) := s_iaload hG dX2_become_29
theorem s_X2_become_30 {X : ev_E} {l : Launch} (hG : ev_Good X) (hl : l.stackTraces = false) : ev_Snd X l ev_ms x_X2_become tx_X2_become 30 (i_ast ev_tI (fun v => v) 31) := s_iastore hG dX2_become_30
theorem s_X2_become_31 {X : ev_E} {l : Launch} (hG : ev_Good X) (hl : l.stackTraces = false) : ev_Snd X l ev_ms x_X2_become tx_X2_become 31 (i_al 0 32) := s_aload_n dX2_become_31 rfl
theorem s_X2_become_32 {X : ev_E} {l : Launch} (hG : ev_Good X) (hl : l.stackTraces = false) : ev_Snd X l ev_ms x_X2_become tx_X2_become 32 (i_gf X 7 1 35) := s_getfield hG (ci := 7) (r := (RX2, TX2, 7)) rfl cw_7 (k := 1) (Nat.le_of_ble_eq_true rfl) w_128 rfl (Or.inl rfl) dX2_become_32
theorem s_X2_become_35 {X : ev_E} {l : Launch} (hG : ev_Good X) (hl : l.stackTraces = false) : ev_Snd X l ev_ms x_X2_become tx_X2_become 35 (i_il 3 36) := s_iload_n dX2_become_35 rfl
theorem s_X2_become_36 {X : ev_E} {l : Launch} (hG : ev_Good X) (hl : l.stackTraces = false) : ev_Snd X l ev_ms x_X2_become tx_X2_become 36 (i_al 1 37) := s_aload_n dX2_become_36 rfl
theorem s_X2_become_37 {X : ev_E} {l : Launch} (hG : ev_Good X) (hl : l.stackTraces = false) : ev_Snd X l ev_ms x_X2_become tx_X2_become 37 (i_gf X 7 1 40) := s_getfield hG (ci := 7) (r := (RX2, TX2, 7)) rfl cw_7 (k := 1) (Nat.le_of_ble_eq_true rfl) w_128 rfl (Or.inl rfl) dX2_become_37
theorem s_X2_become_40 {X : ev_E} {l : Launch} (hG : ev_Good X) (hl : l.stackTraces = false) : ev_Snd X l ev_ms x_X2_become tx_X2_become 40 (i_il 3 41) := s_iload_n dX2_become_40 rfl
theorem s_X2_become_41 {X : ev_E} {l : Launch} (hG : ev_Good X) (hl : l.stackTraces = false) : ev_Snd X l ev_ms x_X2_become tx_X2_become 41 (i_ald X ev_tI 42) := s_iaload hG dX2_become_41
theorem s_X2_become_42 {X : ev_E} {l : Launch} (hG : ev_Good X) (hl : l.stackTraces = false) : ev_Snd X l ev_ms x_X2_become tx_X2_become 42 (i_ast ev_tI (fun v => v) 43) := s_iastore hG dX2_become_42
theorem s_X2_become_43 {X : ev_E} {l : Launch} (hG : ev_Good X) (hl : l.stackTraces = false) : ev_Snd X l ev_ms x_X2_become tx_X2_become 43 (i_inc 3 (1) 46) := s_iinc dX2_become_43 rfl (Nat.le_of_ble_eq_true rfl)
theorem s_X2_become_46 {X : ev_E} {l : Launch} (hG : ev_Good X) (hl : l.stackTraces = false) : ev_Snd X l ev_ms x_X2_become tx_X2_become 46 (i_goto 14) := s_goto dX2_become_46 rfl
theorem s_X2_become_49 {X : ev_E} {l : Launch} (hG : ev_Good X) (hl : l.stackTraces = false) : ev_Snd X l ev_ms x_X2_become tx_X2_become 49 (i_al 0 50) := s_aload_n dX2_become_49 rfl
theorem s_X2_become_50 {X : ev_E} {l : Launch} (hG : ev_Good X) (hl : l.stackTraces = false) : ev_Snd X l ev_ms x_X2_become tx_X2_become 50 (i_il 2 51) := s_iload_n dX2_become_50 rfl
theorem s_X2_become_51 {X : ev_E} {l : Launch} (hG : ev_Good X) (hl : l.stackTraces = false) : ev_Snd X l ev_ms x_X2_become tx_X2_become 51 (i_pf 7 2 (.int) 54) := s_putfield hG (ci := 7) (r := (RX2, TX2, 7)) rfl cw_7 ap_7 (k := 2) (Nat.le_of_ble_eq_true rfl) rfl (by decide +kernel) w_129 rfl (Or.inl rfl) dX2_become_51
theorem s_X2_become_54 {X : ev_E} {l : Launch} (hG : ev_Good X) (hl : l.stackTraces = false) : ev_Snd X l ev_ms x_X2_become tx_X2_become 54 (i_vr) := s_return rfl dX2_become_54
theorem sa_X2_become {X : ev_E} {l : Launch} (hG : ev_Good X) (hl : l.stackTraces = false) : ∀ q ∈ tb_X2_become X, ev_Snd X l ev_ms x_X2_become tx_X2_become q.1 q.2 := by
  intro q hq
  unfold tb_X2_become at hq
  simp only [List.mem_cons, List.not_mem_nil, or_false] at hq
  rcases hq with rfl | rfl | rfl | rfl | rfl | rfl | rfl | rfl | rfl | rfl | rfl | rfl | rfl | rfl | rfl | rfl | rfl | rfl | rfl | rfl | rfl | rfl | rfl | rfl | rfl | rfl | rfl | rfl | rfl | rfl | rfl | rfl | rfl | rfl | rfl
  · exact s_X2_become_0 hG hl
  · exact s_X2_become_1 hG hl
  · exact s_X2_become_4 hG hl
  · exact s_X2_become_5 hG hl
  · exact s_X2_become_6 hG hl
  · exact s_X2_become_7 hG hl
  · exact s_X2_become_8 hG hl
  · exact s_X2_become_11 hG hl
  · exact s_X2_become_12 hG hl
  · exact s_X2_become_13 hG hl
  · exact s_X2_become_14 hG hl
  · exact s_X2_become_15 hG hl
  · exact s_X2_become_16 hG hl
  · exact s_X2_become_19 hG hl
  · exact s_X2_become_20 hG hl
  · exact s_X2_become_23 hG hl
  · exact s_X2_become_24 hG hl
  · exact s_X2_become_25 hG hl
  · exact s_X2_become_28 hG hl
  · exact s_X2_become_29 hG hl
  · exact s_X2_become_30 hG hl
  · exact s_X2_become_31 hG hl
  · exact s_X2_become_32 hG hl
  · exact s_X2_become_35 hG hl
  · exact s_X2_become_36 hG hl
  · exact s_X2_become_37 hG hl
  · exact s_X2_become_40 hG hl
  · exact s_X2_become_41 hG hl
  · exact s_X2_become_42 hG hl
  · exact s_X2_become_43 hG hl
  · exact s_X2_become_46 hG hl
  · exact s_X2_become_49 hG hl
  · exact s_X2_become_50 hG hl
  · exact s_X2_become_51 hG hl
  · exact s_X2_become_54 hG hl
def tx_X2_dropKey : ev_X := fun _ _ => some none
noncomputable def tb_X2_dropKey (X : ev_E) : List (Nat × (ev_S → ev_N)) := [(0, i_al 0 1), (1, i_il 1 2), (2, i_cV X 36 1 7 3 5), (5, i_is 2 6), (6, i_il 2 7), (7, i_psh (.int (-1)) 8), (8, i_icne 13 11), (11, i_psh (.int (-1)) 12), (12, i_ir (.int)), (13, i_al 0 14), (14, i_gf X 7 1 17), (17, i_il 2 18), (18, i_ald X ev_tI 19), (19, i_is 3 20), (20, i_al 0 21), (21, i_il 2 22), (22, i_cV X 93 1 7 3 25), (25, i_il 3 26), (26, i_ir (.int))]
theorem s_X2_dropKey_0 {X : ev_E} {l : Launch} (hG : ev_Good X) (hl : l.stackTraces = false) : ev_Snd X l ev_ms x_X2_dropKey tx_X2_dropKey 0 (i_al 0 1) := s_aload_n dX2_dropKey_0 rfl
theorem s_X2_dropKey_1 {X : ev_E} {l : Launch} (hG : ev_Good X) (hl : l.stackTraces = false) : ev_Snd X l ev_ms x_X2_dropKey tx_X2_dropKey 1 (i_il 1 2) := s_iload_n dX2_dropKey_1 rfl
theorem s_X2_dropKey_2 {X : ev_E} {l : Launch} (hG : ev_Good X) (hl : l.stackTraces = false) : ev_Snd X l ev_ms x_X2_dropKey tx_X2_dropKey 2 (i_cV X 36 1 7 3 5) := s_invokevirtual hG (mi := 36) (n := 1) (ci := 7) (r := (RX2, TX2, 7)) rfl (cal_X2_find (Nat.le_of_ble_eq_true rfl)) w_847 w_801 w_802 dX2_dropKey_2
theorem s_X2_dropKey_5 {X : ev_E} {l : Launch} (hG : ev_Good X) (hl : l.stackTraces = false) : ev_Snd X l ev_ms x_X2_dropKey tx_X2_dropKey 5 (i_is 2 6) := s_istore_n dX2_dropKey_5 rfl (Nat.le_of_ble_eq_true rfl)
theorem s_X2_dropKey_6 {X : ev_E} {l : Launch} (hG : ev_Good X) (hl : l.stackTraces = false) : ev_Snd X l ev_ms x_X2_dropKey tx_X2_dropKey 6 (i_il 2 7) := s_iload_n dX2_dropKey_6 rfl
theorem s_X2_dropKey_7 {X : ev_E} {l : Launch} (hG : ev_Good X) (hl : l.stackTraces = false) : ev_Snd X l ev_ms x_X2_dropKey tx_X2_dropKey 7 (i_psh (.int (-1)) 8) := s_iconst dX2_dropKey_7 rfl
theorem s_X2_dropKey_8 {X : ev_E} {l : Launch} (hG : ev_Good X) (hl : l.stackTraces = false) : ev_Snd X l ev_ms x_X2_dropKey tx_X2_dropKey 8 (i_icne 13 11) := s_icne dX2_dropKey_8 rfl
theorem s_X2_dropKey_11 {X : ev_E} {l : Launch} (hG : ev_Good X) (hl : l.stackTraces = false) : ev_Snd X l ev_ms x_X2_dropKey tx_X2_dropKey 11 (i_psh (.int (-1)) 12) := s_iconst dX2_dropKey_11 rfl
theorem s_X2_dropKey_12 {X : ev_E} {l : Launch} (hG : ev_Good X) (hl : l.stackTraces = false) : ev_Snd X l ev_ms x_X2_dropKey tx_X2_dropKey 12 (i_ir (.int)) := s_ireturn rfl dX2_dropKey_12
theorem s_X2_dropKey_13 {X : ev_E} {l : Launch} (hG : ev_Good X) (hl : l.stackTraces = false) : ev_Snd X l ev_ms x_X2_dropKey tx_X2_dropKey 13 (i_al 0 14) := s_aload_n dX2_dropKey_13 rfl
theorem s_X2_dropKey_14 {X : ev_E} {l : Launch} (hG : ev_Good X) (hl : l.stackTraces = false) : ev_Snd X l ev_ms x_X2_dropKey tx_X2_dropKey 14 (i_gf X 7 1 17) := s_getfield hG (ci := 7) (r := (RX2, TX2, 7)) rfl cw_7 (k := 1) (Nat.le_of_ble_eq_true rfl) w_128 rfl (Or.inl rfl) dX2_dropKey_14
theorem s_X2_dropKey_17 {X : ev_E} {l : Launch} (hG : ev_Good X) (hl : l.stackTraces = false) : ev_Snd X l ev_ms x_X2_dropKey tx_X2_dropKey 17 (i_il 2 18) := s_iload_n dX2_dropKey_17 rfl
theorem s_X2_dropKey_18 {X : ev_E} {l : Launch} (hG : ev_Good X) (hl : l.stackTraces = false) : ev_Snd X l ev_ms x_X2_dropKey tx_X2_dropKey 18 (i_ald X ev_tI 19) := s_iaload hG dX2_dropKey_18
theorem s_X2_dropKey_19 {X : ev_E} {l : Launch} (hG : ev_Good X) (hl : l.stackTraces = false) : ev_Snd X l ev_ms x_X2_dropKey tx_X2_dropKey 19 (i_is 3 20) := s_istore_n dX2_dropKey_19 rfl (Nat.le_of_ble_eq_true rfl)
theorem s_X2_dropKey_20 {X : ev_E} {l : Launch} (hG : ev_Good X) (hl : l.stackTraces = false) : ev_Snd X l ev_ms x_X2_dropKey tx_X2_dropKey 20 (i_al 0 21) := s_aload_n dX2_dropKey_20 rfl
theorem s_X2_dropKey_21 {X : ev_E} {l : Launch} (hG : ev_Good X) (hl : l.stackTraces = false) : ev_Snd X l ev_ms x_X2_dropKey tx_X2_dropKey 21 (i_il 2 22) := s_iload_n dX2_dropKey_21 rfl
theorem s_X2_dropKey_22 {X : ev_E} {l : Launch} (hG : ev_Good X) (hl : l.stackTraces = false) : ev_Snd X l ev_ms x_X2_dropKey tx_X2_dropKey 22 (i_cV X 93 1 7 3 25) := s_invokevirtual hG (mi := 93) (n := 1) (ci := 7) (r := (RX2, TX2, 7)) rfl (cal_X2_dropAt (Nat.le_of_ble_eq_true rfl)) w_857 w_858 w_859 dX2_dropKey_22
theorem s_X2_dropKey_25 {X : ev_E} {l : Launch} (hG : ev_Good X) (hl : l.stackTraces = false) : ev_Snd X l ev_ms x_X2_dropKey tx_X2_dropKey 25 (i_il 3 26) := s_iload_n dX2_dropKey_25 rfl
theorem s_X2_dropKey_26 {X : ev_E} {l : Launch} (hG : ev_Good X) (hl : l.stackTraces = false) : ev_Snd X l ev_ms x_X2_dropKey tx_X2_dropKey 26 (i_ir (.int)) := s_ireturn rfl dX2_dropKey_26
theorem sa_X2_dropKey {X : ev_E} {l : Launch} (hG : ev_Good X) (hl : l.stackTraces = false) : ∀ q ∈ tb_X2_dropKey X, ev_Snd X l ev_ms x_X2_dropKey tx_X2_dropKey q.1 q.2 := by
  intro q hq
  unfold tb_X2_dropKey at hq
  simp only [List.mem_cons, List.not_mem_nil, or_false] at hq
  rcases hq with rfl | rfl | rfl | rfl | rfl | rfl | rfl | rfl | rfl | rfl | rfl | rfl | rfl | rfl | rfl | rfl | rfl | rfl | rfl
  · exact s_X2_dropKey_0 hG hl
  · exact s_X2_dropKey_1 hG hl
  · exact s_X2_dropKey_2 hG hl
  · exact s_X2_dropKey_5 hG hl
  · exact s_X2_dropKey_6 hG hl
  · exact s_X2_dropKey_7 hG hl
  · exact s_X2_dropKey_8 hG hl
  · exact s_X2_dropKey_11 hG hl
  · exact s_X2_dropKey_12 hG hl
  · exact s_X2_dropKey_13 hG hl
  · exact s_X2_dropKey_14 hG hl
  · exact s_X2_dropKey_17 hG hl
  · exact s_X2_dropKey_18 hG hl
  · exact s_X2_dropKey_19 hG hl
  · exact s_X2_dropKey_20 hG hl
  · exact s_X2_dropKey_21 hG hl
  · exact s_X2_dropKey_22 hG hl
  · exact s_X2_dropKey_25 hG hl
  · exact s_X2_dropKey_26 hG hl
def tx_X2_noteAsking : ev_X := fun _ _ => some none
noncomputable def tb_X2_noteAsking (X : ev_E) : List (Nat × (ev_S → ev_N)) := [(0, i_al 0 1), (1, i_gf X 7 3 4), (4, i_ifeq 15 7), (7, i_al 0 8), (8, i_il 1 9), (9, i_cV X 39 1 7 2 12), (12, i_ifne 16 15), (15, i_vr), (16, i_al 0 17), (17, i_gf X 7 0 20), (20, i_il 1 21), (21, i_ald X ev_tI 22), (22, i_is 2 23), (23, i_al 0 24), (24, i_gf X 7 1 27), (27, i_il 1 28), (28, i_ald X ev_tI 29), (29, i_is 3 30), (30, i_al 0 31), (31, i_il 1 32), (32, i_cV X 93 1 7 3 35), (35, i_al 0 36), (36, i_il 2 37), (37, i_il 3 38), (38, i_cV X 34 2 7 3 41), (41, i_vr)]
theorem s_X2_noteAsking_0 {X : ev_E} {l : Launch} (hG : ev_Good X) (hl : l.stackTraces = false) : ev_Snd X l ev_ms x_X2_noteAsking tx_X2_noteAsking 0 (i_al 0 1) := s_aload_n dX2_noteAsking_0 rfl
theorem s_X2_noteAsking_1 {X : ev_E} {l : Launch} (hG : ev_Good X) (hl : l.stackTraces = false) : ev_Snd X l ev_ms x_X2_noteAsking tx_X2_noteAsking 1 (i_gf X 7 3 4) := s_getfield hG (ci := 7) (r := (RX2, TX2, 7)) rfl cw_7 (k := 3) (Nat.le_of_ble_eq_true rfl) w_132 rfl (Or.inl rfl) dX2_noteAsking_1
theorem s_X2_noteAsking_4 {X : ev_E} {l : Launch} (hG : ev_Good X) (hl : l.stackTraces = false) : ev_Snd X l ev_ms x_X2_noteAsking tx_X2_noteAsking 4 (i_ifeq 15 7) := s_ifeq dX2_noteAsking_4 rfl
theorem s_X2_noteAsking_7 {X : ev_E} {l : Launch} (hG : ev_Good X) (hl : l.stackTraces = false) : ev_Snd X l ev_ms x_X2_noteAsking tx_X2_noteAsking 7 (i_al 0 8) := s_aload_n dX2_noteAsking_7 rfl
theorem s_X2_noteAsking_8 {X : ev_E} {l : Launch} (hG : ev_Good X) (hl : l.stackTraces = false) : ev_Snd X l ev_ms x_X2_noteAsking tx_X2_noteAsking 8 (i_il 1 9) := s_iload_n dX2_noteAsking_8 rfl
theorem s_X2_noteAsking_9 {X : ev_E} {l : Launch} (hG : ev_Good X) (hl : l.stackTraces = false) : ev_Snd X l ev_ms x_X2_noteAsking tx_X2_noteAsking 9 (i_cV X 39 1 7 2 12) := s_invokevirtual hG (mi := 39) (n := 1) (ci := 7) (r := (RX2, TX2, 7)) rfl (cal_X2_isPlace (Nat.le_of_ble_eq_true rfl)) w_741 w_742 w_743 dX2_noteAsking_9
theorem s_X2_noteAsking_12 {X : ev_E} {l : Launch} (hG : ev_Good X) (hl : l.stackTraces = false) : ev_Snd X l ev_ms x_X2_noteAsking tx_X2_noteAsking 12 (i_ifne 16 15) := s_ifne dX2_noteAsking_12 rfl
theorem s_X2_noteAsking_15 {X : ev_E} {l : Launch} (hG : ev_Good X) (hl : l.stackTraces = false) : ev_Snd X l ev_ms x_X2_noteAsking tx_X2_noteAsking 15 (i_vr) := s_return rfl dX2_noteAsking_15
theorem s_X2_noteAsking_16 {X : ev_E} {l : Launch} (hG : ev_Good X) (hl : l.stackTraces = false) : ev_Snd X l ev_ms x_X2_noteAsking tx_X2_noteAsking 16 (i_al 0 17) := s_aload_n dX2_noteAsking_16 rfl
theorem s_X2_noteAsking_17 {X : ev_E} {l : Launch} (hG : ev_Good X) (hl : l.stackTraces = false) : ev_Snd X l ev_ms x_X2_noteAsking tx_X2_noteAsking 17 (i_gf X 7 0 20) := s_getfield hG (ci := 7) (r := (RX2, TX2, 7)) rfl cw_7 (k := 0) (Nat.le_of_ble_eq_true rfl) w_127 rfl (Or.inl rfl) dX2_noteAsking_17
theorem s_X2_noteAsking_20 {X : ev_E} {l : Launch} (hG : ev_Good X) (hl : l.stackTraces = false) : ev_Snd X l ev_ms x_X2_noteAsking tx_X2_noteAsking 20 (i_il 1 21) := s_iload_n dX2_noteAsking_20 rfl
theorem s_X2_noteAsking_21 {X : ev_E} {l : Launch} (hG : ev_Good X) (hl : l.stackTraces = false) : ev_Snd X l ev_ms x_X2_noteAsking tx_X2_noteAsking 21 (i_ald X ev_tI 22) := s_iaload hG dX2_noteAsking_21
theorem s_X2_noteAsking_22 {X : ev_E} {l : Launch} (hG : ev_Good X) (hl : l.stackTraces = false) : ev_Snd X l ev_ms x_X2_noteAsking tx_X2_noteAsking 22 (i_is 2 23) := s_istore_n dX2_noteAsking_22 rfl (Nat.le_of_ble_eq_true rfl)
theorem s_X2_noteAsking_23 {X : ev_E} {l : Launch} (hG : ev_Good X) (hl : l.stackTraces = false) : ev_Snd X l ev_ms x_X2_noteAsking tx_X2_noteAsking 23 (i_al 0 24) := s_aload_n dX2_noteAsking_23 rfl
theorem s_X2_noteAsking_24 {X : ev_E} {l : Launch} (hG : ev_Good X) (hl : l.stackTraces = false) : ev_Snd X l ev_ms x_X2_noteAsking tx_X2_noteAsking 24 (i_gf X 7 1 27) := s_getfield hG (ci := 7) (r := (RX2, TX2, 7)) rfl cw_7 (k := 1) (Nat.le_of_ble_eq_true rfl) w_128 rfl (Or.inl rfl) dX2_noteAsking_24
theorem s_X2_noteAsking_27 {X : ev_E} {l : Launch} (hG : ev_Good X) (hl : l.stackTraces = false) : ev_Snd X l ev_ms x_X2_noteAsking tx_X2_noteAsking 27 (i_il 1 28) := s_iload_n dX2_noteAsking_27 rfl
theorem s_X2_noteAsking_28 {X : ev_E} {l : Launch} (hG : ev_Good X) (hl : l.stackTraces = false) : ev_Snd X l ev_ms x_X2_noteAsking tx_X2_noteAsking 28 (i_ald X ev_tI 29) := s_iaload hG dX2_noteAsking_28
theorem s_X2_noteAsking_29 {X : ev_E} {l : Launch} (hG : ev_Good X) (hl : l.stackTraces = false) : ev_Snd X l ev_ms x_X2_noteAsking tx_X2_noteAsking 29 (i_is 3 30) := s_istore_n dX2_noteAsking_29 rfl (Nat.le_of_ble_eq_true rfl)
theorem s_X2_noteAsking_30 {X : ev_E} {l : Launch} (hG : ev_Good X) (hl : l.stackTraces = false) : ev_Snd X l ev_ms x_X2_noteAsking tx_X2_noteAsking 30 (i_al 0 31) := s_aload_n dX2_noteAsking_30 rfl
theorem s_X2_noteAsking_31 {X : ev_E} {l : Launch} (hG : ev_Good X) (hl : l.stackTraces = false) : ev_Snd X l ev_ms x_X2_noteAsking tx_X2_noteAsking 31 (i_il 1 32) := s_iload_n dX2_noteAsking_31 rfl
theorem s_X2_noteAsking_32 {X : ev_E} {l : Launch} (hG : ev_Good X) (hl : l.stackTraces = false) : ev_Snd X l ev_ms x_X2_noteAsking tx_X2_noteAsking 32 (i_cV X 93 1 7 3 35) := s_invokevirtual hG (mi := 93) (n := 1) (ci := 7) (r := (RX2, TX2, 7)) rfl (cal_X2_dropAt (Nat.le_of_ble_eq_true rfl)) w_857 w_858 w_859 dX2_noteAsking_32
theorem s_X2_noteAsking_35 {X : ev_E} {l : Launch} (hG : ev_Good X) (hl : l.stackTraces = false) : ev_Snd X l ev_ms x_X2_noteAsking tx_X2_noteAsking 35 (i_al 0 36) := s_aload_n dX2_noteAsking_35 rfl
theorem s_X2_noteAsking_36 {X : ev_E} {l : Launch} (hG : ev_Good X) (hl : l.stackTraces = false) : ev_Snd X l ev_ms x_X2_noteAsking tx_X2_noteAsking 36 (i_il 2 37) := s_iload_n dX2_noteAsking_36 rfl
theorem s_X2_noteAsking_37 {X : ev_E} {l : Launch} (hG : ev_Good X) (hl : l.stackTraces = false) : ev_Snd X l ev_ms x_X2_noteAsking tx_X2_noteAsking 37 (i_il 3 38) := s_iload_n dX2_noteAsking_37 rfl
theorem s_X2_noteAsking_38 {X : ev_E} {l : Launch} (hG : ev_Good X) (hl : l.stackTraces = false) : ev_Snd X l ev_ms x_X2_noteAsking tx_X2_noteAsking 38 (i_cV X 34 2 7 3 41) := s_invokevirtual hG (mi := 34) (n := 2) (ci := 7) (r := (RX2, TX2, 7)) rfl (cal_X2_append (Nat.le_of_ble_eq_true rfl)) w_852 w_854 w_15 dX2_noteAsking_38
theorem s_X2_noteAsking_41 {X : ev_E} {l : Launch} (hG : ev_Good X) (hl : l.stackTraces = false) : ev_Snd X l ev_ms x_X2_noteAsking tx_X2_noteAsking 41 (i_vr) := s_return rfl dX2_noteAsking_41
theorem sa_X2_noteAsking {X : ev_E} {l : Launch} (hG : ev_Good X) (hl : l.stackTraces = false) : ∀ q ∈ tb_X2_noteAsking X, ev_Snd X l ev_ms x_X2_noteAsking tx_X2_noteAsking q.1 q.2 := by
  intro q hq
  unfold tb_X2_noteAsking at hq
  simp only [List.mem_cons, List.not_mem_nil, or_false] at hq
  rcases hq with rfl | rfl | rfl | rfl | rfl | rfl | rfl | rfl | rfl | rfl | rfl | rfl | rfl | rfl | rfl | rfl | rfl | rfl | rfl | rfl | rfl | rfl | rfl | rfl | rfl | rfl
  · exact s_X2_noteAsking_0 hG hl
  · exact s_X2_noteAsking_1 hG hl
  · exact s_X2_noteAsking_4 hG hl
  · exact s_X2_noteAsking_7 hG hl
  · exact s_X2_noteAsking_8 hG hl
  · exact s_X2_noteAsking_9 hG hl
  · exact s_X2_noteAsking_12 hG hl
  · exact s_X2_noteAsking_15 hG hl
  · exact s_X2_noteAsking_16 hG hl
  · exact s_X2_noteAsking_17 hG hl
  · exact s_X2_noteAsking_20 hG hl
  · exact s_X2_noteAsking_21 hG hl
  · exact s_X2_noteAsking_22 hG hl
  · exact s_X2_noteAsking_23 hG hl
  · exact s_X2_noteAsking_24 hG hl
  · exact s_X2_noteAsking_27 hG hl
  · exact s_X2_noteAsking_28 hG hl
  · exact s_X2_noteAsking_29 hG hl
  · exact s_X2_noteAsking_30 hG hl
  · exact s_X2_noteAsking_31 hG hl
  · exact s_X2_noteAsking_32 hG hl
  · exact s_X2_noteAsking_35 hG hl
  · exact s_X2_noteAsking_36 hG hl
  · exact s_X2_noteAsking_37 hG hl
  · exact s_X2_noteAsking_38 hG hl
  · exact s_X2_noteAsking_41 hG hl
def tx_X2_takeIn : ev_X := fun _ _ => some none
noncomputable def tb_X2_takeIn (X : ev_E) : List (Nat × (ev_S → ev_N)) := [(0, i_al 0 1), (1, i_il 1 2), (2, i_il 2 3), (3, i_cV X 34 2 7 3 6), (6, i_al 0 7), (7, i_cV X 38 0 7 1 10), (10, i_ifeq 38 13), (13, i_al 0 14), (14, i_dup 15), (15, i_gf X 7 5 18), (18, i_psh (.int (1)) 19), (19, i_ii (fun a b => a + b) 20), (20, i_pf 7 5 (.int) 23), (23, i_al 0 24), (24, i_al 0 25), (25, i_gf X 7 0 28), (28, i_psh (.int (0)) 29), (29, i_ald X ev_tI 30), (30, i_pf 7 6 (.int) 33), (33, i_al 0 34), (34, i_psh (.int (0)) 35), (35, i_cV X 93 1 7 3 38), (38, i_vr)]
theorem s_X2_takeIn_0 {X : ev_E} {l : Launch} (hG : ev_Good X) (hl : l.stackTraces = false) : ev_Snd X l ev_ms x_X2_takeIn tx_X2_takeIn 0 (i_al 0 1) := s_aload_n dX2_takeIn_0 rfl
theorem s_X2_takeIn_1 {X : ev_E} {l : Launch} (hG : ev_Good X) (hl : l.stackTraces = false) : ev_Snd X l ev_ms x_X2_takeIn tx_X2_takeIn 1 (i_il 1 2) := s_iload_n dX2_takeIn_1 rfl
theorem s_X2_takeIn_2 {X : ev_E} {l : Launch} (hG : ev_Good X) (hl : l.stackTraces = false) : ev_Snd X l ev_ms x_X2_takeIn tx_X2_takeIn 2 (i_il 2 3) := s_iload_n dX2_takeIn_2 rfl
theorem s_X2_takeIn_3 {X : ev_E} {l : Launch} (hG : ev_Good X) (hl : l.stackTraces = false) : ev_Snd X l ev_ms x_X2_takeIn tx_X2_takeIn 3 (i_cV X 34 2 7 3 6) := s_invokevirtual hG (mi := 34) (n := 2) (ci := 7) (r := (RX2, TX2, 7)) rfl (cal_X2_append (Nat.le_of_ble_eq_true rfl)) w_852 w_854 w_15 dX2_takeIn_3
theorem s_X2_takeIn_6 {X : ev_E} {l : Launch} (hG : ev_Good X) (hl : l.stackTraces = false) : ev_Snd X l ev_ms x_X2_takeIn tx_X2_takeIn 6 (i_al 0 7) := s_aload_n dX2_takeIn_6 rfl
theorem s_X2_takeIn_7 {X : ev_E} {l : Launch} (hG : ev_Good X) (hl : l.stackTraces = false) : ev_Snd X l ev_ms x_X2_takeIn tx_X2_takeIn 7 (i_cV X 38 0 7 1 10) := s_invokevirtual hG (mi := 38) (n := 0) (ci := 7) (r := (RX2, TX2, 7)) rfl (cal_X2_isAboveMost (Nat.le_of_ble_eq_true rfl)) w_856 w_645 w_646 dX2_takeIn_7
theorem s_X2_takeIn_10 {X : ev_E} {l : Launch} (hG : ev_Good X) (hl : l.stackTraces = false) : ev_Snd X l ev_ms x_X2_takeIn tx_X2_takeIn 10 (i_ifeq 38 13) := s_ifeq dX2_takeIn_10 rfl
theorem s_X2_takeIn_13 {X : ev_E} {l : Launch} (hG : ev_Good X) (hl : l.stackTraces = false) : ev_Snd X l ev_ms x_X2_takeIn tx_X2_takeIn 13 (i_al 0 14) := s_aload_n dX2_takeIn_13 rfl
theorem s_X2_takeIn_14 {X : ev_E} {l : Launch} (hG : ev_Good X) (hl : l.stackTraces = false) : ev_Snd X l ev_ms x_X2_takeIn tx_X2_takeIn 14 (i_dup 15) := s_dup dX2_takeIn_14
theorem s_X2_takeIn_15 {X : ev_E} {l : Launch} (hG : ev_Good X) (hl : l.stackTraces = false) : ev_Snd X l ev_ms x_X2_takeIn tx_X2_takeIn 15 (i_gf X 7 5 18) := s_getfield hG (ci := 7) (r := (RX2, TX2, 7)) rfl cw_7 (k := 5) (Nat.le_of_ble_eq_true rfl) w_137 rfl (Or.inl rfl) dX2_takeIn_15
theorem s_X2_takeIn_18 {X : ev_E} {l : Launch} (hG : ev_Good X) (hl : l.stackTraces = false) : ev_Snd X l ev_ms x_X2_takeIn tx_X2_takeIn 18 (i_psh (.int (1)) 19) := s_iconst dX2_takeIn_18 rfl
theorem s_X2_takeIn_19 {X : ev_E} {l : Launch} (hG : ev_Good X) (hl : l.stackTraces = false) : ev_Snd X l ev_ms x_X2_takeIn tx_X2_takeIn 19 (i_ii (fun a b => a + b) 20) := s_iadd dX2_takeIn_19
theorem s_X2_takeIn_20 {X : ev_E} {l : Launch} (hG : ev_Good X) (hl : l.stackTraces = false) : ev_Snd X l ev_ms x_X2_takeIn tx_X2_takeIn 20 (i_pf 7 5 (.int) 23) := s_putfield hG (ci := 7) (r := (RX2, TX2, 7)) rfl cw_7 ap_7 (k := 5) (Nat.le_of_ble_eq_true rfl) rfl (by decide +kernel) w_137 rfl (Or.inl rfl) dX2_takeIn_20
theorem s_X2_takeIn_23 {X : ev_E} {l : Launch} (hG : ev_Good X) (hl : l.stackTraces = false) : ev_Snd X l ev_ms x_X2_takeIn tx_X2_takeIn 23 (i_al 0 24) := s_aload_n dX2_takeIn_23 rfl
theorem s_X2_takeIn_24 {X : ev_E} {l : Launch} (hG : ev_Good X) (hl : l.stackTraces = false) : ev_Snd X l ev_ms x_X2_takeIn tx_X2_takeIn 24 (i_al 0 25) := s_aload_n dX2_takeIn_24 rfl
theorem s_X2_takeIn_25 {X : ev_E} {l : Launch} (hG : ev_Good X) (hl : l.stackTraces = false) : ev_Snd X l ev_ms x_X2_takeIn tx_X2_takeIn 25 (i_gf X 7 0 28) := s_getfield hG (ci := 7) (r := (RX2, TX2, 7)) rfl cw_7 (k := 0) (Nat.le_of_ble_eq_true rfl) w_127 rfl (Or.inl rfl) dX2_takeIn_25
theorem s_X2_takeIn_28 {X : ev_E} {l : Launch} (hG : ev_Good X) (hl : l.stackTraces = false) : ev_Snd X l ev_ms x_X2_takeIn tx_X2_takeIn 28 (i_psh (.int (0)) 29) := s_iconst dX2_takeIn_28 rfl
theorem s_X2_takeIn_29 {X : ev_E} {l : Launch} (hG : ev_Good X) (hl : l.stackTraces = false) : ev_Snd X l ev_ms x_X2_takeIn tx_X2_takeIn 29 (i_ald X ev_tI 30) := s_iaload hG dX2_takeIn_29
theorem s_X2_takeIn_30 {X : ev_E} {l : Launch} (hG : ev_Good X) (hl : l.stackTraces = false) : ev_Snd X l ev_ms x_X2_takeIn tx_X2_takeIn 30 (i_pf 7 6 (.int) 33) := s_putfield hG (ci := 7) (r := (RX2, TX2, 7)) rfl cw_7 ap_7 (k := 6) (Nat.le_of_ble_eq_true rfl) rfl (by decide +kernel) w_139 rfl (Or.inl rfl) dX2_takeIn_30
theorem s_X2_takeIn_33 {X : ev_E} {l : Launch} (hG : ev_Good X) (hl : l.stackTraces = false) : ev_Snd X l ev_ms x_X2_takeIn tx_X2_takeIn 33 (i_al 0 34) := s_aload_n dX2_takeIn_33 rfl
theorem s_X2_takeIn_34 {X : ev_E} {l : Launch} (hG : ev_Good X) (hl : l.stackTraces = false) : ev_Snd X l ev_ms x_X2_takeIn tx_X2_takeIn 34 (i_psh (.int (0)) 35) := s_iconst dX2_takeIn_34 rfl
theorem s_X2_takeIn_35 {X : ev_E} {l : Launch} (hG : ev_Good X) (hl : l.stackTraces = false) : ev_Snd X l ev_ms x_X2_takeIn tx_X2_takeIn 35 (i_cV X 93 1 7 3 38) := s_invokevirtual hG (mi := 93) (n := 1) (ci := 7) (r := (RX2, TX2, 7)) rfl (cal_X2_dropAt (Nat.le_of_ble_eq_true rfl)) w_857 w_858 w_859 dX2_takeIn_35
theorem s_X2_takeIn_38 {X : ev_E} {l : Launch} (hG : ev_Good X) (hl : l.stackTraces = false) : ev_Snd X l ev_ms x_X2_takeIn tx_X2_takeIn 38 (i_vr) := s_return rfl dX2_takeIn_38
theorem sa_X2_takeIn {X : ev_E} {l : Launch} (hG : ev_Good X) (hl : l.stackTraces = false) : ∀ q ∈ tb_X2_takeIn X, ev_Snd X l ev_ms x_X2_takeIn tx_X2_takeIn q.1 q.2 := by
  intro q hq
  unfold tb_X2_takeIn at hq
  simp only [List.mem_cons, List.not_mem_nil, or_false] at hq
  rcases hq with rfl | rfl | rfl | rfl | rfl | rfl | rfl | rfl | rfl | rfl | rfl | rfl | rfl | rfl | rfl | rfl | rfl | rfl | rfl | rfl | rfl | rfl | rfl
  · exact s_X2_takeIn_0 hG hl
  · exact s_X2_takeIn_1 hG hl
  · exact s_X2_takeIn_2 hG hl
  · exact s_X2_takeIn_3 hG hl
  · exact s_X2_takeIn_6 hG hl
  · exact s_X2_takeIn_7 hG hl
  · exact s_X2_takeIn_10 hG hl
  · exact s_X2_takeIn_13 hG hl
  · exact s_X2_takeIn_14 hG hl
  · exact s_X2_takeIn_15 hG hl
  · exact s_X2_takeIn_18 hG hl
  · exact s_X2_takeIn_19 hG hl
  · exact s_X2_takeIn_20 hG hl
  · exact s_X2_takeIn_23 hG hl
  · exact s_X2_takeIn_24 hG hl
  · exact s_X2_takeIn_25 hG hl
  · exact s_X2_takeIn_28 hG hl
  · exact s_X2_takeIn_29 hG hl
  · exact s_X2_takeIn_30 hG hl
  · exact s_X2_takeIn_33 hG hl
  · exact s_X2_takeIn_34 hG hl
  · exact s_X2_takeIn_35 hG hl
  · exact s_X2_takeIn_38 hG hl
def tx_X4_advance : ev_X := fun _ _ => some none
noncomputable def tb_X4_advance (X : ev_E) : List (Nat × (ev_S → ev_N)) := [(0, i_al 0 1), (1, i_gf X 9 0 4), (4, i_al 0 5), (5, i_gf X 9 5 8), (8, i_al 0 9), (9, i_gf X 9 4 12), (12, i_cV X 96 2 7 3 15), (15, i_is 1 16), (16, i_al 0 17), (17, i_dup 18), (18, i_gf X 9 5 21), (21, i_psh (.int (1)) 22), (22, i_ii (fun a b => a + b) 23), (23, i_pf 9 5 (.int) 26), (26, i_al 0 27), (27, i_psh (.int (1)) 28), (28, i_pf 9 3 (.boolean) 31), (31, i_il 1 32), (32, i_ir (.int))]
theorem s_X4_advance_0 {X : ev_E} {l : Launch} (hG : ev_Good X) (hl : l.stackTraces = false) : ev_Snd X l ev_ms x_X4_advance tx_X4_advance 0 (i_al 0 1) := s_aload_n dX4_advance_0 rfl
theorem s_X4_advance_1 {X : ev_E} {l : Launch} (hG : ev_Good X) (hl : l.stackTraces = false) : ev_Snd X l ev_ms x_X4_advance tx_X4_advance 1 (i_gf X 9 0 4) := s_getfield hG (ci := 9) (r := (RX4, TX4, 6)) rfl cw_9 (k := 0) (Nat.le_of_ble_eq_true rfl) w_169 rfl (Or.inl rfl) dX4_advance_1
theorem s_X4_advance_4 {X : ev_E} {l : Launch} (hG : ev_Good X) (hl : l.stackTraces = false) : ev_Snd X l ev_ms x_X4_advance tx_X4_advance 4 (i_al 0 5) := s_aload_n dX4_advance_4 rfl
theorem s_X4_advance_5 {X : ev_E} {l : Launch} (hG : ev_Good X) (hl : l.stackTraces = false) : ev_Snd X l ev_ms x_X4_advance tx_X4_advance 5 (i_gf X 9 5 8) := s_getfield hG (ci := 9) (r := (RX4, TX4, 6)) rfl cw_9 (k := 5) (Nat.le_of_ble_eq_true rfl) w_174 rfl (Or.inl rfl) dX4_advance_5
theorem s_X4_advance_8 {X : ev_E} {l : Launch} (hG : ev_Good X) (hl : l.stackTraces = false) : ev_Snd X l ev_ms x_X4_advance tx_X4_advance 8 (i_al 0 9) := s_aload_n dX4_advance_8 rfl
theorem s_X4_advance_9 {X : ev_E} {l : Launch} (hG : ev_Good X) (hl : l.stackTraces = false) : ev_Snd X l ev_ms x_X4_advance tx_X4_advance 9 (i_gf X 9 4 12) := s_getfield hG (ci := 9) (r := (RX4, TX4, 6)) rfl cw_9 (k := 4) (Nat.le_of_ble_eq_true rfl) w_173 rfl (Or.inl rfl) dX4_advance_9
theorem s_X4_advance_12 {X : ev_E} {l : Launch} (hG : ev_Good X) (hl : l.stackTraces = false) : ev_Snd X l ev_ms x_X4_advance tx_X4_advance 12 (i_cV X 96 2 7 3 15) := s_invokevirtual hG (mi := 96) (n := 2) (ci := 7) (r := (RX2, TX2, 7)) rfl (cal_X2_told (Nat.le_of_ble_eq_true rfl)) w_1048 w_738 w_739 dX4_advance_12
theorem s_X4_advance_15 {X : ev_E} {l : Launch} (hG : ev_Good X) (hl : l.stackTraces = false) : ev_Snd X l ev_ms x_X4_advance tx_X4_advance 15 (i_is 1 16) := s_istore_n dX4_advance_15 rfl (Nat.le_of_ble_eq_true rfl)
theorem s_X4_advance_16 {X : ev_E} {l : Launch} (hG : ev_Good X) (hl : l.stackTraces = false) : ev_Snd X l ev_ms x_X4_advance tx_X4_advance 16 (i_al 0 17) := s_aload_n dX4_advance_16 rfl
theorem s_X4_advance_17 {X : ev_E} {l : Launch} (hG : ev_Good X) (hl : l.stackTraces = false) : ev_Snd X l ev_ms x_X4_advance tx_X4_advance 17 (i_dup 18) := s_dup dX4_advance_17
theorem s_X4_advance_18 {X : ev_E} {l : Launch} (hG : ev_Good X) (hl : l.stackTraces = false) : ev_Snd X l ev_ms x_X4_advance tx_X4_advance 18 (i_gf X 9 5 21) := s_getfield hG (ci := 9) (r := (RX4, TX4, 6)) rfl cw_9 (k := 5) (Nat.le_of_ble_eq_true rfl) w_174 rfl (Or.inl rfl) dX4_advance_18
theorem s_X4_advance_21 {X : ev_E} {l : Launch} (hG : ev_Good X) (hl : l.stackTraces = false) : ev_Snd X l ev_ms x_X4_advance tx_X4_advance 21 (i_psh (.int (1)) 22) := s_iconst dX4_advance_21 rfl
theorem s_X4_advance_22 {X : ev_E} {l : Launch} (hG : ev_Good X) (hl : l.stackTraces = false) : ev_Snd X l ev_ms x_X4_advance tx_X4_advance 22 (i_ii (fun a b => a + b) 23) := s_iadd dX4_advance_22
theorem s_X4_advance_23 {X : ev_E} {l : Launch} (hG : ev_Good X) (hl : l.stackTraces = false) : ev_Snd X l ev_ms x_X4_advance tx_X4_advance 23 (i_pf 9 5 (.int) 26) := s_putfield hG (ci := 9) (r := (RX4, TX4, 6)) rfl cw_9 ap_9 (k := 5) (Nat.le_of_ble_eq_true rfl) rfl (by decide +kernel) w_174 rfl (Or.inl rfl) dX4_advance_23
theorem s_X4_advance_26 {X : ev_E} {l : Launch} (hG : ev_Good X) (hl : l.stackTraces = false) : ev_Snd X l ev_ms x_X4_advance tx_X4_advance 26 (i_al 0 27) := s_aload_n dX4_advance_26 rfl
theorem s_X4_advance_27 {X : ev_E} {l : Launch} (hG : ev_Good X) (hl : l.stackTraces = false) : ev_Snd X l ev_ms x_X4_advance tx_X4_advance 27 (i_psh (.int (1)) 28) := s_iconst dX4_advance_27 rfl
theorem s_X4_advance_28 {X : ev_E} {l : Launch} (hG : ev_Good X) (hl : l.stackTraces = false) : ev_Snd X l ev_ms x_X4_advance tx_X4_advance 28 (i_pf 9 3 (.boolean) 31) := s_putfield hG (ci := 9) (r := (RX4, TX4, 6)) rfl cw_9 ap_9 (k := 3) (Nat.le_of_ble_eq_true rfl) rfl (by decide +kernel) w_172 rfl (Or.inl rfl) dX4_advance_28
theorem s_X4_advance_31 {X : ev_E} {l : Launch} (hG : ev_Good X) (hl : l.stackTraces = false) : ev_Snd X l ev_ms x_X4_advance tx_X4_advance 31 (i_il 1 32) := s_iload_n dX4_advance_31 rfl
theorem s_X4_advance_32 {X : ev_E} {l : Launch} (hG : ev_Good X) (hl : l.stackTraces = false) : ev_Snd X l ev_ms x_X4_advance tx_X4_advance 32 (i_ir (.int)) := s_ireturn rfl dX4_advance_32
theorem sa_X4_advance {X : ev_E} {l : Launch} (hG : ev_Good X) (hl : l.stackTraces = false) : ∀ q ∈ tb_X4_advance X, ev_Snd X l ev_ms x_X4_advance tx_X4_advance q.1 q.2 := by
  intro q hq
  unfold tb_X4_advance at hq
  simp only [List.mem_cons, List.not_mem_nil, or_false] at hq
  rcases hq with rfl | rfl | rfl | rfl | rfl | rfl | rfl | rfl | rfl | rfl | rfl | rfl | rfl | rfl | rfl | rfl | rfl | rfl | rfl
  · exact s_X4_advance_0 hG hl
  · exact s_X4_advance_1 hG hl
  · exact s_X4_advance_4 hG hl
  · exact s_X4_advance_5 hG hl
  · exact s_X4_advance_8 hG hl
  · exact s_X4_advance_9 hG hl
  · exact s_X4_advance_12 hG hl
  · exact s_X4_advance_15 hG hl
  · exact s_X4_advance_16 hG hl
  · exact s_X4_advance_17 hG hl
  · exact s_X4_advance_18 hG hl
  · exact s_X4_advance_21 hG hl
  · exact s_X4_advance_22 hG hl
  · exact s_X4_advance_23 hG hl
  · exact s_X4_advance_26 hG hl
  · exact s_X4_advance_27 hG hl
  · exact s_X4_advance_28 hG hl
  · exact s_X4_advance_31 hG hl
  · exact s_X4_advance_32 hG hl
def tx_X4_cutLast : ev_X := fun _ _ => some none
noncomputable def tb_X4_cutLast (X : ev_E) : List (Nat × (ev_S → ev_N)) := [(0, i_al 0 1), (1, i_dup 2), (2, i_gf X 9 5 5), (5, i_psh (.int (1)) 6), (6, i_ii (fun a b => a - b) 7), (7, i_pf 9 5 (.int) 10), (10, i_al 0 11), (11, i_psh (.int (0)) 12), (12, i_pf 9 3 (.boolean) 15), (15, i_al 0 16), (16, i_gf X 9 0 19), (19, i_al 0 20), (20, i_gf X 9 5 23), (23, i_cV X 93 1 7 3 26), (26, i_vr)]
theorem s_X4_cutLast_0 {X : ev_E} {l : Launch} (hG : ev_Good X) (hl : l.stackTraces = false) : ev_Snd X l ev_ms x_X4_cutLast tx_X4_cutLast 0 (i_al 0 1) := s_aload_n dX4_cutLast_0 rfl
theorem s_X4_cutLast_1 {X : ev_E} {l : Launch} (hG : ev_Good X) (hl : l.stackTraces = false) : ev_Snd X l ev_ms x_X4_cutLast tx_X4_cutLast 1 (i_dup 2) := s_dup dX4_cutLast_1
theorem s_X4_cutLast_2 {X : ev_E} {l : Launch} (hG : ev_Good X) (hl : l.stackTraces = false) : ev_Snd X l ev_ms x_X4_cutLast tx_X4_cutLast 2 (i_gf X 9 5 5) := s_getfield hG (ci := 9) (r := (RX4, TX4, 6)) rfl cw_9 (k := 5) (Nat.le_of_ble_eq_true rfl) w_174 rfl (Or.inl rfl) dX4_cutLast_2
theorem s_X4_cutLast_5 {X : ev_E} {l : Launch} (hG : ev_Good X) (hl : l.stackTraces = false) : ev_Snd X l ev_ms x_X4_cutLast tx_X4_cutLast 5 (i_psh (.int (1)) 6) := s_iconst dX4_cutLast_5 rfl
theorem s_X4_cutLast_6 {X : ev_E} {l : Launch} (hG : ev_Good X) (hl : l.stackTraces = false) : ev_Snd X l ev_ms x_X4_cutLast tx_X4_cutLast 6 (i_ii (fun a b => a - b) 7) := s_isub dX4_cutLast_6
theorem s_X4_cutLast_7 {X : ev_E} {l : Launch} (hG : ev_Good X) (hl : l.stackTraces = false) : ev_Snd X l ev_ms x_X4_cutLast tx_X4_cutLast 7 (i_pf 9 5 (.int) 10) := s_putfield hG (ci := 9) (r := (RX4, TX4, 6)) rfl cw_9 ap_9 (k := 5) (Nat.le_of_ble_eq_true rfl) rfl (by decide +kernel) w_174 rfl (Or.inl rfl) dX4_cutLast_7
theorem s_X4_cutLast_10 {X : ev_E} {l : Launch} (hG : ev_Good X) (hl : l.stackTraces = false) : ev_Snd X l ev_ms x_X4_cutLast tx_X4_cutLast 10 (i_al 0 11) := s_aload_n dX4_cutLast_10 rfl
theorem s_X4_cutLast_11 {X : ev_E} {l : Launch} (hG : ev_Good X) (hl : l.stackTraces = false) : ev_Snd X l ev_ms x_X4_cutLast tx_X4_cutLast 11 (i_psh (.int (0)) 12) := s_iconst dX4_cutLast_11 rfl
theorem s_X4_cutLast_12 {X : ev_E} {l : Launch} (hG : ev_Good X) (hl : l.stackTraces = false) : ev_Snd X l ev_ms x_X4_cutLast tx_X4_cutLast 12 (i_pf 9 3 (.boolean) 15) := s_putfield hG (ci := 9) (r := (RX4, TX4, 6)) rfl cw_9 ap_9 (k := 3) (Nat.le_of_ble_eq_true rfl) rfl (by decide +kernel) w_172 rfl (Or.inl rfl) dX4_cutLast_12
theorem s_X4_cutLast_15 {X : ev_E} {l : Launch} (hG : ev_Good X) (hl : l.stackTraces = false) : ev_Snd X l ev_ms x_X4_cutLast tx_X4_cutLast 15 (i_al 0 16) := s_aload_n dX4_cutLast_15 rfl
theorem s_X4_cutLast_16 {X : ev_E} {l : Launch} (hG : ev_Good X) (hl : l.stackTraces = false) : ev_Snd X l ev_ms x_X4_cutLast tx_X4_cutLast 16 (i_gf X 9 0 19) := s_getfield hG (ci := 9) (r := (RX4, TX4, 6)) rfl cw_9 (k := 0) (Nat.le_of_ble_eq_true rfl) w_169 rfl (Or.inl rfl) dX4_cutLast_16
theorem s_X4_cutLast_19 {X : ev_E} {l : Launch} (hG : ev_Good X) (hl : l.stackTraces = false) : ev_Snd X l ev_ms x_X4_cutLast tx_X4_cutLast 19 (i_al 0 20) := s_aload_n dX4_cutLast_19 rfl
theorem s_X4_cutLast_20 {X : ev_E} {l : Launch} (hG : ev_Good X) (hl : l.stackTraces = false) : ev_Snd X l ev_ms x_X4_cutLast tx_X4_cutLast 20 (i_gf X 9 5 23) := s_getfield hG (ci := 9) (r := (RX4, TX4, 6)) rfl cw_9 (k := 5) (Nat.le_of_ble_eq_true rfl) w_174 rfl (Or.inl rfl) dX4_cutLast_20
theorem s_X4_cutLast_23 {X : ev_E} {l : Launch} (hG : ev_Good X) (hl : l.stackTraces = false) : ev_Snd X l ev_ms x_X4_cutLast tx_X4_cutLast 23 (i_cV X 93 1 7 3 26) := s_invokevirtual hG (mi := 93) (n := 1) (ci := 7) (r := (RX2, TX2, 7)) rfl (cal_X2_dropAt (Nat.le_of_ble_eq_true rfl)) w_1064 w_858 w_859 dX4_cutLast_23
theorem s_X4_cutLast_26 {X : ev_E} {l : Launch} (hG : ev_Good X) (hl : l.stackTraces = false) : ev_Snd X l ev_ms x_X4_cutLast tx_X4_cutLast 26 (i_vr) := s_return rfl dX4_cutLast_26
theorem sa_X4_cutLast {X : ev_E} {l : Launch} (hG : ev_Good X) (hl : l.stackTraces = false) : ∀ q ∈ tb_X4_cutLast X, ev_Snd X l ev_ms x_X4_cutLast tx_X4_cutLast q.1 q.2 := by
  intro q hq
  unfold tb_X4_cutLast at hq
  simp only [List.mem_cons, List.not_mem_nil, or_false] at hq
  rcases hq with rfl | rfl | rfl | rfl | rfl | rfl | rfl | rfl | rfl | rfl | rfl | rfl | rfl | rfl | rfl
  · exact s_X4_cutLast_0 hG hl
  · exact s_X4_cutLast_1 hG hl
  · exact s_X4_cutLast_2 hG hl
  · exact s_X4_cutLast_5 hG hl
  · exact s_X4_cutLast_6 hG hl
  · exact s_X4_cutLast_7 hG hl
  · exact s_X4_cutLast_10 hG hl
  · exact s_X4_cutLast_11 hG hl
  · exact s_X4_cutLast_12 hG hl
  · exact s_X4_cutLast_15 hG hl
  · exact s_X4_cutLast_16 hG hl
  · exact s_X4_cutLast_19 hG hl
  · exact s_X4_cutLast_20 hG hl
  · exact s_X4_cutLast_23 hG hl
  · exact s_X4_cutLast_26 hG hl
def tx_X5_areKeepersLastOfStack : ev_X := fun _ _ => some none
noncomputable def tb_X5_areKeepersLastOfStack (X : ev_E) : List (Nat × (ev_S → ev_N)) := [(0, i_al 0 1), (1, i_gf X 10 3 4), (4, i_as 1 5), (5, i_al 1 6), (6, i_len X 7), (7, i_is 2 8), (8, i_psh (.int (0)) 9), (9, i_is 3 10), (10, i_il 3 11), (11, i_il 2 12), (12, i_icge 43 15), (15, i_al 1 16), (16, i_il 3 17), (17, i_ald X FieldType.isReference 18), (18, i_as 4 20), (20, i_al 4 22), (22, i_gf X 6 0 25), (25, i_al 0 26), (26, i_gf X 10 2 29), (29, i_cV X 94 1 7 4 32), (32, i_ifne 37 35), (35, i_psh (.int (0)) 36), (36, i_ir (.boolean)), (37, i_inc 3 (1) 40), (40, i_goto 10), (43, i_psh (.int (1)) 44), (44, i_ir (.boolean))]
theorem s_X5_areKeepersLastOfStack_0 {X : ev_E} {l : Launch} (hG : ev_Good X) (hl : l.stackTraces = false) : ev_Snd X l ev_ms x_X5_areKeepersLastOfStack tx_X5_areKeepersLastOfStack 0 (i_al 0 1) := s_aload_n dX5_areKeepersLastOfStack_0 rfl
theorem s_X5_areKeepersLastOfStack_1 {X : ev_E} {l : Launch} (hG : ev_Good X) (hl : l.stackTraces = false) : ev_Snd X l ev_ms x_X5_areKeepersLastOfStack tx_X5_areKeepersLastOfStack 1 (i_gf X 10 3 4) := s_getfield hG (ci := 10) (r := (RX5, TX5, 7)) rfl cw_10 (k := 3) (Nat.le_of_ble_eq_true rfl) w_220 rfl (Or.inl rfl) dX5_areKeepersLastOfStack_1
theorem s_X5_areKeepersLastOfStack_4 {X : ev_E} {l : Launch} (hG : ev_Good X) (hl : l.stackTraces = false) : ev_Snd X l ev_ms x_X5_areKeepersLastOfStack tx_X5_areKeepersLastOfStack 4 (i_as 1 5) := s_astore_n dX5_areKeepersLastOfStack_4 rfl (Nat.le_of_ble_eq_true rfl)
theorem s_X5_areKeepersLastOfStack_5 {X : ev_E} {l : Launch} (hG : ev_Good X) (hl : l.stackTraces = false) : ev_Snd X l ev_ms x_X5_areKeepersLastOfStack tx_X5_areKeepersLastOfStack 5 (i_al 1 6) := s_aload_n dX5_areKeepersLastOfStack_5 rfl
theorem s_X5_areKeepersLastOfStack_6 {X : ev_E} {l : Launch} (hG : ev_Good X) (hl : l.stackTraces = false) : ev_Snd X l ev_ms x_X5_areKeepersLastOfStack tx_X5_areKeepersLastOfStack 6 (i_len X 7) := s_arraylength hG dX5_areKeepersLastOfStack_6
theorem s_X5_areKeepersLastOfStack_7 {X : ev_E} {l : Launch} (hG : ev_Good X) (hl : l.stackTraces = false) : ev_Snd X l ev_ms x_X5_areKeepersLastOfStack tx_X5_areKeepersLastOfStack 7 (i_is 2 8) := s_istore_n dX5_areKeepersLastOfStack_7 rfl (Nat.le_of_ble_eq_true rfl)
theorem s_X5_areKeepersLastOfStack_8 {X : ev_E} {l : Launch} (hG : ev_Good X) (hl : l.stackTraces = false) : ev_Snd X l ev_ms x_X5_areKeepersLastOfStack tx_X5_areKeepersLastOfStack 8 (i_psh (.int (0)) 9) := s_iconst dX5_areKeepersLastOfStack_8 rfl
theorem s_X5_areKeepersLastOfStack_9 {X : ev_E} {l : Launch} (hG : ev_Good X) (hl : l.stackTraces = false) : ev_Snd X l ev_ms x_X5_areKeepersLastOfStack tx_X5_areKeepersLastOfStack 9 (i_is 3 10) := s_istore_n dX5_areKeepersLastOfStack_9 rfl (Nat.le_of_ble_eq_true rfl)
theorem s_X5_areKeepersLastOfStack_10 {X : ev_E} {l : Launch} (hG : ev_Good X) (hl : l.stackTraces = false) : ev_Snd X l ev_ms x_X5_areKeepersLastOfStack tx_X5_areKeepersLastOfStack 10 (i_il 3 11) := s_iload_n dX5_areKeepersLastOfStack_10 rfl
theorem s_X5_areKeepersLastOfStack_11 {X : ev_E} {l : Launch} (hG : ev_Good X) (hl : l.stackTraces = false) : ev_Snd X l ev_ms x_X5_areKeepersLastOfStack tx_X5_areKeepersLastOfStack 11 (i_il 2 12) := s_iload_n dX5_areKeepersLastOfStack_11 rfl
theorem s_X5_areKeepersLastOfStack_12 {X : ev_E} {l : Launch} (hG : ev_Good X) (hl : l.stackTraces = false) : ev_Snd X l ev_ms x_X5_areKeepersLastOfStack tx_X5_areKeepersLastOfStack 12 (i_icge 43 15) := s_icge dX5_areKeepersLastOfStack_12 rfl
theorem s_X5_areKeepersLastOfStack_15 {X : ev_E} {l : Launch} (hG : ev_Good X) (hl : l.stackTraces = false) : ev_Snd X l ev_ms x_X5_areKeepersLastOfStack tx_X5_areKeepersLastOfStack 15 (i_al 1 16) := s_aload_n dX5_areKeepersLastOfStack_15 rfl
theorem s_X5_areKeepersLastOfStack_16 {X : ev_E} {l : Launch} (hG : ev_Good X) (hl : l.stackTraces = false) : ev_Snd X l ev_ms x_X5_areKeepersLastOfStack tx_X5_areKeepersLastOfStack 16 (i_il 3 17) := s_iload_n dX5_areKeepersLastOfStack_16 rfl
theorem s_X5_areKeepersLastOfStack_17 {X : ev_E} {l : Launch} (hG : ev_Good X) (hl : l.stackTraces = false) : ev_Snd X l ev_ms x_X5_areKeepersLastOfStack tx_X5_areKeepersLastOfStack 17 (i_ald X FieldType.isReference 18) := s_aaload hG dX5_areKeepersLastOfStack_17
theorem s_X5_areKeepersLastOfStack_18 {X : ev_E} {l : Launch} (hG : ev_Good X) (hl : l.stackTraces = false) : ev_Snd X l ev_ms x_X5_areKeepersLastOfStack tx_X5_areKeepersLastOfStack 18 (i_as 4 20) := s_astore dX5_areKeepersLastOfStack_18 (Nat.le_of_ble_eq_true rfl)
theorem s_X5_areKeepersLastOfStack_20 {X : ev_E} {l : Launch} (hG : ev_Good X) (hl : l.stackTraces = false) : ev_Snd X l ev_ms x_X5_areKeepersLastOfStack tx_X5_areKeepersLastOfStack 20 (i_al 4 22) := s_aload dX5_areKeepersLastOfStack_20
theorem s_X5_areKeepersLastOfStack_22 {X : ev_E} {l : Launch} (hG : ev_Good X) (hl : l.stackTraces = false) : ev_Snd X l ev_ms x_X5_areKeepersLastOfStack tx_X5_areKeepersLastOfStack 22 (i_gf X 6 0 25) := s_getfieldN hG (ci := 6) (r := (RX1, TX1, 3)) rfl cw_6 (k := 0) (Nat.le_of_ble_eq_true rfl) w_205 rfl dX5_areKeepersLastOfStack_22
theorem s_X5_areKeepersLastOfStack_25 {X : ev_E} {l : Launch} (hG : ev_Good X) (hl : l.stackTraces = false) : ev_Snd X l ev_ms x_X5_areKeepersLastOfStack tx_X5_areKeepersLastOfStack 25 (i_al 0 26) := s_aload_n dX5_areKeepersLastOfStack_25 rfl
theorem s_X5_areKeepersLastOfStack_26 {X : ev_E} {l : Launch} (hG : ev_Good X) (hl : l.stackTraces = false) : ev_Snd X l ev_ms x_X5_areKeepersLastOfStack tx_X5_areKeepersLastOfStack 26 (i_gf X 10 2 29) := s_getfield hG (ci := 10) (r := (RX5, TX5, 7)) rfl cw_10 (k := 2) (Nat.le_of_ble_eq_true rfl) w_219 rfl (Or.inl rfl) dX5_areKeepersLastOfStack_26
theorem s_X5_areKeepersLastOfStack_29 {X : ev_E} {l : Launch} (hG : ev_Good X) (hl : l.stackTraces = false) : ev_Snd X l ev_ms x_X5_areKeepersLastOfStack tx_X5_areKeepersLastOfStack 29 (i_cV X 94 1 7 4 32) := s_invokevirtual hG (mi := 94) (n := 1) (ci := 7) (r := (RX2, TX2, 7)) rfl (cal_X2_isLastOf (Nat.le_of_ble_eq_true rfl)) w_652 w_653 w_654 dX5_areKeepersLastOfStack_29
theorem s_X5_areKeepersLastOfStack_32 {X : ev_E} {l : Launch} (hG : ev_Good X) (hl : l.stackTraces = false) : ev_Snd X l ev_ms x_X5_areKeepersLastOfStack tx_X5_areKeepersLastOfStack 32 (i_ifne 37 35) := s_ifne dX5_areKeepersLastOfStack_32 rfl
theorem s_X5_areKeepersLastOfStack_35 {X : ev_E} {l : Launch} (hG : ev_Good X) (hl : l.stackTraces = false) : ev_Snd X l ev_ms x_X5_areKeepersLastOfStack tx_X5_areKeepersLastOfStack 35 (i_psh (.int (0)) 36) := s_iconst dX5_areKeepersLastOfStack_35 rfl
theorem s_X5_areKeepersLastOfStack_36 {X : ev_E} {l : Launch} (hG : ev_Good X) (hl : l.stackTraces = false) : ev_Snd X l ev_ms x_X5_areKeepersLastOfStack tx_X5_areKeepersLastOfStack 36 (i_ir (.boolean)) := s_ireturn rfl dX5_areKeepersLastOfStack_36
theorem s_X5_areKeepersLastOfStack_37 {X : ev_E} {l : Launch} (hG : ev_Good X) (hl : l.stackTraces = false) : ev_Snd X l ev_ms x_X5_areKeepersLastOfStack tx_X5_areKeepersLastOfStack 37 (i_inc 3 (1) 40) := s_iinc dX5_areKeepersLastOfStack_37 rfl (Nat.le_of_ble_eq_true rfl)
theorem s_X5_areKeepersLastOfStack_40 {X : ev_E} {l : Launch} (hG : ev_Good X) (hl : l.stackTraces = false) : ev_Snd X l ev_ms x_X5_areKeepersLastOfStack tx_X5_areKeepersLastOfStack 40 (i_goto 10) := s_goto dX5_areKeepersLastOfStack_40 rfl
theorem s_X5_areKeepersLastOfStack_43 {X : ev_E} {l : Launch} (hG : ev_Good X) (hl : l.stackTraces = false) : ev_Snd X l ev_ms x_X5_areKeepersLastOfStack tx_X5_areKeepersLastOfStack 43 (i_psh (.int (1)) 44) := s_iconst dX5_areKeepersLastOfStack_43 rfl
theorem s_X5_areKeepersLastOfStack_44 {X : ev_E} {l : Launch} (hG : ev_Good X) (hl : l.stackTraces = false) : ev_Snd X l ev_ms x_X5_areKeepersLastOfStack tx_X5_areKeepersLastOfStack 44 (i_ir (.boolean)) := s_ireturn rfl dX5_areKeepersLastOfStack_44
theorem sa_X5_areKeepersLastOfStack {X : ev_E} {l : Launch} (hG : ev_Good X) (hl : l.stackTraces = false) : ∀ q ∈ tb_X5_areKeepersLastOfStack X, ev_Snd X l ev_ms x_X5_areKeepersLastOfStack tx_X5_areKeepersLastOfStack q.1 q.2 := by
  intro q hq
  unfold tb_X5_areKeepersLastOfStack at hq
  simp only [List.mem_cons, List.not_mem_nil, or_false] at hq
  rcases hq with rfl | rfl | rfl | rfl | rfl | rfl | rfl | rfl | rfl | rfl | rfl | rfl | rfl | rfl | rfl | rfl | rfl | rfl | rfl | rfl | rfl | rfl | rfl | rfl | rfl | rfl | rfl
  · exact s_X5_areKeepersLastOfStack_0 hG hl
  · exact s_X5_areKeepersLastOfStack_1 hG hl
  · exact s_X5_areKeepersLastOfStack_4 hG hl
  · exact s_X5_areKeepersLastOfStack_5 hG hl
  · exact s_X5_areKeepersLastOfStack_6 hG hl
  · exact s_X5_areKeepersLastOfStack_7 hG hl
  · exact s_X5_areKeepersLastOfStack_8 hG hl
  · exact s_X5_areKeepersLastOfStack_9 hG hl
  · exact s_X5_areKeepersLastOfStack_10 hG hl
  · exact s_X5_areKeepersLastOfStack_11 hG hl
  · exact s_X5_areKeepersLastOfStack_12 hG hl
  · exact s_X5_areKeepersLastOfStack_15 hG hl
  · exact s_X5_areKeepersLastOfStack_16 hG hl
  · exact s_X5_areKeepersLastOfStack_17 hG hl
  · exact s_X5_areKeepersLastOfStack_18 hG hl
  · exact s_X5_areKeepersLastOfStack_20 hG hl
  · exact s_X5_areKeepersLastOfStack_22 hG hl
  · exact s_X5_areKeepersLastOfStack_25 hG hl
  · exact s_X5_areKeepersLastOfStack_26 hG hl
  · exact s_X5_areKeepersLastOfStack_29 hG hl
  · exact s_X5_areKeepersLastOfStack_32 hG hl
  · exact s_X5_areKeepersLastOfStack_35 hG hl
  · exact s_X5_areKeepersLastOfStack_36 hG hl
  · exact s_X5_areKeepersLastOfStack_37 hG hl
  · exact s_X5_areKeepersLastOfStack_40 hG hl
  · exact s_X5_areKeepersLastOfStack_43 hG hl
  · exact s_X5_areKeepersLastOfStack_44 hG hl
def tx_X5_best : ev_X := fun _ _ => some none
noncomputable def tb_X5_best (X : ev_E) : List (Nat × (ev_S → ev_N)) := [(0, i_il 1 1), (1, i_cS 51 1 1 4), (4, i_al 0 5), (5, i_gf X 10 1 8), (8, i_il 1 9), (9, i_cV X 90 1 5 7 12), (12, i_ir (.int))]
theorem s_X5_best_0 {X : ev_E} {l : Launch} (hG : ev_Good X) (hl : l.stackTraces = false) : ev_Snd X l ev_ms x_X5_best tx_X5_best 0 (i_il 1 1) := s_iload_n dX5_best_0 rfl
theorem s_X5_best_1 {X : ev_E} {l : Launch} (hG : ev_Good X) (hl : l.stackTraces = false) : ev_Snd X l ev_ms x_X5_best tx_X5_best 1 (i_cS 51 1 1 4) := s_invokestatic hG (mi := 51) (n := 1) (cal_X5_demandSize (Nat.le_of_ble_eq_true rfl)) w_780 w_781 dX5_best_1
theorem s_X5_best_4 {X : ev_E} {l : Launch} (hG : ev_Good X) (hl : l.stackTraces = false) : ev_Snd X l ev_ms x_X5_best tx_X5_best 4 (i_al 0 5) := s_aload_n dX5_best_4 rfl
theorem s_X5_best_5 {X : ev_E} {l : Launch} (hG : ev_Good X) (hl : l.stackTraces = false) : ev_Snd X l ev_ms x_X5_best tx_X5_best 5 (i_gf X 10 1 8) := s_getfield hG (ci := 10) (r := (RX5, TX5, 7)) rfl cw_10 (k := 1) (Nat.le_of_ble_eq_true rfl) w_218 rfl (Or.inl rfl) dX5_best_5
theorem s_X5_best_8 {X : ev_E} {l : Launch} (hG : ev_Good X) (hl : l.stackTraces = false) : ev_Snd X l ev_ms x_X5_best tx_X5_best 8 (i_il 1 9) := s_iload_n dX5_best_8 rfl
theorem s_X5_best_9 {X : ev_E} {l : Launch} (hG : ev_Good X) (hl : l.stackTraces = false) : ev_Snd X l ev_ms x_X5_best tx_X5_best 9 (i_cV X 90 1 5 7 12) := s_invokevirtual hG (mi := 90) (n := 1) (ci := 5) (r := (RX0, TX0, 6)) rfl (cal_X0_fewestMisses (Nat.le_of_ble_eq_true rfl)) w_626 w_627 w_628 dX5_best_9
theorem s_X5_best_12 {X : ev_E} {l : Launch} (hG : ev_Good X) (hl : l.stackTraces = false) : ev_Snd X l ev_ms x_X5_best tx_X5_best 12 (i_ir (.int)) := s_ireturn rfl dX5_best_12
theorem sa_X5_best {X : ev_E} {l : Launch} (hG : ev_Good X) (hl : l.stackTraces = false) : ∀ q ∈ tb_X5_best X, ev_Snd X l ev_ms x_X5_best tx_X5_best q.1 q.2 := by
  intro q hq
  unfold tb_X5_best at hq
  simp only [List.mem_cons, List.not_mem_nil, or_false] at hq
  rcases hq with rfl | rfl | rfl | rfl | rfl | rfl | rfl
  · exact s_X5_best_0 hG hl
  · exact s_X5_best_1 hG hl
  · exact s_X5_best_4 hG hl
  · exact s_X5_best_5 hG hl
  · exact s_X5_best_8 hG hl
  · exact s_X5_best_9 hG hl
  · exact s_X5_best_12 hG hl
def tx_X5_depth : ev_X := fun _ _ => some none
noncomputable def tb_X5_depth (X : ev_E) : List (Nat × (ev_S → ev_N)) := [(0, i_il 1 1), (1, i_cS 48 1 1 4), (4, i_al 0 5), (5, i_il 1 6), (6, i_cV X 104 1 10 3 9), (9, i_ir (.int))]
theorem s_X5_depth_0 {X : ev_E} {l : Launch} (hG : ev_Good X) (hl : l.stackTraces = false) : ev_Snd X l ev_ms x_X5_depth tx_X5_depth 0 (i_il 1 1) := s_iload_n dX5_depth_0 rfl
theorem s_X5_depth_1 {X : ev_E} {l : Launch} (hG : ev_Good X) (hl : l.stackTraces = false) : ev_Snd X l ev_ms x_X5_depth tx_X5_depth 1 (i_cS 48 1 1 4) := s_invokestatic hG (mi := 48) (n := 1) (cal_X5_demandKey (Nat.le_of_ble_eq_true rfl)) w_796 w_797 dX5_depth_1
theorem s_X5_depth_4 {X : ev_E} {l : Launch} (hG : ev_Good X) (hl : l.stackTraces = false) : ev_Snd X l ev_ms x_X5_depth tx_X5_depth 4 (i_al 0 5) := s_aload_n dX5_depth_4 rfl
theorem s_X5_depth_5 {X : ev_E} {l : Launch} (hG : ev_Good X) (hl : l.stackTraces = false) : ev_Snd X l ev_ms x_X5_depth tx_X5_depth 5 (i_il 1 6) := s_iload_n dX5_depth_5 rfl
theorem s_X5_depth_6 {X : ev_E} {l : Launch} (hG : ev_Good X) (hl : l.stackTraces = false) : ev_Snd X l ev_ms x_X5_depth tx_X5_depth 6 (i_cV X 104 1 10 3 9) := s_invokevirtual hG (mi := 104) (n := 1) (ci := 10) (r := (RX5, TX5, 7)) rfl (cal_X5_depthNow (Nat.le_of_ble_eq_true rfl)) w_1101 w_1103 w_20 dX5_depth_6
theorem s_X5_depth_9 {X : ev_E} {l : Launch} (hG : ev_Good X) (hl : l.stackTraces = false) : ev_Snd X l ev_ms x_X5_depth tx_X5_depth 9 (i_ir (.int)) := s_ireturn rfl dX5_depth_9
theorem sa_X5_depth {X : ev_E} {l : Launch} (hG : ev_Good X) (hl : l.stackTraces = false) : ∀ q ∈ tb_X5_depth X, ev_Snd X l ev_ms x_X5_depth tx_X5_depth q.1 q.2 := by
  intro q hq
  unfold tb_X5_depth at hq
  simp only [List.mem_cons, List.not_mem_nil, or_false] at hq
  rcases hq with rfl | rfl | rfl | rfl | rfl | rfl
  · exact s_X5_depth_0 hG hl
  · exact s_X5_depth_1 hG hl
  · exact s_X5_depth_4 hG hl
  · exact s_X5_depth_5 hG hl
  · exact s_X5_depth_6 hG hl
  · exact s_X5_depth_9 hG hl
def tx_X5_eldest : ev_X := fun _ _ => some none
noncomputable def tb_X5_eldest (X : ev_E) : List (Nat × (ev_S → ev_N)) := [(0, i_al 0 1), (1, i_il 1 2), (2, i_cV X 59 1 10 2 5), (5, i_gf X 8 0 8), (8, i_psh (.int (0)) 9), (9, i_psh (.int (0)) 10), (10, i_cV X 96 2 7 3 13), (13, i_ir (.int))]
theorem s_X5_eldest_0 {X : ev_E} {l : Launch} (hG : ev_Good X) (hl : l.stackTraces = false) : ev_Snd X l ev_ms x_X5_eldest tx_X5_eldest 0 (i_al 0 1) := s_aload_n dX5_eldest_0 rfl
theorem s_X5_eldest_1 {X : ev_E} {l : Launch} (hG : ev_Good X) (hl : l.stackTraces = false) : ev_Snd X l ev_ms x_X5_eldest tx_X5_eldest 1 (i_il 1 2) := s_iload_n dX5_eldest_1 rfl
theorem s_X5_eldest_2 {X : ev_E} {l : Launch} (hG : ev_Good X) (hl : l.stackTraces = false) : ev_Snd X l ev_ms x_X5_eldest tx_X5_eldest 2 (i_cV X 59 1 10 2 5) := s_invokevirtual hG (mi := 59) (n := 1) (ci := 10) (r := (RX5, TX5, 7)) rfl (cal_X5_tableOf (Nat.le_of_ble_eq_true rfl)) w_705 w_707 w_11 dX5_eldest_2
theorem s_X5_eldest_5 {X : ev_E} {l : Launch} (hG : ev_Good X) (hl : l.stackTraces = false) : ev_Snd X l ev_ms x_X5_eldest tx_X5_eldest 5 (i_gf X 8 0 8) := s_getfieldN hG (ci := 8) (r := (RX3, TX3, 2)) rfl cw_8 (k := 0) (Nat.le_of_ble_eq_true rfl) w_189 rfl dX5_eldest_5
theorem s_X5_eldest_8 {X : ev_E} {l : Launch} (hG : ev_Good X) (hl : l.stackTraces = false) : ev_Snd X l ev_ms x_X5_eldest tx_X5_eldest 8 (i_psh (.int (0)) 9) := s_iconst dX5_eldest_8 rfl
theorem s_X5_eldest_9 {X : ev_E} {l : Launch} (hG : ev_Good X) (hl : l.stackTraces = false) : ev_Snd X l ev_ms x_X5_eldest tx_X5_eldest 9 (i_psh (.int (0)) 10) := s_iconst dX5_eldest_9 rfl
theorem s_X5_eldest_10 {X : ev_E} {l : Launch} (hG : ev_Good X) (hl : l.stackTraces = false) : ev_Snd X l ev_ms x_X5_eldest tx_X5_eldest 10 (i_cV X 96 2 7 3 13) := s_invokevirtual hG (mi := 96) (n := 2) (ci := 7) (r := (RX2, TX2, 7)) rfl (cal_X2_told (Nat.le_of_ble_eq_true rfl)) w_737 w_738 w_739 dX5_eldest_10
theorem s_X5_eldest_13 {X : ev_E} {l : Launch} (hG : ev_Good X) (hl : l.stackTraces = false) : ev_Snd X l ev_ms x_X5_eldest tx_X5_eldest 13 (i_ir (.int)) := s_ireturn rfl dX5_eldest_13
theorem sa_X5_eldest {X : ev_E} {l : Launch} (hG : ev_Good X) (hl : l.stackTraces = false) : ∀ q ∈ tb_X5_eldest X, ev_Snd X l ev_ms x_X5_eldest tx_X5_eldest q.1 q.2 := by
  intro q hq
  unfold tb_X5_eldest at hq
  simp only [List.mem_cons, List.not_mem_nil, or_false] at hq
  rcases hq with rfl | rfl | rfl | rfl | rfl | rfl | rfl | rfl
  · exact s_X5_eldest_0 hG hl
  · exact s_X5_eldest_1 hG hl
  · exact s_X5_eldest_2 hG hl
  · exact s_X5_eldest_5 hG hl
  · exact s_X5_eldest_8 hG hl
  · exact s_X5_eldest_9 hG hl
  · exact s_X5_eldest_10 hG hl
  · exact s_X5_eldest_13 hG hl
def tx_X5_hasMore : ev_X := fun _ _ => some none
noncomputable def tb_X5_hasMore (X : ev_E) : List (Nat × (ev_S → ev_N)) := [(0, i_al 0 1), (1, i_il 1 2), (2, i_cV X 59 1 10 2 5), (5, i_gf X 8 1 8), (8, i_cV X 99 0 9 1 11), (11, i_ir (.boolean))]
theorem s_X5_hasMore_0 {X : ev_E} {l : Launch} (hG : ev_Good X) (hl : l.stackTraces = false) : ev_Snd X l ev_ms x_X5_hasMore tx_X5_hasMore 0 (i_al 0 1) := s_aload_n dX5_hasMore_0 rfl
theorem s_X5_hasMore_1 {X : ev_E} {l : Launch} (hG : ev_Good X) (hl : l.stackTraces = false) : ev_Snd X l ev_ms x_X5_hasMore tx_X5_hasMore 1 (i_il 1 2) := s_iload_n dX5_hasMore_1 rfl
theorem s_X5_hasMore_2 {X : ev_E} {l : Launch} (hG : ev_Good X) (hl : l.stackTraces = false) : ev_Snd X l ev_ms x_X5_hasMore tx_X5_hasMore 2 (i_cV X 59 1 10 2 5) := s_invokevirtual hG (mi := 59) (n := 1) (ci := 10) (r := (RX5, TX5, 7)) rfl (cal_X5_tableOf (Nat.le_of_ble_eq_true rfl)) w_705 w_707 w_11 dX5_hasMore_2
theorem s_X5_hasMore_5 {X : ev_E} {l : Launch} (hG : ev_Good X) (hl : l.stackTraces = false) : ev_Snd X l ev_ms x_X5_hasMore tx_X5_hasMore 5 (i_gf X 8 1 8) := s_getfieldN hG (ci := 8) (r := (RX3, TX3, 2)) rfl cw_8 (k := 1) (Nat.le_of_ble_eq_true rfl) w_191 rfl dX5_hasMore_5
theorem s_X5_hasMore_8 {X : ev_E} {l : Launch} (hG : ev_Good X) (hl : l.stackTraces = false) : ev_Snd X l ev_ms x_X5_hasMore tx_X5_hasMore 8 (i_cV X 99 0 9 1 11) := s_invokevirtual hG (mi := 99) (n := 0) (ci := 9) (r := (RX4, TX4, 6)) rfl (cal_X4_isAnyAhead (Nat.le_of_ble_eq_true rfl)) w_749 w_750 w_751 dX5_hasMore_8
theorem s_X5_hasMore_11 {X : ev_E} {l : Launch} (hG : ev_Good X) (hl : l.stackTraces = false) : ev_Snd X l ev_ms x_X5_hasMore tx_X5_hasMore 11 (i_ir (.boolean)) := s_ireturn rfl dX5_hasMore_11
theorem sa_X5_hasMore {X : ev_E} {l : Launch} (hG : ev_Good X) (hl : l.stackTraces = false) : ∀ q ∈ tb_X5_hasMore X, ev_Snd X l ev_ms x_X5_hasMore tx_X5_hasMore q.1 q.2 := by
  intro q hq
  unfold tb_X5_hasMore at hq
  simp only [List.mem_cons, List.not_mem_nil, or_false] at hq
  rcases hq with rfl | rfl | rfl | rfl | rfl | rfl
  · exact s_X5_hasMore_0 hG hl
  · exact s_X5_hasMore_1 hG hl
  · exact s_X5_hasMore_2 hG hl
  · exact s_X5_hasMore_5 hG hl
  · exact s_X5_hasMore_8 hG hl
  · exact s_X5_hasMore_11 hG hl
def tx_X5_hits : ev_X := fun _ _ => some none
noncomputable def tb_X5_hits (X : ev_E) : List (Nat × (ev_S → ev_N)) := [(0, i_al 0 1), (1, i_il 1 2), (2, i_cV X 109 1 10 2 5), (5, i_gf X 6 2 8), (8, i_ir (.int))]
theorem s_X5_hits_0 {X : ev_E} {l : Launch} (hG : ev_Good X) (hl : l.stackTraces = false) : ev_Snd X l ev_ms x_X5_hits tx_X5_hits 0 (i_al 0 1) := s_aload_n dX5_hits_0 rfl
theorem s_X5_hits_1 {X : ev_E} {l : Launch} (hG : ev_Good X) (hl : l.stackTraces = false) : ev_Snd X l ev_ms x_X5_hits tx_X5_hits 1 (i_il 1 2) := s_iload_n dX5_hits_1 rfl
theorem s_X5_hits_2 {X : ev_E} {l : Launch} (hG : ev_Good X) (hl : l.stackTraces = false) : ev_Snd X l ev_ms x_X5_hits tx_X5_hits 2 (i_cV X 109 1 10 2 5) := s_invokevirtual hG (mi := 109) (n := 1) (ci := 10) (r := (RX5, TX5, 7)) rfl (cal_X5_keeperOf (Nat.le_of_ble_eq_true rfl)) w_776 w_778 w_13 dX5_hits_2
theorem s_X5_hits_5 {X : ev_E} {l : Launch} (hG : ev_Good X) (hl : l.stackTraces = false) : ev_Snd X l ev_ms x_X5_hits tx_X5_hits 5 (i_gf X 6 2 8) := s_getfieldN hG (ci := 6) (r := (RX1, TX1, 3)) rfl cw_6 (k := 2) (Nat.le_of_ble_eq_true rfl) w_209 rfl dX5_hits_5
theorem s_X5_hits_8 {X : ev_E} {l : Launch} (hG : ev_Good X) (hl : l.stackTraces = false) : ev_Snd X l ev_ms x_X5_hits tx_X5_hits 8 (i_ir (.int)) := s_ireturn rfl dX5_hits_8
theorem sa_X5_hits {X : ev_E} {l : Launch} (hG : ev_Good X) (hl : l.stackTraces = false) : ∀ q ∈ tb_X5_hits X, ev_Snd X l ev_ms x_X5_hits tx_X5_hits q.1 q.2 := by
  intro q hq
  unfold tb_X5_hits at hq
  simp only [List.mem_cons, List.not_mem_nil, or_false] at hq
  rcases hq with rfl | rfl | rfl | rfl | rfl
  · exact s_X5_hits_0 hG hl
  · exact s_X5_hits_1 hG hl
  · exact s_X5_hits_2 hG hl
  · exact s_X5_hits_5 hG hl
  · exact s_X5_hits_8 hG hl
def tx_X5_init : ev_X := fun pc _ => bif List.elem pc [17, 30, 85, 88, 118] then none else some none
noncomputable def tb_X5_init_c0 (X : ev_E) : List (Nat × (ev_S → ev_N)) := [(0, i_al 0 1), (1, i_oi 4), (4, i_al 0 5), (5, i_psh (.int (4)) 6), (6, i_na 3 .null 9), (9, i_pf 10 0 (.array (.object "Lastasked$Table")) 12), (12, i_al 0 13), (13, i_nw 5 6 [.null, .null, .null, .null, .null, .int 0] 16), (16, i_dup 17), (17, i_cI 31 0 1 20), (20, i_pf 10 1 (.object "Lastasked$Askings") 23), (23, i_al 0 24), (24, i_nw 7 7 [.null, .null, .int 0, .int 0, .int 0, .int 0, .int 0] 27), (27, i_dup 28), (28, i_psh (.int (1)) 29), (29, i_psh (.int (-1)) 30), (30, i_cI 37 2 3 33), (33, i_pf 10 2 (.object "Lastasked$Row") 36), (36, i_al 0 37), (37, i_psh (.int (6)) 39), (39, i_na 4 .null 42), (42, i_pf 10 3 (.array (.object "Lastasked$Keeper")) 45), (45, i_al 0 46), (46, i_psh (.int (6)) 48), (48, i_na 0 (.int 0) 50), (50, i_pf 10 4 (.array (.int)) 53), (53, i_al 0 54), (54, i_psh (.int (0)) 55), (55, i_pf 10 5 (.int) 58), (58, i_al 0 59), (59, i_psh (.int (0)) 60), (60, i_pf 10 6 (.int) 63), (63, i_psh (.int (0)) 64), (64, i_is 1 65), (65, i_il 1 66), (66, i_psh (.int (4)) 67), (67, i_icge 98 70), (70, i_al 0 71), (71, i_gf X 10 0 74), (74, i_il 1 75), (75, i_nw 8 2 [.null, .null] 78), (78, i_dup 79), (79, i_nw 7 7 [.null, .null, .int 0, .int 0, .int 0, .int 0, .int 0] 82), (82, i_dup 83), (83, i_psh (.int (0)) 84), (84, i_psh (.int (-1)) 85), (85, i_cI 37 2 3 88), (88, i_cI 97 1 2 91), (91, i_aast 3 8 92), (92, i_inc 1 (1) 95), (95, i_goto 65), (98, i_psh (.int (0)) 99), (99, i_is 1 100), (100, i_il 1 101), (101, i_psh (.int (6)) 103), (103, i_icge 128 106), (106, i_al 0 107), (107, i_gf X 10 3 110), (110, i_il 1 111), (111, i_nw 6 3 [.null, .int 0, .int 0] 114)]
noncomputable def tb_X5_init_c1 (X : ev_E) : List (Nat × (ev_S → ev_N)) := [(114, i_dup 115), (115, i_il 1 116), (116, i_psh (.int (1)) 117), (117, i_ii (fun a b => a + b) 118), (118, i_cI 91 1 2 121), (121, i_aast 4 6 122), (122, i_inc 1 (1) 125), (125, i_goto 100), (128, i_vr)]
noncomputable def tb_X5_init (X : ev_E) : List (Nat × (ev_S → ev_N)) := tb_X5_init_c0 X ++ (tb_X5_init_c1 X)
theorem s_X5_init_0 {X : ev_E} {l : Launch} (hG : ev_Good X) (hl : l.stackTraces = false) : ev_Snd X l ev_ms x_X5_init tx_X5_init 0 (i_al 0 1) := s_aload_n dX5_init_0 rfl
theorem s_X5_init_1 {X : ev_E} {l : Launch} (hG : ev_Good X) (hl : l.stackTraces = false) : ev_Snd X l ev_ms x_X5_init tx_X5_init 1 (i_oi 4) := s_objinit hG w_87 w_88 w_89 dX5_init_1
theorem s_X5_init_4 {X : ev_E} {l : Launch} (hG : ev_Good X) (hl : l.stackTraces = false) : ev_Snd X l ev_ms x_X5_init tx_X5_init 4 (i_al 0 5) := s_aload_n dX5_init_4 rfl
theorem s_X5_init_5 {X : ev_E} {l : Launch} (hG : ev_Good X) (hl : l.stackTraces = false) : ev_Snd X l ev_ms x_X5_init tx_X5_init 5 (i_psh (.int (4)) 6) := s_iconst dX5_init_5 rfl
theorem s_X5_init_6 {X : ev_E} {l : Launch} (hG : ev_Good X) (hl : l.stackTraces = false) : ev_Snd X l ev_ms x_X5_init tx_X5_init 6 (i_na 3 .null 9) := s_anewarray hG (kd := 3) (Nat.le_of_ble_eq_true rfl) rfl dX5_init_6 w_90 rfl w_91
theorem s_X5_init_9 {X : ev_E} {l : Launch} (hG : ev_Good X) (hl : l.stackTraces = false) : ev_Snd X l ev_ms x_X5_init tx_X5_init 9 (i_pf 10 0 (.array (.object "Lastasked$Table")) 12) := s_putfieldF hG (ci := 10) (r := (RX5, TX5, 7)) rfl cw_10 ap_10 (k := 0) (Nat.le_of_ble_eq_true rfl) rfl rfl rfl (by decide +kernel) w_217 rfl dX5_init_9
theorem s_X5_init_12 {X : ev_E} {l : Launch} (hG : ev_Good X) (hl : l.stackTraces = false) : ev_Snd X l ev_ms x_X5_init tx_X5_init 12 (i_al 0 13) := s_aload_n dX5_init_12 rfl
theorem s_X5_init_13 {X : ev_E} {l : Launch} (hG : ev_Good X) (hl : l.stackTraces = false) : ev_Snd X l ev_ms x_X5_init tx_X5_init 13 (i_nw 5 6 [.null, .null, .null, .null, .null, .int 0] 16) := s_new hG (ci := 5) (r := (RX0, TX0, 6)) rfl cw_5 tyX0 tyX0_ok (fun j hj => nw_5 j hj) w_92 rfl w_93 rfl w_50 rfl dX5_init_13
theorem s_X5_init_16 {X : ev_E} {l : Launch} (hG : ev_Good X) (hl : l.stackTraces = false) : ev_Snd X l ev_ms x_X5_init tx_X5_init 16 (i_dup 17) := s_dup dX5_init_16
theorem s_X5_init_17 {X : ev_E} {l : Launch} (hG : ev_Good X) (hl : l.stackTraces = false) : ev_Snd X l ev_ms x_X5_init tx_X5_init 17 (i_cI 31 0 1 20) := s_invokeinitN hG (mi := 31) (n := 0) (cal_X0_init (Nat.le_of_ble_eq_true rfl)) rfl w_94 w_95 rfl (fun _ => rfl) dX5_init_17
theorem s_X5_init_20 {X : ev_E} {l : Launch} (hG : ev_Good X) (hl : l.stackTraces = false) : ev_Snd X l ev_ms x_X5_init tx_X5_init 20 (i_pf 10 1 (.object "Lastasked$Askings") 23) := s_putfieldF hG (ci := 10) (r := (RX5, TX5, 7)) rfl cw_10 ap_10 (k := 1) (Nat.le_of_ble_eq_true rfl) rfl rfl rfl (by decide +kernel) w_218 rfl dX5_init_20
theorem s_X5_init_23 {X : ev_E} {l : Launch} (hG : ev_Good X) (hl : l.stackTraces = false) : ev_Snd X l ev_ms x_X5_init tx_X5_init 23 (i_al 0 24) := s_aload_n dX5_init_23 rfl
theorem s_X5_init_24 {X : ev_E} {l : Launch} (hG : ev_Good X) (hl : l.stackTraces = false) : ev_Snd X l ev_ms x_X5_init tx_X5_init 24 (i_nw 7 7 [.null, .null, .int 0, .int 0, .int 0, .int 0, .int 0] 27) := s_new hG (ci := 7) (r := (RX2, TX2, 7)) rfl cw_7 tyX2 tyX2_ok (fun j hj => nw_7 j hj) w_121 rfl w_122 rfl w_51 rfl dX5_init_24
theorem s_X5_init_27 {X : ev_E} {l : Launch} (hG : ev_Good X) (hl : l.stackTraces = false) : ev_Snd X l ev_ms x_X5_init tx_X5_init 27 (i_dup 28) := s_dup dX5_init_27
theorem s_X5_init_28 {X : ev_E} {l : Launch} (hG : ev_Good X) (hl : l.stackTraces = false) : ev_Snd X l ev_ms x_X5_init tx_X5_init 28 (i_psh (.int (1)) 29) := s_iconst dX5_init_28 rfl
theorem s_X5_init_29 {X : ev_E} {l : Launch} (hG : ev_Good X) (hl : l.stackTraces = false) : ev_Snd X l ev_ms x_X5_init tx_X5_init 29 (i_psh (.int (-1)) 30) := s_iconst dX5_init_29 rfl
theorem s_X5_init_30 {X : ev_E} {l : Launch} (hG : ev_Good X) (hl : l.stackTraces = false) : ev_Snd X l ev_ms x_X5_init tx_X5_init 30 (i_cI 37 2 3 33) := s_invokeinit hG (mi := 37) (n := 2) (cal_X2_init (Nat.le_of_ble_eq_true rfl)) rfl w_123 w_124 rfl (fun _ => rfl) dX5_init_30
theorem s_X5_init_33 {X : ev_E} {l : Launch} (hG : ev_Good X) (hl : l.stackTraces = false) : ev_Snd X l ev_ms x_X5_init tx_X5_init 33 (i_pf 10 2 (.object "Lastasked$Row") 36) := s_putfieldF hG (ci := 10) (r := (RX5, TX5, 7)) rfl cw_10 ap_10 (k := 2) (Nat.le_of_ble_eq_true rfl) rfl rfl rfl (by decide +kernel) w_219 rfl dX5_init_33
theorem s_X5_init_36 {X : ev_E} {l : Launch} (hG : ev_Good X) (hl : l.stackTraces = false) : ev_Snd X l ev_ms x_X5_init tx_X5_init 36 (i_al 0 37) := s_aload_n dX5_init_36 rfl
theorem s_X5_init_37 {X : ev_E} {l : Launch} (hG : ev_Good X) (hl : l.stackTraces = false) : ev_Snd X l ev_ms x_X5_init tx_X5_init 37 (i_psh (.int (6)) 39) := s_bipush dX5_init_37 rfl
theorem s_X5_init_39 {X : ev_E} {l : Launch} (hG : ev_Good X) (hl : l.stackTraces = false) : ev_Snd X l ev_ms x_X5_init tx_X5_init 39 (i_na 4 .null 42) := s_anewarray hG (kd := 4) (Nat.le_of_ble_eq_true rfl) rfl dX5_init_39 w_156 rfl w_157
theorem s_X5_init_42 {X : ev_E} {l : Launch} (hG : ev_Good X) (hl : l.stackTraces = false) : ev_Snd X l ev_ms x_X5_init tx_X5_init 42 (i_pf 10 3 (.array (.object "Lastasked$Keeper")) 45) := s_putfieldF hG (ci := 10) (r := (RX5, TX5, 7)) rfl cw_10 ap_10 (k := 3) (Nat.le_of_ble_eq_true rfl) rfl rfl rfl (by decide +kernel) w_220 rfl dX5_init_42
theorem s_X5_init_45 {X : ev_E} {l : Launch} (hG : ev_Good X) (hl : l.stackTraces = false) : ev_Snd X l ev_ms x_X5_init tx_X5_init 45 (i_al 0 46) := s_aload_n dX5_init_45 rfl
theorem s_X5_init_46 {X : ev_E} {l : Launch} (hG : ev_Good X) (hl : l.stackTraces = false) : ev_Snd X l ev_ms x_X5_init tx_X5_init 46 (i_psh (.int (6)) 48) := s_bipush dX5_init_46 rfl
theorem s_X5_init_48 {X : ev_E} {l : Launch} (hG : ev_Good X) (hl : l.stackTraces = false) : ev_Snd X l ev_ms x_X5_init tx_X5_init 48 (i_na 0 (.int 0) 50) := s_newarray hG (kd := 0) (at' := .int) (Nat.le_of_ble_eq_true rfl) rfl (by decide) rfl dX5_init_48 w_120
theorem s_X5_init_50 {X : ev_E} {l : Launch} (hG : ev_Good X) (hl : l.stackTraces = false) : ev_Snd X l ev_ms x_X5_init tx_X5_init 50 (i_pf 10 4 (.array (.int)) 53) := s_putfieldF hG (ci := 10) (r := (RX5, TX5, 7)) rfl cw_10 ap_10 (k := 4) (Nat.le_of_ble_eq_true rfl) rfl rfl rfl (by decide +kernel) w_221 rfl dX5_init_50
theorem s_X5_init_53 {X : ev_E} {l : Launch} (hG : ev_Good X) (hl : l.stackTraces = false) : ev_Snd X l ev_ms x_X5_init tx_X5_init 53 (i_al 0 54) := s_aload_n dX5_init_53 rfl
theorem s_X5_init_54 {X : ev_E} {l : Launch} (hG : ev_Good X) (hl : l.stackTraces = false) : ev_Snd X l ev_ms x_X5_init tx_X5_init 54 (i_psh (.int (0)) 55) := s_iconst dX5_init_54 rfl
theorem s_X5_init_55 {X : ev_E} {l : Launch} (hG : ev_Good X) (hl : l.stackTraces = false) : ev_Snd X l ev_ms x_X5_init tx_X5_init 55 (i_pf 10 5 (.int) 58) := s_putfield hG (ci := 10) (r := (RX5, TX5, 7)) rfl cw_10 ap_10 (k := 5) (Nat.le_of_ble_eq_true rfl) rfl (by decide +kernel) w_222 rfl (Or.inl rfl) dX5_init_55
theorem s_X5_init_58 {X : ev_E} {l : Launch} (hG : ev_Good X) (hl : l.stackTraces = false) : ev_Snd X l ev_ms x_X5_init tx_X5_init 58 (i_al 0 59) := s_aload_n dX5_init_58 rfl
theorem s_X5_init_59 {X : ev_E} {l : Launch} (hG : ev_Good X) (hl : l.stackTraces = false) : ev_Snd X l ev_ms x_X5_init tx_X5_init 59 (i_psh (.int (0)) 60) := s_iconst dX5_init_59 rfl
theorem s_X5_init_60 {X : ev_E} {l : Launch} (hG : ev_Good X) (hl : l.stackTraces = false) : ev_Snd X l ev_ms x_X5_init tx_X5_init 60 (i_pf 10 6 (.int) 63) := s_putfield hG (ci := 10) (r := (RX5, TX5, 7)) rfl cw_10 ap_10 (k := 6) (Nat.le_of_ble_eq_true rfl) rfl (by decide +kernel) w_223 rfl (Or.inl rfl) dX5_init_60
theorem s_X5_init_63 {X : ev_E} {l : Launch} (hG : ev_Good X) (hl : l.stackTraces = false) : ev_Snd X l ev_ms x_X5_init tx_X5_init 63 (i_psh (.int (0)) 64) := s_iconst dX5_init_63 rfl
theorem s_X5_init_64 {X : ev_E} {l : Launch} (hG : ev_Good X) (hl : l.stackTraces = false) : ev_Snd X l ev_ms x_X5_init tx_X5_init 64 (i_is 1 65) := s_istore_n dX5_init_64 rfl (Nat.le_of_ble_eq_true rfl)
theorem s_X5_init_65 {X : ev_E} {l : Launch} (hG : ev_Good X) (hl : l.stackTraces = false) : ev_Snd X l ev_ms x_X5_init tx_X5_init 65 (i_il 1 66) := s_iload_n dX5_init_65 rfl
theorem s_X5_init_66 {X : ev_E} {l : Launch} (hG : ev_Good X) (hl : l.stackTraces = false) : ev_Snd X l ev_ms x_X5_init tx_X5_init 66 (i_psh (.int (4)) 67) := s_iconst dX5_init_66 rfl
theorem s_X5_init_67 {X : ev_E} {l : Launch} (hG : ev_Good X) (hl : l.stackTraces = false) : ev_Snd X l ev_ms x_X5_init tx_X5_init 67 (i_icge 98 70) := s_icge dX5_init_67 rfl
theorem s_X5_init_70 {X : ev_E} {l : Launch} (hG : ev_Good X) (hl : l.stackTraces = false) : ev_Snd X l ev_ms x_X5_init tx_X5_init 70 (i_al 0 71) := s_aload_n dX5_init_70 rfl
theorem s_X5_init_71 {X : ev_E} {l : Launch} (hG : ev_Good X) (hl : l.stackTraces = false) : ev_Snd X l ev_ms x_X5_init tx_X5_init 71 (i_gf X 10 0 74) := s_getfield hG (ci := 10) (r := (RX5, TX5, 7)) rfl cw_10 (k := 0) (Nat.le_of_ble_eq_true rfl) w_217 rfl (Or.inl rfl) dX5_init_71
theorem s_X5_init_74 {X : ev_E} {l : Launch} (hG : ev_Good X) (hl : l.stackTraces = false) : ev_Snd X l ev_ms x_X5_init tx_X5_init 74 (i_il 1 75) := s_iload_n dX5_init_74 rfl
theorem s_X5_init_75 {X : ev_E} {l : Launch} (hG : ev_Good X) (hl : l.stackTraces = false) : ev_Snd X l ev_ms x_X5_init tx_X5_init 75 (i_nw 8 2 [.null, .null] 78) := s_new hG (ci := 8) (r := (RX3, TX3, 2)) rfl cw_8 tyX3 tyX3_ok (fun j hj => nw_8 j hj) w_90 rfl w_158 rfl w_52 rfl dX5_init_75
theorem s_X5_init_78 {X : ev_E} {l : Launch} (hG : ev_Good X) (hl : l.stackTraces = false) : ev_Snd X l ev_ms x_X5_init tx_X5_init 78 (i_dup 79) := s_dup dX5_init_78
theorem s_X5_init_79 {X : ev_E} {l : Launch} (hG : ev_Good X) (hl : l.stackTraces = false) : ev_Snd X l ev_ms x_X5_init tx_X5_init 79 (i_nw 7 7 [.null, .null, .int 0, .int 0, .int 0, .int 0, .int 0] 82) := s_new hG (ci := 7) (r := (RX2, TX2, 7)) rfl cw_7 tyX2 tyX2_ok (fun j hj => nw_7 j hj) w_121 rfl w_122 rfl w_51 rfl dX5_init_79
theorem s_X5_init_82 {X : ev_E} {l : Launch} (hG : ev_Good X) (hl : l.stackTraces = false) : ev_Snd X l ev_ms x_X5_init tx_X5_init 82 (i_dup 83) := s_dup dX5_init_82
theorem s_X5_init_83 {X : ev_E} {l : Launch} (hG : ev_Good X) (hl : l.stackTraces = false) : ev_Snd X l ev_ms x_X5_init tx_X5_init 83 (i_psh (.int (0)) 84) := s_iconst dX5_init_83 rfl
theorem s_X5_init_84 {X : ev_E} {l : Launch} (hG : ev_Good X) (hl : l.stackTraces = false) : ev_Snd X l ev_ms x_X5_init tx_X5_init 84 (i_psh (.int (-1)) 85) := s_iconst dX5_init_84 rfl
theorem s_X5_init_85 {X : ev_E} {l : Launch} (hG : ev_Good X) (hl : l.stackTraces = false) : ev_Snd X l ev_ms x_X5_init tx_X5_init 85 (i_cI 37 2 3 88) := s_invokeinit hG (mi := 37) (n := 2) (cal_X2_init (Nat.le_of_ble_eq_true rfl)) rfl w_123 w_124 rfl (fun _ => rfl) dX5_init_85
theorem s_X5_init_88 {X : ev_E} {l : Launch} (hG : ev_Good X) (hl : l.stackTraces = false) : ev_Snd X l ev_ms x_X5_init tx_X5_init 88 (i_cI 97 1 2 91) := s_invokeinit hG (mi := 97) (n := 1) (cal_X3_init (Nat.le_of_ble_eq_true rfl)) rfl w_159 w_160 rfl (fun _ => rfl) dX5_init_88
theorem s_X5_init_91 {X : ev_E} {l : Launch} (hG : ev_Good X) (hl : l.stackTraces = false) : ev_Snd X l ev_ms x_X5_init tx_X5_init 91 (i_aast 3 8 92) := s_aastore hG (kd := 3) (ci := 8) (r := (RX3, TX3, 2)) (Nat.le_of_ble_eq_true rfl) rfl rfl dX5_init_91
theorem s_X5_init_92 {X : ev_E} {l : Launch} (hG : ev_Good X) (hl : l.stackTraces = false) : ev_Snd X l ev_ms x_X5_init tx_X5_init 92 (i_inc 1 (1) 95) := s_iinc dX5_init_92 rfl (Nat.le_of_ble_eq_true rfl)
theorem s_X5_init_95 {X : ev_E} {l : Launch} (hG : ev_Good X) (hl : l.stackTraces = false) : ev_Snd X l ev_ms x_X5_init tx_X5_init 95 (i_goto 65) := s_goto dX5_init_95 rfl
theorem s_X5_init_98 {X : ev_E} {l : Launch} (hG : ev_Good X) (hl : l.stackTraces = false) : ev_Snd X l ev_ms x_X5_init tx_X5_init 98 (i_psh (.int (0)) 99) := s_iconst dX5_init_98 rfl
theorem s_X5_init_99 {X : ev_E} {l : Launch} (hG : ev_Good X) (hl : l.stackTraces = false) : ev_Snd X l ev_ms x_X5_init tx_X5_init 99 (i_is 1 100) := s_istore_n dX5_init_99 rfl (Nat.le_of_ble_eq_true rfl)
theorem s_X5_init_100 {X : ev_E} {l : Launch} (hG : ev_Good X) (hl : l.stackTraces = false) : ev_Snd X l ev_ms x_X5_init tx_X5_init 100 (i_il 1 101) := s_iload_n dX5_init_100 rfl
theorem s_X5_init_101 {X : ev_E} {l : Launch} (hG : ev_Good X) (hl : l.stackTraces = false) : ev_Snd X l ev_ms x_X5_init tx_X5_init 101 (i_psh (.int (6)) 103) := s_bipush dX5_init_101 rfl
theorem s_X5_init_103 {X : ev_E} {l : Launch} (hG : ev_Good X) (hl : l.stackTraces = false) : ev_Snd X l ev_ms x_X5_init tx_X5_init 103 (i_icge 128 106) := s_icge dX5_init_103 rfl
theorem s_X5_init_106 {X : ev_E} {l : Launch} (hG : ev_Good X) (hl : l.stackTraces = false) : ev_Snd X l ev_ms x_X5_init tx_X5_init 106 (i_al 0 107) := s_aload_n dX5_init_106 rfl
theorem s_X5_init_107 {X : ev_E} {l : Launch} (hG : ev_Good X) (hl : l.stackTraces = false) : ev_Snd X l ev_ms x_X5_init tx_X5_init 107 (i_gf X 10 3 110) := s_getfield hG (ci := 10) (r := (RX5, TX5, 7)) rfl cw_10 (k := 3) (Nat.le_of_ble_eq_true rfl) w_220 rfl (Or.inl rfl) dX5_init_107
theorem s_X5_init_110 {X : ev_E} {l : Launch} (hG : ev_Good X) (hl : l.stackTraces = false) : ev_Snd X l ev_ms x_X5_init tx_X5_init 110 (i_il 1 111) := s_iload_n dX5_init_110 rfl
theorem s_X5_init_111 {X : ev_E} {l : Launch} (hG : ev_Good X) (hl : l.stackTraces = false) : ev_Snd X l ev_ms x_X5_init tx_X5_init 111 (i_nw 6 3 [.null, .int 0, .int 0] 114) := s_new hG (ci := 6) (r := (RX1, TX1, 3)) rfl cw_6 tyX1 tyX1_ok (fun j hj => nw_6 j hj) w_156 rfl w_197 rfl w_54 rfl dX5_init_111
theorem s_X5_init_114 {X : ev_E} {l : Launch} (hG : ev_Good X) (hl : l.stackTraces = false) : ev_Snd X l ev_ms x_X5_init tx_X5_init 114 (i_dup 115) := s_dup dX5_init_114
theorem s_X5_init_115 {X : ev_E} {l : Launch} (hG : ev_Good X) (hl : l.stackTraces = false) : ev_Snd X l ev_ms x_X5_init tx_X5_init 115 (i_il 1 116) := s_iload_n dX5_init_115 rfl
theorem s_X5_init_116 {X : ev_E} {l : Launch} (hG : ev_Good X) (hl : l.stackTraces = false) : ev_Snd X l ev_ms x_X5_init tx_X5_init 116 (i_psh (.int (1)) 117) := s_iconst dX5_init_116 rfl
theorem s_X5_init_117 {X : ev_E} {l : Launch} (hG : ev_Good X) (hl : l.stackTraces = false) : ev_Snd X l ev_ms x_X5_init tx_X5_init 117 (i_ii (fun a b => a + b) 118) := s_iadd dX5_init_117
theorem s_X5_init_118 {X : ev_E} {l : Launch} (hG : ev_Good X) (hl : l.stackTraces = false) : ev_Snd X l ev_ms x_X5_init tx_X5_init 118 (i_cI 91 1 2 121) := s_invokeinit hG (mi := 91) (n := 1) (cal_X1_init (Nat.le_of_ble_eq_true rfl)) rfl w_198 w_199 rfl (fun _ => rfl) dX5_init_118
theorem s_X5_init_121 {X : ev_E} {l : Launch} (hG : ev_Good X) (hl : l.stackTraces = false) : ev_Snd X l ev_ms x_X5_init tx_X5_init 121 (i_aast 4 6 122) := s_aastore hG (kd := 4) (ci := 6) (r := (RX1, TX1, 3)) (Nat.le_of_ble_eq_true rfl) rfl rfl dX5_init_121
theorem s_X5_init_122 {X : ev_E} {l : Launch} (hG : ev_Good X) (hl : l.stackTraces = false) : ev_Snd X l ev_ms x_X5_init tx_X5_init 122 (i_inc 1 (1) 125) := s_iinc dX5_init_122 rfl (Nat.le_of_ble_eq_true rfl)
theorem s_X5_init_125 {X : ev_E} {l : Launch} (hG : ev_Good X) (hl : l.stackTraces = false) : ev_Snd X l ev_ms x_X5_init tx_X5_init 125 (i_goto 100) := s_goto dX5_init_125 rfl
theorem s_X5_init_128 {X : ev_E} {l : Launch} (hG : ev_Good X) (hl : l.stackTraces = false) : ev_Snd X l ev_ms x_X5_init tx_X5_init 128 (i_vr) := s_return rfl dX5_init_128
theorem sa_X5_init_c0 {X : ev_E} {l : Launch} (hG : ev_Good X) (hl : l.stackTraces = false) : ∀ q ∈ tb_X5_init_c0 X, ev_Snd X l ev_ms x_X5_init tx_X5_init q.1 q.2 := by
  intro q hq
  unfold tb_X5_init_c0 at hq
  simp only [List.mem_cons, List.not_mem_nil, or_false] at hq
  rcases hq with rfl | rfl | rfl | rfl | rfl | rfl | rfl | rfl | rfl | rfl | rfl | rfl | rfl | rfl | rfl | rfl | rfl | rfl | rfl | rfl | rfl | rfl | rfl | rfl | rfl | rfl | rfl | rfl | rfl | rfl | rfl | rfl | rfl | rfl | rfl | rfl | rfl | rfl | rfl | rfl | rfl | rfl | rfl | rfl | rfl | rfl | rfl | rfl | rfl | rfl | rfl | rfl | rfl | rfl | rfl | rfl | rfl | rfl | rfl | rfl
  · exact s_X5_init_0 hG hl
  · exact s_X5_init_1 hG hl
  · exact s_X5_init_4 hG hl
  · exact s_X5_init_5 hG hl
  · exact s_X5_init_6 hG hl
  · exact s_X5_init_9 hG hl
  · exact s_X5_init_12 hG hl
  · exact s_X5_init_13 hG hl
  · exact s_X5_init_16 hG hl
  · exact s_X5_init_17 hG hl
  · exact s_X5_init_20 hG hl
  · exact s_X5_init_23 hG hl
  · exact s_X5_init_24 hG hl
  · exact s_X5_init_27 hG hl
  · exact s_X5_init_28 hG hl
  · exact s_X5_init_29 hG hl
  · exact s_X5_init_30 hG hl
  · exact s_X5_init_33 hG hl
  · exact s_X5_init_36 hG hl
  · exact s_X5_init_37 hG hl
  · exact s_X5_init_39 hG hl
  · exact s_X5_init_42 hG hl
  · exact s_X5_init_45 hG hl
  · exact s_X5_init_46 hG hl
  · exact s_X5_init_48 hG hl
  · exact s_X5_init_50 hG hl
  · exact s_X5_init_53 hG hl
  · exact s_X5_init_54 hG hl
  · exact s_X5_init_55 hG hl
  · exact s_X5_init_58 hG hl
  · exact s_X5_init_59 hG hl
  · exact s_X5_init_60 hG hl
  · exact s_X5_init_63 hG hl
  · exact s_X5_init_64 hG hl
  · exact s_X5_init_65 hG hl
  · exact s_X5_init_66 hG hl
  · exact s_X5_init_67 hG hl
  · exact s_X5_init_70 hG hl
  · exact s_X5_init_71 hG hl
  · exact s_X5_init_74 hG hl
  · exact s_X5_init_75 hG hl
  · exact s_X5_init_78 hG hl
  · exact s_X5_init_79 hG hl
  · exact s_X5_init_82 hG hl
  · exact s_X5_init_83 hG hl
  · exact s_X5_init_84 hG hl
  · exact s_X5_init_85 hG hl
  · exact s_X5_init_88 hG hl
  · exact s_X5_init_91 hG hl
  · exact s_X5_init_92 hG hl
  · exact s_X5_init_95 hG hl
  · exact s_X5_init_98 hG hl
  · exact s_X5_init_99 hG hl
  · exact s_X5_init_100 hG hl
  · exact s_X5_init_101 hG hl
  · exact s_X5_init_103 hG hl
  · exact s_X5_init_106 hG hl
  · exact s_X5_init_107 hG hl
  · exact s_X5_init_110 hG hl
  · exact s_X5_init_111 hG hl
theorem sa_X5_init_c1 {X : ev_E} {l : Launch} (hG : ev_Good X) (hl : l.stackTraces = false) : ∀ q ∈ tb_X5_init_c1 X, ev_Snd X l ev_ms x_X5_init tx_X5_init q.1 q.2 := by
  intro q hq
  unfold tb_X5_init_c1 at hq
  simp only [List.mem_cons, List.not_mem_nil, or_false] at hq
  rcases hq with rfl | rfl | rfl | rfl | rfl | rfl | rfl | rfl | rfl
  · exact s_X5_init_114 hG hl
  · exact s_X5_init_115 hG hl
  · exact s_X5_init_116 hG hl
  · exact s_X5_init_117 hG hl
  · exact s_X5_init_118 hG hl
  · exact s_X5_init_121 hG hl
  · exact s_X5_init_122 hG hl
  · exact s_X5_init_125 hG hl
  · exact s_X5_init_128 hG hl
theorem sa_X5_init {X : ev_E} {l : Launch} (hG : ev_Good X) (hl : l.stackTraces = false) : ∀ q ∈ tb_X5_init X, ev_Snd X l ev_ms x_X5_init tx_X5_init q.1 q.2 := List.forall_mem_append.mpr ⟨sa_X5_init_c0 hG hl, sa_X5_init_c1 hG hl⟩
def tx_X5_keeps : ev_X := fun _ _ => some none
noncomputable def tb_X5_keeps (X : ev_E) : List (Nat × (ev_S → ev_N)) := [(0, i_al 0 1), (1, i_il 1 2), (2, i_cV X 109 1 10 2 5), (5, i_as 3 6), (6, i_il 2 7), (7, i_cS 48 1 1 10), (10, i_al 3 11), (11, i_gf X 6 0 14), (14, i_il 2 15), (15, i_cV X 36 1 7 3 18), (18, i_psh (.int (-1)) 19), (19, i_iceq 26 22), (22, i_psh (.int (1)) 23), (23, i_goto 27), (26, i_psh (.int (0)) 27), (27, i_ir (.boolean))]
theorem s_X5_keeps_0 {X : ev_E} {l : Launch} (hG : ev_Good X) (hl : l.stackTraces = false) : ev_Snd X l ev_ms x_X5_keeps tx_X5_keeps 0 (i_al 0 1) := s_aload_n dX5_keeps_0 rfl
theorem s_X5_keeps_1 {X : ev_E} {l : Launch} (hG : ev_Good X) (hl : l.stackTraces = false) : ev_Snd X l ev_ms x_X5_keeps tx_X5_keeps 1 (i_il 1 2) := s_iload_n dX5_keeps_1 rfl
theorem s_X5_keeps_2 {X : ev_E} {l : Launch} (hG : ev_Good X) (hl : l.stackTraces = false) : ev_Snd X l ev_ms x_X5_keeps tx_X5_keeps 2 (i_cV X 109 1 10 2 5) := s_invokevirtual hG (mi := 109) (n := 1) (ci := 10) (r := (RX5, TX5, 7)) rfl (cal_X5_keeperOf (Nat.le_of_ble_eq_true rfl)) w_776 w_778 w_13 dX5_keeps_2
theorem s_X5_keeps_5 {X : ev_E} {l : Launch} (hG : ev_Good X) (hl : l.stackTraces = false) : ev_Snd X l ev_ms x_X5_keeps tx_X5_keeps 5 (i_as 3 6) := s_astore_n dX5_keeps_5 rfl (Nat.le_of_ble_eq_true rfl)
theorem s_X5_keeps_6 {X : ev_E} {l : Launch} (hG : ev_Good X) (hl : l.stackTraces = false) : ev_Snd X l ev_ms x_X5_keeps tx_X5_keeps 6 (i_il 2 7) := s_iload_n dX5_keeps_6 rfl
theorem s_X5_keeps_7 {X : ev_E} {l : Launch} (hG : ev_Good X) (hl : l.stackTraces = false) : ev_Snd X l ev_ms x_X5_keeps tx_X5_keeps 7 (i_cS 48 1 1 10) := s_invokestatic hG (mi := 48) (n := 1) (cal_X5_demandKey (Nat.le_of_ble_eq_true rfl)) w_796 w_797 dX5_keeps_7
theorem s_X5_keeps_10 {X : ev_E} {l : Launch} (hG : ev_Good X) (hl : l.stackTraces = false) : ev_Snd X l ev_ms x_X5_keeps tx_X5_keeps 10 (i_al 3 11) := s_aload_n dX5_keeps_10 rfl
theorem s_X5_keeps_11 {X : ev_E} {l : Launch} (hG : ev_Good X) (hl : l.stackTraces = false) : ev_Snd X l ev_ms x_X5_keeps tx_X5_keeps 11 (i_gf X 6 0 14) := s_getfieldN hG (ci := 6) (r := (RX1, TX1, 3)) rfl cw_6 (k := 0) (Nat.le_of_ble_eq_true rfl) w_205 rfl dX5_keeps_11
theorem s_X5_keeps_14 {X : ev_E} {l : Launch} (hG : ev_Good X) (hl : l.stackTraces = false) : ev_Snd X l ev_ms x_X5_keeps tx_X5_keeps 14 (i_il 2 15) := s_iload_n dX5_keeps_14 rfl
theorem s_X5_keeps_15 {X : ev_E} {l : Launch} (hG : ev_Good X) (hl : l.stackTraces = false) : ev_Snd X l ev_ms x_X5_keeps tx_X5_keeps 15 (i_cV X 36 1 7 3 18) := s_invokevirtual hG (mi := 36) (n := 1) (ci := 7) (r := (RX2, TX2, 7)) rfl (cal_X2_find (Nat.le_of_ble_eq_true rfl)) w_800 w_801 w_802 dX5_keeps_15
theorem s_X5_keeps_18 {X : ev_E} {l : Launch} (hG : ev_Good X) (hl : l.stackTraces = false) : ev_Snd X l ev_ms x_X5_keeps tx_X5_keeps 18 (i_psh (.int (-1)) 19) := s_iconst dX5_keeps_18 rfl
theorem s_X5_keeps_19 {X : ev_E} {l : Launch} (hG : ev_Good X) (hl : l.stackTraces = false) : ev_Snd X l ev_ms x_X5_keeps tx_X5_keeps 19 (i_iceq 26 22) := s_iceq dX5_keeps_19 rfl
theorem s_X5_keeps_22 {X : ev_E} {l : Launch} (hG : ev_Good X) (hl : l.stackTraces = false) : ev_Snd X l ev_ms x_X5_keeps tx_X5_keeps 22 (i_psh (.int (1)) 23) := s_iconst dX5_keeps_22 rfl
theorem s_X5_keeps_23 {X : ev_E} {l : Launch} (hG : ev_Good X) (hl : l.stackTraces = false) : ev_Snd X l ev_ms x_X5_keeps tx_X5_keeps 23 (i_goto 27) := s_goto dX5_keeps_23 rfl
theorem s_X5_keeps_26 {X : ev_E} {l : Launch} (hG : ev_Good X) (hl : l.stackTraces = false) : ev_Snd X l ev_ms x_X5_keeps tx_X5_keeps 26 (i_psh (.int (0)) 27) := s_iconst dX5_keeps_26 rfl
theorem s_X5_keeps_27 {X : ev_E} {l : Launch} (hG : ev_Good X) (hl : l.stackTraces = false) : ev_Snd X l ev_ms x_X5_keeps tx_X5_keeps 27 (i_ir (.boolean)) := s_ireturn rfl dX5_keeps_27
theorem sa_X5_keeps {X : ev_E} {l : Launch} (hG : ev_Good X) (hl : l.stackTraces = false) : ∀ q ∈ tb_X5_keeps X, ev_Snd X l ev_ms x_X5_keeps tx_X5_keeps q.1 q.2 := by
  intro q hq
  unfold tb_X5_keeps at hq
  simp only [List.mem_cons, List.not_mem_nil, or_false] at hq
  rcases hq with rfl | rfl | rfl | rfl | rfl | rfl | rfl | rfl | rfl | rfl | rfl | rfl | rfl | rfl | rfl | rfl
  · exact s_X5_keeps_0 hG hl
  · exact s_X5_keeps_1 hG hl
  · exact s_X5_keeps_2 hG hl
  · exact s_X5_keeps_5 hG hl
  · exact s_X5_keeps_6 hG hl
  · exact s_X5_keeps_7 hG hl
  · exact s_X5_keeps_10 hG hl
  · exact s_X5_keeps_11 hG hl
  · exact s_X5_keeps_14 hG hl
  · exact s_X5_keeps_15 hG hl
  · exact s_X5_keeps_18 hG hl
  · exact s_X5_keeps_19 hG hl
  · exact s_X5_keeps_22 hG hl
  · exact s_X5_keeps_23 hG hl
  · exact s_X5_keeps_26 hG hl
  · exact s_X5_keeps_27 hG hl
def tx_X5_keyAt : ev_X := fun _ _ => some none
noncomputable def tb_X5_keyAt (X : ev_E) : List (Nat × (ev_S → ev_N)) := [(0, i_al 0 1), (1, i_il 1 2), (2, i_cV X 59 1 10 2 5), (5, i_gf X 8 0 8), (8, i_il 2 9), (9, i_psh (.int (0)) 10), (10, i_cV X 96 2 7 3 13), (13, i_ir (.int))]
theorem s_X5_keyAt_0 {X : ev_E} {l : Launch} (hG : ev_Good X) (hl : l.stackTraces = false) : ev_Snd X l ev_ms x_X5_keyAt tx_X5_keyAt 0 (i_al 0 1) := s_aload_n dX5_keyAt_0 rfl
theorem s_X5_keyAt_1 {X : ev_E} {l : Launch} (hG : ev_Good X) (hl : l.stackTraces = false) : ev_Snd X l ev_ms x_X5_keyAt tx_X5_keyAt 1 (i_il 1 2) := s_iload_n dX5_keyAt_1 rfl
theorem s_X5_keyAt_2 {X : ev_E} {l : Launch} (hG : ev_Good X) (hl : l.stackTraces = false) : ev_Snd X l ev_ms x_X5_keyAt tx_X5_keyAt 2 (i_cV X 59 1 10 2 5) := s_invokevirtual hG (mi := 59) (n := 1) (ci := 10) (r := (RX5, TX5, 7)) rfl (cal_X5_tableOf (Nat.le_of_ble_eq_true rfl)) w_705 w_707 w_11 dX5_keyAt_2
theorem s_X5_keyAt_5 {X : ev_E} {l : Launch} (hG : ev_Good X) (hl : l.stackTraces = false) : ev_Snd X l ev_ms x_X5_keyAt tx_X5_keyAt 5 (i_gf X 8 0 8) := s_getfieldN hG (ci := 8) (r := (RX3, TX3, 2)) rfl cw_8 (k := 0) (Nat.le_of_ble_eq_true rfl) w_189 rfl dX5_keyAt_5
theorem s_X5_keyAt_8 {X : ev_E} {l : Launch} (hG : ev_Good X) (hl : l.stackTraces = false) : ev_Snd X l ev_ms x_X5_keyAt tx_X5_keyAt 8 (i_il 2 9) := s_iload_n dX5_keyAt_8 rfl
theorem s_X5_keyAt_9 {X : ev_E} {l : Launch} (hG : ev_Good X) (hl : l.stackTraces = false) : ev_Snd X l ev_ms x_X5_keyAt tx_X5_keyAt 9 (i_psh (.int (0)) 10) := s_iconst dX5_keyAt_9 rfl
theorem s_X5_keyAt_10 {X : ev_E} {l : Launch} (hG : ev_Good X) (hl : l.stackTraces = false) : ev_Snd X l ev_ms x_X5_keyAt tx_X5_keyAt 10 (i_cV X 96 2 7 3 13) := s_invokevirtual hG (mi := 96) (n := 2) (ci := 7) (r := (RX2, TX2, 7)) rfl (cal_X2_told (Nat.le_of_ble_eq_true rfl)) w_737 w_738 w_739 dX5_keyAt_10
theorem s_X5_keyAt_13 {X : ev_E} {l : Launch} (hG : ev_Good X) (hl : l.stackTraces = false) : ev_Snd X l ev_ms x_X5_keyAt tx_X5_keyAt 13 (i_ir (.int)) := s_ireturn rfl dX5_keyAt_13
theorem sa_X5_keyAt {X : ev_E} {l : Launch} (hG : ev_Good X) (hl : l.stackTraces = false) : ∀ q ∈ tb_X5_keyAt X, ev_Snd X l ev_ms x_X5_keyAt tx_X5_keyAt q.1 q.2 := by
  intro q hq
  unfold tb_X5_keyAt at hq
  simp only [List.mem_cons, List.not_mem_nil, or_false] at hq
  rcases hq with rfl | rfl | rfl | rfl | rfl | rfl | rfl | rfl
  · exact s_X5_keyAt_0 hG hl
  · exact s_X5_keyAt_1 hG hl
  · exact s_X5_keyAt_2 hG hl
  · exact s_X5_keyAt_5 hG hl
  · exact s_X5_keyAt_8 hG hl
  · exact s_X5_keyAt_9 hG hl
  · exact s_X5_keyAt_10 hG hl
  · exact s_X5_keyAt_13 hG hl
def tx_X5_latest : ev_X := fun _ _ => some none
noncomputable def tb_X5_latest (X : ev_E) : List (Nat × (ev_S → ev_N)) := [(0, i_al 0 1), (1, i_il 1 2), (2, i_cV X 59 1 10 2 5), (5, i_as 2 6), (6, i_al 2 7), (7, i_gf X 8 0 10), (10, i_al 2 11), (11, i_gf X 8 0 14), (14, i_gf X 7 2 17), (17, i_psh (.int (1)) 18), (18, i_ii (fun a b => a - b) 19), (19, i_psh (.int (0)) 20), (20, i_cV X 96 2 7 3 23), (23, i_ir (.int))]
theorem s_X5_latest_0 {X : ev_E} {l : Launch} (hG : ev_Good X) (hl : l.stackTraces = false) : ev_Snd X l ev_ms x_X5_latest tx_X5_latest 0 (i_al 0 1) := s_aload_n dX5_latest_0 rfl
theorem s_X5_latest_1 {X : ev_E} {l : Launch} (hG : ev_Good X) (hl : l.stackTraces = false) : ev_Snd X l ev_ms x_X5_latest tx_X5_latest 1 (i_il 1 2) := s_iload_n dX5_latest_1 rfl
theorem s_X5_latest_2 {X : ev_E} {l : Launch} (hG : ev_Good X) (hl : l.stackTraces = false) : ev_Snd X l ev_ms x_X5_latest tx_X5_latest 2 (i_cV X 59 1 10 2 5) := s_invokevirtual hG (mi := 59) (n := 1) (ci := 10) (r := (RX5, TX5, 7)) rfl (cal_X5_tableOf (Nat.le_of_ble_eq_true rfl)) w_705 w_707 w_11 dX5_latest_2
theorem s_X5_latest_5 {X : ev_E} {l : Launch} (hG : ev_Good X) (hl : l.stackTraces = false) : ev_Snd X l ev_ms x_X5_latest tx_X5_latest 5 (i_as 2 6) := s_astore_n dX5_latest_5 rfl (Nat.le_of_ble_eq_true rfl)
theorem s_X5_latest_6 {X : ev_E} {l : Launch} (hG : ev_Good X) (hl : l.stackTraces = false) : ev_Snd X l ev_ms x_X5_latest tx_X5_latest 6 (i_al 2 7) := s_aload_n dX5_latest_6 rfl
theorem s_X5_latest_7 {X : ev_E} {l : Launch} (hG : ev_Good X) (hl : l.stackTraces = false) : ev_Snd X l ev_ms x_X5_latest tx_X5_latest 7 (i_gf X 8 0 10) := s_getfieldN hG (ci := 8) (r := (RX3, TX3, 2)) rfl cw_8 (k := 0) (Nat.le_of_ble_eq_true rfl) w_189 rfl dX5_latest_7
theorem s_X5_latest_10 {X : ev_E} {l : Launch} (hG : ev_Good X) (hl : l.stackTraces = false) : ev_Snd X l ev_ms x_X5_latest tx_X5_latest 10 (i_al 2 11) := s_aload_n dX5_latest_10 rfl
theorem s_X5_latest_11 {X : ev_E} {l : Launch} (hG : ev_Good X) (hl : l.stackTraces = false) : ev_Snd X l ev_ms x_X5_latest tx_X5_latest 11 (i_gf X 8 0 14) := s_getfieldN hG (ci := 8) (r := (RX3, TX3, 2)) rfl cw_8 (k := 0) (Nat.le_of_ble_eq_true rfl) w_189 rfl dX5_latest_11
theorem s_X5_latest_14 {X : ev_E} {l : Launch} (hG : ev_Good X) (hl : l.stackTraces = false) : ev_Snd X l ev_ms x_X5_latest tx_X5_latest 14 (i_gf X 7 2 17) := s_getfieldN hG (ci := 7) (r := (RX2, TX2, 7)) rfl cw_7 (k := 2) (Nat.le_of_ble_eq_true rfl) w_131 rfl dX5_latest_14
theorem s_X5_latest_17 {X : ev_E} {l : Launch} (hG : ev_Good X) (hl : l.stackTraces = false) : ev_Snd X l ev_ms x_X5_latest tx_X5_latest 17 (i_psh (.int (1)) 18) := s_iconst dX5_latest_17 rfl
theorem s_X5_latest_18 {X : ev_E} {l : Launch} (hG : ev_Good X) (hl : l.stackTraces = false) : ev_Snd X l ev_ms x_X5_latest tx_X5_latest 18 (i_ii (fun a b => a - b) 19) := s_isub dX5_latest_18
theorem s_X5_latest_19 {X : ev_E} {l : Launch} (hG : ev_Good X) (hl : l.stackTraces = false) : ev_Snd X l ev_ms x_X5_latest tx_X5_latest 19 (i_psh (.int (0)) 20) := s_iconst dX5_latest_19 rfl
theorem s_X5_latest_20 {X : ev_E} {l : Launch} (hG : ev_Good X) (hl : l.stackTraces = false) : ev_Snd X l ev_ms x_X5_latest tx_X5_latest 20 (i_cV X 96 2 7 3 23) := s_invokevirtual hG (mi := 96) (n := 2) (ci := 7) (r := (RX2, TX2, 7)) rfl (cal_X2_told (Nat.le_of_ble_eq_true rfl)) w_737 w_738 w_739 dX5_latest_20
theorem s_X5_latest_23 {X : ev_E} {l : Launch} (hG : ev_Good X) (hl : l.stackTraces = false) : ev_Snd X l ev_ms x_X5_latest tx_X5_latest 23 (i_ir (.int)) := s_ireturn rfl dX5_latest_23
theorem sa_X5_latest {X : ev_E} {l : Launch} (hG : ev_Good X) (hl : l.stackTraces = false) : ∀ q ∈ tb_X5_latest X, ev_Snd X l ev_ms x_X5_latest tx_X5_latest q.1 q.2 := by
  intro q hq
  unfold tb_X5_latest at hq
  simp only [List.mem_cons, List.not_mem_nil, or_false] at hq
  rcases hq with rfl | rfl | rfl | rfl | rfl | rfl | rfl | rfl | rfl | rfl | rfl | rfl | rfl | rfl
  · exact s_X5_latest_0 hG hl
  · exact s_X5_latest_1 hG hl
  · exact s_X5_latest_2 hG hl
  · exact s_X5_latest_5 hG hl
  · exact s_X5_latest_6 hG hl
  · exact s_X5_latest_7 hG hl
  · exact s_X5_latest_10 hG hl
  · exact s_X5_latest_11 hG hl
  · exact s_X5_latest_14 hG hl
  · exact s_X5_latest_17 hG hl
  · exact s_X5_latest_18 hG hl
  · exact s_X5_latest_19 hG hl
  · exact s_X5_latest_20 hG hl
  · exact s_X5_latest_23 hG hl
def tx_X5_lost : ev_X := fun _ _ => some none
noncomputable def tb_X5_lost (X : ev_E) : List (Nat × (ev_S → ev_N)) := [(0, i_al 0 1), (1, i_il 1 2), (2, i_cV X 109 1 10 2 5), (5, i_gf X 6 0 8), (8, i_gf X 7 6 11), (11, i_ir (.int))]
theorem s_X5_lost_0 {X : ev_E} {l : Launch} (hG : ev_Good X) (hl : l.stackTraces = false) : ev_Snd X l ev_ms x_X5_lost tx_X5_lost 0 (i_al 0 1) := s_aload_n dX5_lost_0 rfl
theorem s_X5_lost_1 {X : ev_E} {l : Launch} (hG : ev_Good X) (hl : l.stackTraces = false) : ev_Snd X l ev_ms x_X5_lost tx_X5_lost 1 (i_il 1 2) := s_iload_n dX5_lost_1 rfl
theorem s_X5_lost_2 {X : ev_E} {l : Launch} (hG : ev_Good X) (hl : l.stackTraces = false) : ev_Snd X l ev_ms x_X5_lost tx_X5_lost 2 (i_cV X 109 1 10 2 5) := s_invokevirtual hG (mi := 109) (n := 1) (ci := 10) (r := (RX5, TX5, 7)) rfl (cal_X5_keeperOf (Nat.le_of_ble_eq_true rfl)) w_776 w_778 w_13 dX5_lost_2
theorem s_X5_lost_5 {X : ev_E} {l : Launch} (hG : ev_Good X) (hl : l.stackTraces = false) : ev_Snd X l ev_ms x_X5_lost tx_X5_lost 5 (i_gf X 6 0 8) := s_getfieldN hG (ci := 6) (r := (RX1, TX1, 3)) rfl cw_6 (k := 0) (Nat.le_of_ble_eq_true rfl) w_205 rfl dX5_lost_5
theorem s_X5_lost_8 {X : ev_E} {l : Launch} (hG : ev_Good X) (hl : l.stackTraces = false) : ev_Snd X l ev_ms x_X5_lost tx_X5_lost 8 (i_gf X 7 6 11) := s_getfieldN hG (ci := 7) (r := (RX2, TX2, 7)) rfl cw_7 (k := 6) (Nat.le_of_ble_eq_true rfl) w_140 rfl dX5_lost_8
theorem s_X5_lost_11 {X : ev_E} {l : Launch} (hG : ev_Good X) (hl : l.stackTraces = false) : ev_Snd X l ev_ms x_X5_lost tx_X5_lost 11 (i_ir (.int)) := s_ireturn rfl dX5_lost_11
theorem sa_X5_lost {X : ev_E} {l : Launch} (hG : ev_Good X) (hl : l.stackTraces = false) : ∀ q ∈ tb_X5_lost X, ev_Snd X l ev_ms x_X5_lost tx_X5_lost q.1 q.2 := by
  intro q hq
  unfold tb_X5_lost at hq
  simp only [List.mem_cons, List.not_mem_nil, or_false] at hq
  rcases hq with rfl | rfl | rfl | rfl | rfl | rfl
  · exact s_X5_lost_0 hG hl
  · exact s_X5_lost_1 hG hl
  · exact s_X5_lost_2 hG hl
  · exact s_X5_lost_5 hG hl
  · exact s_X5_lost_8 hG hl
  · exact s_X5_lost_11 hG hl
def tx_X5_make : ev_X := fun _ _ => some none
noncomputable def tb_X5_make (X : ev_E) : List (Nat × (ev_S → ev_N)) := [(0, i_al 0 1), (1, i_il 1 2), (2, i_cV X 59 1 10 2 5), (5, i_as 4 7), (7, i_il 3 8), (8, i_psh (.int (-1)) 9), (9, i_iceq 33 12), (12, i_il 3 13), (13, i_psh (.int (1)) 14), (14, i_iclt 23 17), (17, i_il 3 18), (18, i_psh (.int (12)) 20), (20, i_icle 33 23), (23, i_thr 1), (33, i_al 4 35), (35, i_gf X 8 1 38), (38, i_cV X 45 0 9 1 41), (41, i_al 4 43), (43, i_gf X 8 0 46), (46, i_il 2 47), (47, i_il 3 48), (48, i_cV X 95 2 7 3 51), (51, i_ir (.int))]
theorem s_X5_make_0 {X : ev_E} {l : Launch} (hG : ev_Good X) (hl : l.stackTraces = false) : ev_Snd X l ev_ms x_X5_make tx_X5_make 0 (i_al 0 1) := s_aload_n dX5_make_0 rfl
theorem s_X5_make_1 {X : ev_E} {l : Launch} (hG : ev_Good X) (hl : l.stackTraces = false) : ev_Snd X l ev_ms x_X5_make tx_X5_make 1 (i_il 1 2) := s_iload_n dX5_make_1 rfl
theorem s_X5_make_2 {X : ev_E} {l : Launch} (hG : ev_Good X) (hl : l.stackTraces = false) : ev_Snd X l ev_ms x_X5_make tx_X5_make 2 (i_cV X 59 1 10 2 5) := s_invokevirtual hG (mi := 59) (n := 1) (ci := 10) (r := (RX5, TX5, 7)) rfl (cal_X5_tableOf (Nat.le_of_ble_eq_true rfl)) w_705 w_707 w_11 dX5_make_2
theorem s_X5_make_5 {X : ev_E} {l : Launch} (hG : ev_Good X) (hl : l.stackTraces = false) : ev_Snd X l ev_ms x_X5_make tx_X5_make 5 (i_as 4 7) := s_astore dX5_make_5 (Nat.le_of_ble_eq_true rfl)
theorem s_X5_make_7 {X : ev_E} {l : Launch} (hG : ev_Good X) (hl : l.stackTraces = false) : ev_Snd X l ev_ms x_X5_make tx_X5_make 7 (i_il 3 8) := s_iload_n dX5_make_7 rfl
theorem s_X5_make_8 {X : ev_E} {l : Launch} (hG : ev_Good X) (hl : l.stackTraces = false) : ev_Snd X l ev_ms x_X5_make tx_X5_make 8 (i_psh (.int (-1)) 9) := s_iconst dX5_make_8 rfl
theorem s_X5_make_9 {X : ev_E} {l : Launch} (hG : ev_Good X) (hl : l.stackTraces = false) : ev_Snd X l ev_ms x_X5_make tx_X5_make 9 (i_iceq 33 12) := s_iceq dX5_make_9 rfl
theorem s_X5_make_12 {X : ev_E} {l : Launch} (hG : ev_Good X) (hl : l.stackTraces = false) : ev_Snd X l ev_ms x_X5_make tx_X5_make 12 (i_il 3 13) := s_iload_n dX5_make_12 rfl
theorem s_X5_make_13 {X : ev_E} {l : Launch} (hG : ev_Good X) (hl : l.stackTraces = false) : ev_Snd X l ev_ms x_X5_make tx_X5_make 13 (i_psh (.int (1)) 14) := s_iconst dX5_make_13 rfl
theorem s_X5_make_14 {X : ev_E} {l : Launch} (hG : ev_Good X) (hl : l.stackTraces = false) : ev_Snd X l ev_ms x_X5_make tx_X5_make 14 (i_iclt 23 17) := s_iclt dX5_make_14 rfl
theorem s_X5_make_17 {X : ev_E} {l : Launch} (hG : ev_Good X) (hl : l.stackTraces = false) : ev_Snd X l ev_ms x_X5_make tx_X5_make 17 (i_il 3 18) := s_iload_n dX5_make_17 rfl
theorem s_X5_make_18 {X : ev_E} {l : Launch} (hG : ev_Good X) (hl : l.stackTraces = false) : ev_Snd X l ev_ms x_X5_make tx_X5_make 18 (i_psh (.int (12)) 20) := s_bipush dX5_make_18 rfl
theorem s_X5_make_20 {X : ev_E} {l : Launch} (hG : ev_Good X) (hl : l.stackTraces = false) : ev_Snd X l ev_ms x_X5_make tx_X5_make 20 (i_icle 33 23) := s_icle dX5_make_20 rfl
theorem s_X5_make_23 {X : ev_E} {l : Launch} (hG : ev_Good X) (hl : l.stackTraces = false) : ev_Snd X l ev_ms x_X5_make tx_X5_make 23 (i_thr 1) := s_throw hG hl (E := 1) (text := "most is not NONE and not 1 to 12") (names := ["java/lang/RuntimeException", "java/lang/Exception"]) (by decide +kernel) (by decide +kernel) (by decide) rfl w_690 w_65 (ta_RX5_62_1 (i := 58)).1 (ta_RX5_62_1 (i := 58)).2 (str_RX5_60 hG) dX5_make_23 dX5_make_26 dX5_make_27 dX5_make_29 dX5_make_32
theorem s_X5_make_33 {X : ev_E} {l : Launch} (hG : ev_Good X) (hl : l.stackTraces = false) : ev_Snd X l ev_ms x_X5_make tx_X5_make 33 (i_al 4 35) := s_aload dX5_make_33
theorem s_X5_make_35 {X : ev_E} {l : Launch} (hG : ev_Good X) (hl : l.stackTraces = false) : ev_Snd X l ev_ms x_X5_make tx_X5_make 35 (i_gf X 8 1 38) := s_getfieldN hG (ci := 8) (r := (RX3, TX3, 2)) rfl cw_8 (k := 1) (Nat.le_of_ble_eq_true rfl) w_191 rfl dX5_make_35
theorem s_X5_make_38 {X : ev_E} {l : Launch} (hG : ev_Good X) (hl : l.stackTraces = false) : ev_Snd X l ev_ms x_X5_make tx_X5_make 38 (i_cV X 45 0 9 1 41) := s_invokevirtual hG (mi := 45) (n := 0) (ci := 9) (r := (RX4, TX4, 6)) rfl (cal_X4_outdate (Nat.le_of_ble_eq_true rfl)) w_828 w_829 w_830 dX5_make_38
theorem s_X5_make_41 {X : ev_E} {l : Launch} (hG : ev_Good X) (hl : l.stackTraces = false) : ev_Snd X l ev_ms x_X5_make tx_X5_make 41 (i_al 4 43) := s_aload dX5_make_41
theorem s_X5_make_43 {X : ev_E} {l : Launch} (hG : ev_Good X) (hl : l.stackTraces = false) : ev_Snd X l ev_ms x_X5_make tx_X5_make 43 (i_gf X 8 0 46) := s_getfieldN hG (ci := 8) (r := (RX3, TX3, 2)) rfl cw_8 (k := 0) (Nat.le_of_ble_eq_true rfl) w_189 rfl dX5_make_43
theorem s_X5_make_46 {X : ev_E} {l : Launch} (hG : ev_Good X) (hl : l.stackTraces = false) : ev_Snd X l ev_ms x_X5_make tx_X5_make 46 (i_il 2 47) := s_iload_n dX5_make_46 rfl
theorem s_X5_make_47 {X : ev_E} {l : Launch} (hG : ev_Good X) (hl : l.stackTraces = false) : ev_Snd X l ev_ms x_X5_make tx_X5_make 47 (i_il 3 48) := s_iload_n dX5_make_47 rfl
theorem s_X5_make_48 {X : ev_E} {l : Launch} (hG : ev_Good X) (hl : l.stackTraces = false) : ev_Snd X l ev_ms x_X5_make tx_X5_make 48 (i_cV X 95 2 7 3 51) := s_invokevirtual hG (mi := 95) (n := 2) (ci := 7) (r := (RX2, TX2, 7)) rfl (cal_X2_renew (Nat.le_of_ble_eq_true rfl)) w_243 w_244 w_245 dX5_make_48
theorem s_X5_make_51 {X : ev_E} {l : Launch} (hG : ev_Good X) (hl : l.stackTraces = false) : ev_Snd X l ev_ms x_X5_make tx_X5_make 51 (i_ir (.int)) := s_ireturn rfl dX5_make_51
theorem sa_X5_make {X : ev_E} {l : Launch} (hG : ev_Good X) (hl : l.stackTraces = false) : ∀ q ∈ tb_X5_make X, ev_Snd X l ev_ms x_X5_make tx_X5_make q.1 q.2 := by
  intro q hq
  unfold tb_X5_make at hq
  simp only [List.mem_cons, List.not_mem_nil, or_false] at hq
  rcases hq with rfl | rfl | rfl | rfl | rfl | rfl | rfl | rfl | rfl | rfl | rfl | rfl | rfl | rfl | rfl | rfl | rfl | rfl | rfl | rfl | rfl | rfl | rfl
  · exact s_X5_make_0 hG hl
  · exact s_X5_make_1 hG hl
  · exact s_X5_make_2 hG hl
  · exact s_X5_make_5 hG hl
  · exact s_X5_make_7 hG hl
  · exact s_X5_make_8 hG hl
  · exact s_X5_make_9 hG hl
  · exact s_X5_make_12 hG hl
  · exact s_X5_make_13 hG hl
  · exact s_X5_make_14 hG hl
  · exact s_X5_make_17 hG hl
  · exact s_X5_make_18 hG hl
  · exact s_X5_make_20 hG hl
  · exact s_X5_make_23 hG hl
  · exact s_X5_make_33 hG hl
  · exact s_X5_make_35 hG hl
  · exact s_X5_make_38 hG hl
  · exact s_X5_make_41 hG hl
  · exact s_X5_make_43 hG hl
  · exact s_X5_make_46 hG hl
  · exact s_X5_make_47 hG hl
  · exact s_X5_make_48 hG hl
  · exact s_X5_make_51 hG hl
def tx_X5_misses : ev_X := fun _ _ => some none
noncomputable def tb_X5_misses (X : ev_E) : List (Nat × (ev_S → ev_N)) := [(0, i_al 0 1), (1, i_il 1 2), (2, i_cV X 109 1 10 2 5), (5, i_gf X 6 1 8), (8, i_ir (.int))]
theorem s_X5_misses_0 {X : ev_E} {l : Launch} (hG : ev_Good X) (hl : l.stackTraces = false) : ev_Snd X l ev_ms x_X5_misses tx_X5_misses 0 (i_al 0 1) := s_aload_n dX5_misses_0 rfl
theorem s_X5_misses_1 {X : ev_E} {l : Launch} (hG : ev_Good X) (hl : l.stackTraces = false) : ev_Snd X l ev_ms x_X5_misses tx_X5_misses 1 (i_il 1 2) := s_iload_n dX5_misses_1 rfl
theorem s_X5_misses_2 {X : ev_E} {l : Launch} (hG : ev_Good X) (hl : l.stackTraces = false) : ev_Snd X l ev_ms x_X5_misses tx_X5_misses 2 (i_cV X 109 1 10 2 5) := s_invokevirtual hG (mi := 109) (n := 1) (ci := 10) (r := (RX5, TX5, 7)) rfl (cal_X5_keeperOf (Nat.le_of_ble_eq_true rfl)) w_776 w_778 w_13 dX5_misses_2
theorem s_X5_misses_5 {X : ev_E} {l : Launch} (hG : ev_Good X) (hl : l.stackTraces = false) : ev_Snd X l ev_ms x_X5_misses tx_X5_misses 5 (i_gf X 6 1 8) := s_getfieldN hG (ci := 6) (r := (RX1, TX1, 3)) rfl cw_6 (k := 1) (Nat.le_of_ble_eq_true rfl) w_207 rfl dX5_misses_5
theorem s_X5_misses_8 {X : ev_E} {l : Launch} (hG : ev_Good X) (hl : l.stackTraces = false) : ev_Snd X l ev_ms x_X5_misses tx_X5_misses 8 (i_ir (.int)) := s_ireturn rfl dX5_misses_8
theorem sa_X5_misses {X : ev_E} {l : Launch} (hG : ev_Good X) (hl : l.stackTraces = false) : ∀ q ∈ tb_X5_misses X, ev_Snd X l ev_ms x_X5_misses tx_X5_misses q.1 q.2 := by
  intro q hq
  unfold tb_X5_misses at hq
  simp only [List.mem_cons, List.not_mem_nil, or_false] at hq
  rcases hq with rfl | rfl | rfl | rfl | rfl
  · exact s_X5_misses_0 hG hl
  · exact s_X5_misses_1 hG hl
  · exact s_X5_misses_2 hG hl
  · exact s_X5_misses_5 hG hl
  · exact s_X5_misses_8 hG hl
def tx_X5_pairAt : ev_X := fun _ _ => some none
noncomputable def tb_X5_pairAt (X : ev_E) : List (Nat × (ev_S → ev_N)) := [(0, i_al 0 1), (1, i_il 1 2), (2, i_cV X 59 1 10 2 5), (5, i_gf X 8 0 8), (8, i_il 2 9), (9, i_psh (.int (2)) 10), (10, i_cV X 96 2 7 3 13), (13, i_ir (.int))]
theorem s_X5_pairAt_0 {X : ev_E} {l : Launch} (hG : ev_Good X) (hl : l.stackTraces = false) : ev_Snd X l ev_ms x_X5_pairAt tx_X5_pairAt 0 (i_al 0 1) := s_aload_n dX5_pairAt_0 rfl
theorem s_X5_pairAt_1 {X : ev_E} {l : Launch} (hG : ev_Good X) (hl : l.stackTraces = false) : ev_Snd X l ev_ms x_X5_pairAt tx_X5_pairAt 1 (i_il 1 2) := s_iload_n dX5_pairAt_1 rfl
theorem s_X5_pairAt_2 {X : ev_E} {l : Launch} (hG : ev_Good X) (hl : l.stackTraces = false) : ev_Snd X l ev_ms x_X5_pairAt tx_X5_pairAt 2 (i_cV X 59 1 10 2 5) := s_invokevirtual hG (mi := 59) (n := 1) (ci := 10) (r := (RX5, TX5, 7)) rfl (cal_X5_tableOf (Nat.le_of_ble_eq_true rfl)) w_705 w_707 w_11 dX5_pairAt_2
theorem s_X5_pairAt_5 {X : ev_E} {l : Launch} (hG : ev_Good X) (hl : l.stackTraces = false) : ev_Snd X l ev_ms x_X5_pairAt tx_X5_pairAt 5 (i_gf X 8 0 8) := s_getfieldN hG (ci := 8) (r := (RX3, TX3, 2)) rfl cw_8 (k := 0) (Nat.le_of_ble_eq_true rfl) w_189 rfl dX5_pairAt_5
theorem s_X5_pairAt_8 {X : ev_E} {l : Launch} (hG : ev_Good X) (hl : l.stackTraces = false) : ev_Snd X l ev_ms x_X5_pairAt tx_X5_pairAt 8 (i_il 2 9) := s_iload_n dX5_pairAt_8 rfl
theorem s_X5_pairAt_9 {X : ev_E} {l : Launch} (hG : ev_Good X) (hl : l.stackTraces = false) : ev_Snd X l ev_ms x_X5_pairAt tx_X5_pairAt 9 (i_psh (.int (2)) 10) := s_iconst dX5_pairAt_9 rfl
theorem s_X5_pairAt_10 {X : ev_E} {l : Launch} (hG : ev_Good X) (hl : l.stackTraces = false) : ev_Snd X l ev_ms x_X5_pairAt tx_X5_pairAt 10 (i_cV X 96 2 7 3 13) := s_invokevirtual hG (mi := 96) (n := 2) (ci := 7) (r := (RX2, TX2, 7)) rfl (cal_X2_told (Nat.le_of_ble_eq_true rfl)) w_737 w_738 w_739 dX5_pairAt_10
theorem s_X5_pairAt_13 {X : ev_E} {l : Launch} (hG : ev_Good X) (hl : l.stackTraces = false) : ev_Snd X l ev_ms x_X5_pairAt tx_X5_pairAt 13 (i_ir (.int)) := s_ireturn rfl dX5_pairAt_13
theorem sa_X5_pairAt {X : ev_E} {l : Launch} (hG : ev_Good X) (hl : l.stackTraces = false) : ∀ q ∈ tb_X5_pairAt X, ev_Snd X l ev_ms x_X5_pairAt tx_X5_pairAt q.1 q.2 := by
  intro q hq
  unfold tb_X5_pairAt at hq
  simp only [List.mem_cons, List.not_mem_nil, or_false] at hq
  rcases hq with rfl | rfl | rfl | rfl | rfl | rfl | rfl | rfl
  · exact s_X5_pairAt_0 hG hl
  · exact s_X5_pairAt_1 hG hl
  · exact s_X5_pairAt_2 hG hl
  · exact s_X5_pairAt_5 hG hl
  · exact s_X5_pairAt_8 hG hl
  · exact s_X5_pairAt_9 hG hl
  · exact s_X5_pairAt_10 hG hl
  · exact s_X5_pairAt_13 hG hl
def tx_X5_set : ev_X := fun _ _ => some none
noncomputable def tb_X5_set (X : ev_E) : List (Nat × (ev_S → ev_N)) := [(0, i_al 0 1), (1, i_il 1 2), (2, i_cV X 59 1 10 2 5), (5, i_as 4 7), (7, i_il 3 8), (8, i_cS 52 1 1 11), (11, i_al 4 13), (13, i_gf X 8 0 16), (16, i_il 2 17), (17, i_cV X 39 1 7 2 20), (20, i_ifne 28 23), (23, i_al 0 24), (24, i_cV X 58 0 10 1 27), (27, i_ir (.int)), (28, i_al 4 30), (30, i_gf X 8 0 33), (33, i_il 2 34), (34, i_il 3 35), (35, i_cV X 92 2 7 4 38), (38, i_ir (.int))]
theorem s_X5_set_0 {X : ev_E} {l : Launch} (hG : ev_Good X) (hl : l.stackTraces = false) : ev_Snd X l ev_ms x_X5_set tx_X5_set 0 (i_al 0 1) := s_aload_n dX5_set_0 rfl
theorem s_X5_set_1 {X : ev_E} {l : Launch} (hG : ev_Good X) (hl : l.stackTraces = false) : ev_Snd X l ev_ms x_X5_set tx_X5_set 1 (i_il 1 2) := s_iload_n dX5_set_1 rfl
theorem s_X5_set_2 {X : ev_E} {l : Launch} (hG : ev_Good X) (hl : l.stackTraces = false) : ev_Snd X l ev_ms x_X5_set tx_X5_set 2 (i_cV X 59 1 10 2 5) := s_invokevirtual hG (mi := 59) (n := 1) (ci := 10) (r := (RX5, TX5, 7)) rfl (cal_X5_tableOf (Nat.le_of_ble_eq_true rfl)) w_705 w_707 w_11 dX5_set_2
theorem s_X5_set_5 {X : ev_E} {l : Launch} (hG : ev_Good X) (hl : l.stackTraces = false) : ev_Snd X l ev_ms x_X5_set tx_X5_set 5 (i_as 4 7) := s_astore dX5_set_5 (Nat.le_of_ble_eq_true rfl)
theorem s_X5_set_7 {X : ev_E} {l : Launch} (hG : ev_Good X) (hl : l.stackTraces = false) : ev_Snd X l ev_ms x_X5_set tx_X5_set 7 (i_il 3 8) := s_iload_n dX5_set_7 rfl
theorem s_X5_set_8 {X : ev_E} {l : Launch} (hG : ev_Good X) (hl : l.stackTraces = false) : ev_Snd X l ev_ms x_X5_set tx_X5_set 8 (i_cS 52 1 1 11) := s_invokestatic hG (mi := 52) (n := 1) (cal_X5_demandValue (Nat.le_of_ble_eq_true rfl)) w_839 w_840 dX5_set_8
theorem s_X5_set_11 {X : ev_E} {l : Launch} (hG : ev_Good X) (hl : l.stackTraces = false) : ev_Snd X l ev_ms x_X5_set tx_X5_set 11 (i_al 4 13) := s_aload dX5_set_11
theorem s_X5_set_13 {X : ev_E} {l : Launch} (hG : ev_Good X) (hl : l.stackTraces = false) : ev_Snd X l ev_ms x_X5_set tx_X5_set 13 (i_gf X 8 0 16) := s_getfieldN hG (ci := 8) (r := (RX3, TX3, 2)) rfl cw_8 (k := 0) (Nat.le_of_ble_eq_true rfl) w_189 rfl dX5_set_13
theorem s_X5_set_16 {X : ev_E} {l : Launch} (hG : ev_Good X) (hl : l.stackTraces = false) : ev_Snd X l ev_ms x_X5_set tx_X5_set 16 (i_il 2 17) := s_iload_n dX5_set_16 rfl
theorem s_X5_set_17 {X : ev_E} {l : Launch} (hG : ev_Good X) (hl : l.stackTraces = false) : ev_Snd X l ev_ms x_X5_set tx_X5_set 17 (i_cV X 39 1 7 2 20) := s_invokevirtual hG (mi := 39) (n := 1) (ci := 7) (r := (RX2, TX2, 7)) rfl (cal_X2_isPlace (Nat.le_of_ble_eq_true rfl)) w_942 w_742 w_743 dX5_set_17
theorem s_X5_set_20 {X : ev_E} {l : Launch} (hG : ev_Good X) (hl : l.stackTraces = false) : ev_Snd X l ev_ms x_X5_set tx_X5_set 20 (i_ifne 28 23) := s_ifne dX5_set_20 rfl
theorem s_X5_set_23 {X : ev_E} {l : Launch} (hG : ev_Good X) (hl : l.stackTraces = false) : ev_Snd X l ev_ms x_X5_set tx_X5_set 23 (i_al 0 24) := s_aload_n dX5_set_23 rfl
theorem s_X5_set_24 {X : ev_E} {l : Launch} (hG : ev_Good X) (hl : l.stackTraces = false) : ev_Snd X l ev_ms x_X5_set tx_X5_set 24 (i_cV X 58 0 10 1 27) := s_invokevirtual hG (mi := 58) (n := 0) (ci := 10) (r := (RX5, TX5, 7)) rfl (cal_X5_refuse (Nat.le_of_ble_eq_true rfl)) w_943 w_945 w_17 dX5_set_24
theorem s_X5_set_27 {X : ev_E} {l : Launch} (hG : ev_Good X) (hl : l.stackTraces = false) : ev_Snd X l ev_ms x_X5_set tx_X5_set 27 (i_ir (.int)) := s_ireturn rfl dX5_set_27
theorem s_X5_set_28 {X : ev_E} {l : Launch} (hG : ev_Good X) (hl : l.stackTraces = false) : ev_Snd X l ev_ms x_X5_set tx_X5_set 28 (i_al 4 30) := s_aload dX5_set_28
theorem s_X5_set_30 {X : ev_E} {l : Launch} (hG : ev_Good X) (hl : l.stackTraces = false) : ev_Snd X l ev_ms x_X5_set tx_X5_set 30 (i_gf X 8 0 33) := s_getfieldN hG (ci := 8) (r := (RX3, TX3, 2)) rfl cw_8 (k := 0) (Nat.le_of_ble_eq_true rfl) w_189 rfl dX5_set_30
theorem s_X5_set_33 {X : ev_E} {l : Launch} (hG : ev_Good X) (hl : l.stackTraces = false) : ev_Snd X l ev_ms x_X5_set tx_X5_set 33 (i_il 2 34) := s_iload_n dX5_set_33 rfl
theorem s_X5_set_34 {X : ev_E} {l : Launch} (hG : ev_Good X) (hl : l.stackTraces = false) : ev_Snd X l ev_ms x_X5_set tx_X5_set 34 (i_il 3 35) := s_iload_n dX5_set_34 rfl
theorem s_X5_set_35 {X : ev_E} {l : Launch} (hG : ev_Good X) (hl : l.stackTraces = false) : ev_Snd X l ev_ms x_X5_set tx_X5_set 35 (i_cV X 92 2 7 4 38) := s_invokevirtual hG (mi := 92) (n := 2) (ci := 7) (r := (RX2, TX2, 7)) rfl (cal_X2_changeValue (Nat.le_of_ble_eq_true rfl)) w_947 w_862 w_863 dX5_set_35
theorem s_X5_set_38 {X : ev_E} {l : Launch} (hG : ev_Good X) (hl : l.stackTraces = false) : ev_Snd X l ev_ms x_X5_set tx_X5_set 38 (i_ir (.int)) := s_ireturn rfl dX5_set_38
theorem sa_X5_set {X : ev_E} {l : Launch} (hG : ev_Good X) (hl : l.stackTraces = false) : ∀ q ∈ tb_X5_set X, ev_Snd X l ev_ms x_X5_set tx_X5_set q.1 q.2 := by
  intro q hq
  unfold tb_X5_set at hq
  simp only [List.mem_cons, List.not_mem_nil, or_false] at hq
  rcases hq with rfl | rfl | rfl | rfl | rfl | rfl | rfl | rfl | rfl | rfl | rfl | rfl | rfl | rfl | rfl | rfl | rfl | rfl | rfl | rfl
  · exact s_X5_set_0 hG hl
  · exact s_X5_set_1 hG hl
  · exact s_X5_set_2 hG hl
  · exact s_X5_set_5 hG hl
  · exact s_X5_set_7 hG hl
  · exact s_X5_set_8 hG hl
  · exact s_X5_set_11 hG hl
  · exact s_X5_set_13 hG hl
  · exact s_X5_set_16 hG hl
  · exact s_X5_set_17 hG hl
  · exact s_X5_set_20 hG hl
  · exact s_X5_set_23 hG hl
  · exact s_X5_set_24 hG hl
  · exact s_X5_set_27 hG hl
  · exact s_X5_set_28 hG hl
  · exact s_X5_set_30 hG hl
  · exact s_X5_set_33 hG hl
  · exact s_X5_set_34 hG hl
  · exact s_X5_set_35 hG hl
  · exact s_X5_set_38 hG hl
