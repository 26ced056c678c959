def tx_L_clear : ev_X := ev_hf [(0, 10, 0, 13, 19, 3, 14)]
noncomputable def tb_L_clear (X : ev_E) : List (Nat × (ev_S → ev_N)) := [(0, i_al 2 1), (1, i_al 0 2), (2, i_il 1 3), (3, i_cV X 102 1 10 3 6), (6, i_i2l 7), (7, i_pf 11 0 (.long) 10), (10, i_goto 16), (13, i_as 3 14), (14, i_psh (.int (1)) 15), (15, i_ir (.int)), (16, i_psh (.int (0)) 17), (17, i_ir (.int))]
theorem s_L_clear_0 {X : ev_E} {l : Launch} (hG : ev_Good X) (hl : l.stackTraces = false) : ev_Snd X l ev_ms x_L_clear tx_L_clear 0 (i_al 2 1) := s_aload_n dL_clear_0 rfl
theorem s_L_clear_1 {X : ev_E} {l : Launch} (hG : ev_Good X) (hl : l.stackTraces = false) : ev_Snd X l ev_ms x_L_clear tx_L_clear 1 (i_al 0 2) := s_aload_n dL_clear_1 rfl
theorem s_L_clear_2 {X : ev_E} {l : Launch} (hG : ev_Good X) (hl : l.stackTraces = false) : ev_Snd X l ev_ms x_L_clear tx_L_clear 2 (i_il 1 3) := s_iload_n dL_clear_2 rfl
theorem s_L_clear_3 {X : ev_E} {l : Launch} (hG : ev_Good X) (hl : l.stackTraces = false) : ev_Snd X l ev_ms x_L_clear tx_L_clear 3 (i_cV X 102 1 10 3 6) := s_invokevirtual hG (mi := 102) (n := 1) (ci := 10) (r := (RX5, TX5, 7)) rfl (cal_X5_clear (Nat.le_of_ble_eq_true rfl)) w_930 w_931 w_932 dL_clear_3
theorem s_L_clear_6 {X : ev_E} {l : Launch} (hG : ev_Good X) (hl : l.stackTraces = false) : ev_Snd X l ev_ms x_L_clear tx_L_clear 6 (i_i2l 7) := s_i2l dL_clear_6
theorem s_L_clear_7 {X : ev_E} {l : Launch} (hG : ev_Good X) (hl : l.stackTraces = false) : ev_Snd X l ev_ms x_L_clear tx_L_clear 7 (i_pf 11 0 (.long) 10) := s_putfieldN hG (ci := 11) (r := (RX6, TX6, 2)) rfl cw_11 ap_11 (k := 0) (Nat.le_of_ble_eq_true rfl) rfl (by decide +kernel) w_811 rfl dL_clear_7
theorem s_L_clear_10 {X : ev_E} {l : Launch} (hG : ev_Good X) (hl : l.stackTraces = false) : ev_Snd X l ev_ms x_L_clear tx_L_clear 10 (i_goto 16) := s_goto dL_clear_10 rfl
theorem s_L_clear_13 {X : ev_E} {l : Launch} (hG : ev_Good X) (hl : l.stackTraces = false) : ev_Snd X l ev_ms x_L_clear tx_L_clear 13 (i_as 3 14) := s_astore_n dL_clear_13 rfl (Nat.le_of_ble_eq_true rfl)
theorem s_L_clear_14 {X : ev_E} {l : Launch} (hG : ev_Good X) (hl : l.stackTraces = false) : ev_Snd X l ev_ms x_L_clear tx_L_clear 14 (i_psh (.int (1)) 15) := s_iconst dL_clear_14 rfl
theorem s_L_clear_15 {X : ev_E} {l : Launch} (hG : ev_Good X) (hl : l.stackTraces = false) : ev_Snd X l ev_ms x_L_clear tx_L_clear 15 (i_ir (.int)) := s_ireturn rfl dL_clear_15
theorem s_L_clear_16 {X : ev_E} {l : Launch} (hG : ev_Good X) (hl : l.stackTraces = false) : ev_Snd X l ev_ms x_L_clear tx_L_clear 16 (i_psh (.int (0)) 17) := s_iconst dL_clear_16 rfl
theorem s_L_clear_17 {X : ev_E} {l : Launch} (hG : ev_Good X) (hl : l.stackTraces = false) : ev_Snd X l ev_ms x_L_clear tx_L_clear 17 (i_ir (.int)) := s_ireturn rfl dL_clear_17
theorem sa_L_clear {X : ev_E} {l : Launch} (hG : ev_Good X) (hl : l.stackTraces = false) : ∀ q ∈ tb_L_clear X, ev_Snd X l ev_ms x_L_clear tx_L_clear q.1 q.2 := by
  intro q hq
  unfold tb_L_clear at hq
  simp only [List.mem_cons, List.not_mem_nil, or_false] at hq
  rcases hq with rfl | rfl | rfl | rfl | rfl | rfl | rfl | rfl | rfl | rfl | rfl | rfl
  · exact s_L_clear_0 hG hl
  · exact s_L_clear_1 hG hl
  · exact s_L_clear_2 hG hl
  · exact s_L_clear_3 hG hl
  · exact s_L_clear_6 hG hl
  · exact s_L_clear_7 hG hl
  · exact s_L_clear_10 hG hl
  · exact s_L_clear_13 hG hl
  · exact s_L_clear_14 hG hl
  · exact s_L_clear_15 hG hl
  · exact s_L_clear_16 hG hl
  · exact s_L_clear_17 hG hl
def tx_L_has : ev_X := ev_hf [(0, 18, 0, 21, 19, 4, 23), (0, 18, 1, 25, 21, 4, 27)]
noncomputable def tb_L_has (X : ev_E) : List (Nat × (ev_S → ev_N)) := [(0, i_al 3 1), (1, i_al 0 2), (2, i_il 1 3), (3, i_il 2 4), (4, i_cV X 105 2 10 4 7), (7, i_ifeq 14 10), (10, i_psh (.long 1) 11), (11, i_goto 15), (14, i_psh (.long 0) 15), (15, i_pf 11 0 (.long) 18), (18, i_goto 29), (21, i_as 4 23), (23, i_psh (.int (1)) 24), (24, i_ir (.int)), (25, i_as 4 27), (27, i_psh (.int (2)) 28), (28, i_ir (.int)), (29, i_psh (.int (0)) 30), (30, i_ir (.int))]
theorem s_L_has_0 {X : ev_E} {l : Launch} (hG : ev_Good X) (hl : l.stackTraces = false) : ev_Snd X l ev_ms x_L_has tx_L_has 0 (i_al 3 1) := s_aload_n dL_has_0 rfl
theorem s_L_has_1 {X : ev_E} {l : Launch} (hG : ev_Good X) (hl : l.stackTraces = false) : ev_Snd X l ev_ms x_L_has tx_L_has 1 (i_al 0 2) := s_aload_n dL_has_1 rfl
theorem s_L_has_2 {X : ev_E} {l : Launch} (hG : ev_Good X) (hl : l.stackTraces = false) : ev_Snd X l ev_ms x_L_has tx_L_has 2 (i_il 1 3) := s_iload_n dL_has_2 rfl
theorem s_L_has_3 {X : ev_E} {l : Launch} (hG : ev_Good X) (hl : l.stackTraces = false) : ev_Snd X l ev_ms x_L_has tx_L_has 3 (i_il 2 4) := s_iload_n dL_has_3 rfl
theorem s_L_has_4 {X : ev_E} {l : Launch} (hG : ev_Good X) (hl : l.stackTraces = false) : ev_Snd X l ev_ms x_L_has tx_L_has 4 (i_cV X 105 2 10 4 7) := s_invokevirtual hG (mi := 105) (n := 2) (ci := 10) (r := (RX5, TX5, 7)) rfl (cal_X5_has (Nat.le_of_ble_eq_true rfl)) w_963 w_964 w_965 dL_has_4
theorem s_L_has_7 {X : ev_E} {l : Launch} (hG : ev_Good X) (hl : l.stackTraces = false) : ev_Snd X l ev_ms x_L_has tx_L_has 7 (i_ifeq 14 10) := s_ifeq dL_has_7 rfl
theorem s_L_has_10 {X : ev_E} {l : Launch} (hG : ev_Good X) (hl : l.stackTraces = false) : ev_Snd X l ev_ms x_L_has tx_L_has 10 (i_psh (.long 1) 11) := s_lconst dL_has_10 rfl
theorem s_L_has_11 {X : ev_E} {l : Launch} (hG : ev_Good X) (hl : l.stackTraces = false) : ev_Snd X l ev_ms x_L_has tx_L_has 11 (i_goto 15) := s_goto dL_has_11 rfl
theorem s_L_has_14 {X : ev_E} {l : Launch} (hG : ev_Good X) (hl : l.stackTraces = false) : ev_Snd X l ev_ms x_L_has tx_L_has 14 (i_psh (.long 0) 15) := s_lconst dL_has_14 rfl
theorem s_L_has_15 {X : ev_E} {l : Launch} (hG : ev_Good X) (hl : l.stackTraces = false) : ev_Snd X l ev_ms x_L_has tx_L_has 15 (i_pf 11 0 (.long) 18) := s_putfieldN hG (ci := 11) (r := (RX6, TX6, 2)) rfl cw_11 ap_11 (k := 0) (Nat.le_of_ble_eq_true rfl) rfl (by decide +kernel) w_811 rfl dL_has_15
theorem s_L_has_18 {X : ev_E} {l : Launch} (hG : ev_Good X) (hl : l.stackTraces = false) : ev_Snd X l ev_ms x_L_has tx_L_has 18 (i_goto 29) := s_goto dL_has_18 rfl
theorem s_L_has_21 {X : ev_E} {l : Launch} (hG : ev_Good X) (hl : l.stackTraces = false) : ev_Snd X l ev_ms x_L_has tx_L_has 21 (i_as 4 23) := s_astore dL_has_21 (Nat.le_of_ble_eq_true rfl)
theorem s_L_has_23 {X : ev_E} {l : Launch} (hG : ev_Good X) (hl : l.stackTraces = false) : ev_Snd X l ev_ms x_L_has tx_L_has 23 (i_psh (.int (1)) 24) := s_iconst dL_has_23 rfl
theorem s_L_has_24 {X : ev_E} {l : Launch} (hG : ev_Good X) (hl : l.stackTraces = false) : ev_Snd X l ev_ms x_L_has tx_L_has 24 (i_ir (.int)) := s_ireturn rfl dL_has_24
theorem s_L_has_25 {X : ev_E} {l : Launch} (hG : ev_Good X) (hl : l.stackTraces = false) : ev_Snd X l ev_ms x_L_has tx_L_has 25 (i_as 4 27) := s_astore dL_has_25 (Nat.le_of_ble_eq_true rfl)
theorem s_L_has_27 {X : ev_E} {l : Launch} (hG : ev_Good X) (hl : l.stackTraces = false) : ev_Snd X l ev_ms x_L_has tx_L_has 27 (i_psh (.int (2)) 28) := s_iconst dL_has_27 rfl
theorem s_L_has_28 {X : ev_E} {l : Launch} (hG : ev_Good X) (hl : l.stackTraces = false) : ev_Snd X l ev_ms x_L_has tx_L_has 28 (i_ir (.int)) := s_ireturn rfl dL_has_28
theorem s_L_has_29 {X : ev_E} {l : Launch} (hG : ev_Good X) (hl : l.stackTraces = false) : ev_Snd X l ev_ms x_L_has tx_L_has 29 (i_psh (.int (0)) 30) := s_iconst dL_has_29 rfl
theorem s_L_has_30 {X : ev_E} {l : Launch} (hG : ev_Good X) (hl : l.stackTraces = false) : ev_Snd X l ev_ms x_L_has tx_L_has 30 (i_ir (.int)) := s_ireturn rfl dL_has_30
theorem sa_L_has {X : ev_E} {l : Launch} (hG : ev_Good X) (hl : l.stackTraces = false) : ∀ q ∈ tb_L_has X, ev_Snd X l ev_ms x_L_has tx_L_has q.1 q.2 := by
  intro q hq
  unfold tb_L_has at hq
  simp only [List.mem_cons, List.not_mem_nil, or_false] at hq
  rcases hq with rfl | rfl | rfl | rfl | rfl | rfl | rfl | rfl | rfl | rfl | rfl | rfl | rfl | rfl | rfl | rfl | rfl | rfl | rfl
  · exact s_L_has_0 hG hl
  · exact s_L_has_1 hG hl
  · exact s_L_has_2 hG hl
  · exact s_L_has_3 hG hl
  · exact s_L_has_4 hG hl
  · exact s_L_has_7 hG hl
  · exact s_L_has_10 hG hl
  · exact s_L_has_11 hG hl
  · exact s_L_has_14 hG hl
  · exact s_L_has_15 hG hl
  · exact s_L_has_18 hG hl
  · exact s_L_has_21 hG hl
  · exact s_L_has_23 hG hl
  · exact s_L_has_24 hG hl
  · exact s_L_has_25 hG hl
  · exact s_L_has_27 hG hl
  · exact s_L_has_28 hG hl
  · exact s_L_has_29 hG hl
  · exact s_L_has_30 hG hl
def tx_L_house : ev_X := ev_hf [(0, 10, 1, 13, 21, 3, 14)]
noncomputable def tb_L_house (X : ev_E) : List (Nat × (ev_S → ev_N)) := [(0, i_al 2 1), (1, i_al 0 2), (2, i_il 1 3), (3, i_cV X 106 1 10 2 6), (6, i_i2l 7), (7, i_pf 11 0 (.long) 10), (10, i_goto 16), (13, i_as 3 14), (14, i_psh (.int (1)) 15), (15, i_ir (.int)), (16, i_psh (.int (0)) 17), (17, i_ir (.int))]
theorem s_L_house_0 {X : ev_E} {l : Launch} (hG : ev_Good X) (hl : l.stackTraces = false) : ev_Snd X l ev_ms x_L_house tx_L_house 0 (i_al 2 1) := s_aload_n dL_house_0 rfl
theorem s_L_house_1 {X : ev_E} {l : Launch} (hG : ev_Good X) (hl : l.stackTraces = false) : ev_Snd X l ev_ms x_L_house tx_L_house 1 (i_al 0 2) := s_aload_n dL_house_1 rfl
theorem s_L_house_2 {X : ev_E} {l : Launch} (hG : ev_Good X) (hl : l.stackTraces = false) : ev_Snd X l ev_ms x_L_house tx_L_house 2 (i_il 1 3) := s_iload_n dL_house_2 rfl
theorem s_L_house_3 {X : ev_E} {l : Launch} (hG : ev_Good X) (hl : l.stackTraces = false) : ev_Snd X l ev_ms x_L_house tx_L_house 3 (i_cV X 106 1 10 2 6) := s_invokevirtual hG (mi := 106) (n := 1) (ci := 10) (r := (RX5, TX5, 7)) rfl (cal_X5_house (Nat.le_of_ble_eq_true rfl)) w_1178 w_683 w_684 dL_house_3
theorem s_L_house_6 {X : ev_E} {l : Launch} (hG : ev_Good X) (hl : l.stackTraces = false) : ev_Snd X l ev_ms x_L_house tx_L_house 6 (i_i2l 7) := s_i2l dL_house_6
theorem s_L_house_7 {X : ev_E} {l : Launch} (hG : ev_Good X) (hl : l.stackTraces = false) : ev_Snd X l ev_ms x_L_house tx_L_house 7 (i_pf 11 0 (.long) 10) := s_putfieldN hG (ci := 11) (r := (RX6, TX6, 2)) rfl cw_11 ap_11 (k := 0) (Nat.le_of_ble_eq_true rfl) rfl (by decide +kernel) w_811 rfl dL_house_7
theorem s_L_house_10 {X : ev_E} {l : Launch} (hG : ev_Good X) (hl : l.stackTraces = false) : ev_Snd X l ev_ms x_L_house tx_L_house 10 (i_goto 16) := s_goto dL_house_10 rfl
theorem s_L_house_13 {X : ev_E} {l : Launch} (hG : ev_Good X) (hl : l.stackTraces = false) : ev_Snd X l ev_ms x_L_house tx_L_house 13 (i_as 3 14) := s_astore_n dL_house_13 rfl (Nat.le_of_ble_eq_true rfl)
theorem s_L_house_14 {X : ev_E} {l : Launch} (hG : ev_Good X) (hl : l.stackTraces = false) : ev_Snd X l ev_ms x_L_house tx_L_house 14 (i_psh (.int (1)) 15) := s_iconst dL_house_14 rfl
theorem s_L_house_15 {X : ev_E} {l : Launch} (hG : ev_Good X) (hl : l.stackTraces = false) : ev_Snd X l ev_ms x_L_house tx_L_house 15 (i_ir (.int)) := s_ireturn rfl dL_house_15
theorem s_L_house_16 {X : ev_E} {l : Launch} (hG : ev_Good X) (hl : l.stackTraces = false) : ev_Snd X l ev_ms x_L_house tx_L_house 16 (i_psh (.int (0)) 17) := s_iconst dL_house_16 rfl
theorem s_L_house_17 {X : ev_E} {l : Launch} (hG : ev_Good X) (hl : l.stackTraces = false) : ev_Snd X l ev_ms x_L_house tx_L_house 17 (i_ir (.int)) := s_ireturn rfl dL_house_17
theorem sa_L_house {X : ev_E} {l : Launch} (hG : ev_Good X) (hl : l.stackTraces = false) : ∀ q ∈ tb_L_house X, ev_Snd X l ev_ms x_L_house tx_L_house q.1 q.2 := by
  intro q hq
  unfold tb_L_house at hq
  simp only [List.mem_cons, List.not_mem_nil, or_false] at hq
  rcases hq with rfl | rfl | rfl | rfl | rfl | rfl | rfl | rfl | rfl | rfl | rfl | rfl
  · exact s_L_house_0 hG hl
  · exact s_L_house_1 hG hl
  · exact s_L_house_2 hG hl
  · exact s_L_house_3 hG hl
  · exact s_L_house_6 hG hl
  · exact s_L_house_7 hG hl
  · exact s_L_house_10 hG hl
  · exact s_L_house_13 hG hl
  · exact s_L_house_14 hG hl
  · exact s_L_house_15 hG hl
  · exact s_L_house_16 hG hl
  · exact s_L_house_17 hG hl
def tx_L_isStale : ev_X := ev_hf [(0, 17, 0, 20, 19, 3, 21)]
noncomputable def tb_L_isStale (X : ev_E) : List (Nat × (ev_S → ev_N)) := [(0, i_al 2 1), (1, i_al 0 2), (2, i_il 1 3), (3, i_cV X 108 1 10 2 6), (6, i_ifeq 13 9), (9, i_psh (.long 1) 10), (10, i_goto 14), (13, i_psh (.long 0) 14), (14, i_pf 11 0 (.long) 17), (17, i_goto 23), (20, i_as 3 21), (21, i_psh (.int (1)) 22), (22, i_ir (.int)), (23, i_psh (.int (0)) 24), (24, i_ir (.int))]
theorem s_L_isStale_0 {X : ev_E} {l : Launch} (hG : ev_Good X) (hl : l.stackTraces = false) : ev_Snd X l ev_ms x_L_isStale tx_L_isStale 0 (i_al 2 1) := s_aload_n dL_isStale_0 rfl
theorem s_L_isStale_1 {X : ev_E} {l : Launch} (hG : ev_Good X) (hl : l.stackTraces = false) : ev_Snd X l ev_ms x_L_isStale tx_L_isStale 1 (i_al 0 2) := s_aload_n dL_isStale_1 rfl
theorem s_L_isStale_2 {X : ev_E} {l : Launch} (hG : ev_Good X) (hl : l.stackTraces = false) : ev_Snd X l ev_ms x_L_isStale tx_L_isStale 2 (i_il 1 3) := s_iload_n dL_isStale_2 rfl
theorem s_L_isStale_3 {X : ev_E} {l : Launch} (hG : ev_Good X) (hl : l.stackTraces = false) : ev_Snd X l ev_ms x_L_isStale tx_L_isStale 3 (i_cV X 108 1 10 2 6) := s_invokevirtual hG (mi := 108) (n := 1) (ci := 10) (r := (RX5, TX5, 7)) rfl (cal_X5_isStale (Nat.le_of_ble_eq_true rfl)) w_1072 w_759 w_760 dL_isStale_3
theorem s_L_isStale_6 {X : ev_E} {l : Launch} (hG : ev_Good X) (hl : l.stackTraces = false) : ev_Snd X l ev_ms x_L_isStale tx_L_isStale 6 (i_ifeq 13 9) := s_ifeq dL_isStale_6 rfl
theorem s_L_isStale_9 {X : ev_E} {l : Launch} (hG : ev_Good X) (hl : l.stackTraces = false) : ev_Snd X l ev_ms x_L_isStale tx_L_isStale 9 (i_psh (.long 1) 10) := s_lconst dL_isStale_9 rfl
theorem s_L_isStale_10 {X : ev_E} {l : Launch} (hG : ev_Good X) (hl : l.stackTraces = false) : ev_Snd X l ev_ms x_L_isStale tx_L_isStale 10 (i_goto 14) := s_goto dL_isStale_10 rfl
theorem s_L_isStale_13 {X : ev_E} {l : Launch} (hG : ev_Good X) (hl : l.stackTraces = false) : ev_Snd X l ev_ms x_L_isStale tx_L_isStale 13 (i_psh (.long 0) 14) := s_lconst dL_isStale_13 rfl
theorem s_L_isStale_14 {X : ev_E} {l : Launch} (hG : ev_Good X) (hl : l.stackTraces = false) : ev_Snd X l ev_ms x_L_isStale tx_L_isStale 14 (i_pf 11 0 (.long) 17) := s_putfieldN hG (ci := 11) (r := (RX6, TX6, 2)) rfl cw_11 ap_11 (k := 0) (Nat.le_of_ble_eq_true rfl) rfl (by decide +kernel) w_811 rfl dL_isStale_14
theorem s_L_isStale_17 {X : ev_E} {l : Launch} (hG : ev_Good X) (hl : l.stackTraces = false) : ev_Snd X l ev_ms x_L_isStale tx_L_isStale 17 (i_goto 23) := s_goto dL_isStale_17 rfl
theorem s_L_isStale_20 {X : ev_E} {l : Launch} (hG : ev_Good X) (hl : l.stackTraces = false) : ev_Snd X l ev_ms x_L_isStale tx_L_isStale 20 (i_as 3 21) := s_astore_n dL_isStale_20 rfl (Nat.le_of_ble_eq_true rfl)
theorem s_L_isStale_21 {X : ev_E} {l : Launch} (hG : ev_Good X) (hl : l.stackTraces = false) : ev_Snd X l ev_ms x_L_isStale tx_L_isStale 21 (i_psh (.int (1)) 22) := s_iconst dL_isStale_21 rfl
theorem s_L_isStale_22 {X : ev_E} {l : Launch} (hG : ev_Good X) (hl : l.stackTraces = false) : ev_Snd X l ev_ms x_L_isStale tx_L_isStale 22 (i_ir (.int)) := s_ireturn rfl dL_isStale_22
theorem s_L_isStale_23 {X : ev_E} {l : Launch} (hG : ev_Good X) (hl : l.stackTraces = false) : ev_Snd X l ev_ms x_L_isStale tx_L_isStale 23 (i_psh (.int (0)) 24) := s_iconst dL_isStale_23 rfl
theorem s_L_isStale_24 {X : ev_E} {l : Launch} (hG : ev_Good X) (hl : l.stackTraces = false) : ev_Snd X l ev_ms x_L_isStale tx_L_isStale 24 (i_ir (.int)) := s_ireturn rfl dL_isStale_24
theorem sa_L_isStale {X : ev_E} {l : Launch} (hG : ev_Good X) (hl : l.stackTraces = false) : ∀ q ∈ tb_L_isStale X, ev_Snd X l ev_ms x_L_isStale tx_L_isStale q.1 q.2 := by
  intro q hq
  unfold tb_L_isStale at hq
  simp only [List.mem_cons, List.not_mem_nil, or_false] at hq
  rcases hq with rfl | rfl | rfl | rfl | rfl | rfl | rfl | rfl | rfl | rfl | rfl | rfl | rfl | rfl | rfl
  · exact s_L_isStale_0 hG hl
  · exact s_L_isStale_1 hG hl
  · exact s_L_isStale_2 hG hl
  · exact s_L_isStale_3 hG hl
  · exact s_L_isStale_6 hG hl
  · exact s_L_isStale_9 hG hl
  · exact s_L_isStale_10 hG hl
  · exact s_L_isStale_13 hG hl
  · exact s_L_isStale_14 hG hl
  · exact s_L_isStale_17 hG hl
  · exact s_L_isStale_20 hG hl
  · exact s_L_isStale_21 hG hl
  · exact s_L_isStale_22 hG hl
  · exact s_L_isStale_23 hG hl
  · exact s_L_isStale_24 hG hl
def tx_L_ofTable : ev_X := ev_hf [(0, 11, 0, 14, 19, 4, 16), (0, 11, 1, 18, 21, 4, 20)]
noncomputable def tb_L_ofTable (X : ev_E) : List (Nat × (ev_S → ev_N)) := [(0, i_al 3 1), (1, i_al 0 2), (2, i_il 1 3), (3, i_il 2 4), (4, i_cV X 110 2 10 4 7), (7, i_i2l 8), (8, i_pf 11 0 (.long) 11), (11, i_goto 22), (14, i_as 4 16), (16, i_psh (.int (1)) 17), (17, i_ir (.int)), (18, i_as 4 20), (20, i_psh (.int (2)) 21), (21, i_ir (.int)), (22, i_psh (.int (0)) 23), (23, i_ir (.int))]
theorem s_L_ofTable_0 {X : ev_E} {l : Launch} (hG : ev_Good X) (hl : l.stackTraces = false) : ev_Snd X l ev_ms x_L_ofTable tx_L_ofTable 0 (i_al 3 1) := s_aload_n dL_ofTable_0 rfl
theorem s_L_ofTable_1 {X : ev_E} {l : Launch} (hG : ev_Good X) (hl : l.stackTraces = false) : ev_Snd X l ev_ms x_L_ofTable tx_L_ofTable 1 (i_al 0 2) := s_aload_n dL_ofTable_1 rfl
theorem s_L_ofTable_2 {X : ev_E} {l : Launch} (hG : ev_Good X) (hl : l.stackTraces = false) : ev_Snd X l ev_ms x_L_ofTable tx_L_ofTable 2 (i_il 1 3) := s_iload_n dL_ofTable_2 rfl
theorem s_L_ofTable_3 {X : ev_E} {l : Launch} (hG : ev_Good X) (hl : l.stackTraces = false) : ev_Snd X l ev_ms x_L_ofTable tx_L_ofTable 3 (i_il 2 4) := s_iload_n dL_ofTable_3 rfl
theorem s_L_ofTable_4 {X : ev_E} {l : Launch} (hG : ev_Good X) (hl : l.stackTraces = false) : ev_Snd X l ev_ms x_L_ofTable tx_L_ofTable 4 (i_cV X 110 2 10 4 7) := s_invokevirtual hG (mi := 110) (n := 2) (ci := 10) (r := (RX5, TX5, 7)) rfl (cal_X5_ofTable (Nat.le_of_ble_eq_true rfl)) w_1024 w_702 w_703 dL_ofTable_4
theorem s_L_ofTable_7 {X : ev_E} {l : Launch} (hG : ev_Good X) (hl : l.stackTraces = false) : ev_Snd X l ev_ms x_L_ofTable tx_L_ofTable 7 (i_i2l 8) := s_i2l dL_ofTable_7
theorem s_L_ofTable_8 {X : ev_E} {l : Launch} (hG : ev_Good X) (hl : l.stackTraces = false) : ev_Snd X l ev_ms x_L_ofTable tx_L_ofTable 8 (i_pf 11 0 (.long) 11) := s_putfieldN hG (ci := 11) (r := (RX6, TX6, 2)) rfl cw_11 ap_11 (k := 0) (Nat.le_of_ble_eq_true rfl) rfl (by decide +kernel) w_811 rfl dL_ofTable_8
theorem s_L_ofTable_11 {X : ev_E} {l : Launch} (hG : ev_Good X) (hl : l.stackTraces = false) : ev_Snd X l ev_ms x_L_ofTable tx_L_ofTable 11 (i_goto 22) := s_goto dL_ofTable_11 rfl
theorem s_L_ofTable_14 {X : ev_E} {l : Launch} (hG : ev_Good X) (hl : l.stackTraces = false) : ev_Snd X l ev_ms x_L_ofTable tx_L_ofTable 14 (i_as 4 16) := s_astore dL_ofTable_14 (Nat.le_of_ble_eq_true rfl)
theorem s_L_ofTable_16 {X : ev_E} {l : Launch} (hG : ev_Good X) (hl : l.stackTraces = false) : ev_Snd X l ev_ms x_L_ofTable tx_L_ofTable 16 (i_psh (.int (1)) 17) := s_iconst dL_ofTable_16 rfl
theorem s_L_ofTable_17 {X : ev_E} {l : Launch} (hG : ev_Good X) (hl : l.stackTraces = false) : ev_Snd X l ev_ms x_L_ofTable tx_L_ofTable 17 (i_ir (.int)) := s_ireturn rfl dL_ofTable_17
theorem s_L_ofTable_18 {X : ev_E} {l : Launch} (hG : ev_Good X) (hl : l.stackTraces = false) : ev_Snd X l ev_ms x_L_ofTable tx_L_ofTable 18 (i_as 4 20) := s_astore dL_ofTable_18 (Nat.le_of_ble_eq_true rfl)
theorem s_L_ofTable_20 {X : ev_E} {l : Launch} (hG : ev_Good X) (hl : l.stackTraces = false) : ev_Snd X l ev_ms x_L_ofTable tx_L_ofTable 20 (i_psh (.int (2)) 21) := s_iconst dL_ofTable_20 rfl
theorem s_L_ofTable_21 {X : ev_E} {l : Launch} (hG : ev_Good X) (hl : l.stackTraces = false) : ev_Snd X l ev_ms x_L_ofTable tx_L_ofTable 21 (i_ir (.int)) := s_ireturn rfl dL_ofTable_21
theorem s_L_ofTable_22 {X : ev_E} {l : Launch} (hG : ev_Good X) (hl : l.stackTraces = false) : ev_Snd X l ev_ms x_L_ofTable tx_L_ofTable 22 (i_psh (.int (0)) 23) := s_iconst dL_ofTable_22 rfl
theorem s_L_ofTable_23 {X : ev_E} {l : Launch} (hG : ev_Good X) (hl : l.stackTraces = false) : ev_Snd X l ev_ms x_L_ofTable tx_L_ofTable 23 (i_ir (.int)) := s_ireturn rfl dL_ofTable_23
theorem sa_L_ofTable {X : ev_E} {l : Launch} (hG : ev_Good X) (hl : l.stackTraces = false) : ∀ q ∈ tb_L_ofTable X, ev_Snd X l ev_ms x_L_ofTable tx_L_ofTable q.1 q.2 := by
  intro q hq
  unfold tb_L_ofTable at hq
  simp only [List.mem_cons, List.not_mem_nil, or_false] at hq
  rcases hq with rfl | rfl | rfl | rfl | rfl | rfl | rfl | rfl | rfl | rfl | rfl | rfl | rfl | rfl | rfl | rfl
  · exact s_L_ofTable_0 hG hl
  · exact s_L_ofTable_1 hG hl
  · exact s_L_ofTable_2 hG hl
  · exact s_L_ofTable_3 hG hl
  · exact s_L_ofTable_4 hG hl
  · exact s_L_ofTable_7 hG hl
  · exact s_L_ofTable_8 hG hl
  · exact s_L_ofTable_11 hG hl
  · exact s_L_ofTable_14 hG hl
  · exact s_L_ofTable_16 hG hl
  · exact s_L_ofTable_17 hG hl
  · exact s_L_ofTable_18 hG hl
  · exact s_L_ofTable_20 hG hl
  · exact s_L_ofTable_21 hG hl
  · exact s_L_ofTable_22 hG hl
  · exact s_L_ofTable_23 hG hl
def tx_L_placeOf : ev_X := ev_hf [(0, 11, 0, 14, 19, 4, 16), (0, 11, 1, 18, 21, 4, 20)]
noncomputable def tb_L_placeOf (X : ev_E) : List (Nat × (ev_S → ev_N)) := [(0, i_al 3 1), (1, i_al 0 2), (2, i_il 1 3), (3, i_il 2 4), (4, i_cV X 111 2 10 4 7), (7, i_i2l 8), (8, i_pf 11 0 (.long) 11), (11, i_goto 22), (14, i_as 4 16), (16, i_psh (.int (1)) 17), (17, i_ir (.int)), (18, i_as 4 20), (20, i_psh (.int (2)) 21), (21, i_ir (.int)), (22, i_psh (.int (0)) 23), (23, i_ir (.int))]
theorem s_L_placeOf_0 {X : ev_E} {l : Launch} (hG : ev_Good X) (hl : l.stackTraces = false) : ev_Snd X l ev_ms x_L_placeOf tx_L_placeOf 0 (i_al 3 1) := s_aload_n dL_placeOf_0 rfl
theorem s_L_placeOf_1 {X : ev_E} {l : Launch} (hG : ev_Good X) (hl : l.stackTraces = false) : ev_Snd X l ev_ms x_L_placeOf tx_L_placeOf 1 (i_al 0 2) := s_aload_n dL_placeOf_1 rfl
theorem s_L_placeOf_2 {X : ev_E} {l : Launch} (hG : ev_Good X) (hl : l.stackTraces = false) : ev_Snd X l ev_ms x_L_placeOf tx_L_placeOf 2 (i_il 1 3) := s_iload_n dL_placeOf_2 rfl
theorem s_L_placeOf_3 {X : ev_E} {l : Launch} (hG : ev_Good X) (hl : l.stackTraces = false) : ev_Snd X l ev_ms x_L_placeOf tx_L_placeOf 3 (i_il 2 4) := s_iload_n dL_placeOf_3 rfl
theorem s_L_placeOf_4 {X : ev_E} {l : Launch} (hG : ev_Good X) (hl : l.stackTraces = false) : ev_Snd X l ev_ms x_L_placeOf tx_L_placeOf 4 (i_cV X 111 2 10 4 7) := s_invokevirtual hG (mi := 111) (n := 2) (ci := 10) (r := (RX5, TX5, 7)) rfl (cal_X5_placeOf (Nat.le_of_ble_eq_true rfl)) w_992 w_993 w_994 dL_placeOf_4
theorem s_L_placeOf_7 {X : ev_E} {l : Launch} (hG : ev_Good X) (hl : l.stackTraces = false) : ev_Snd X l ev_ms x_L_placeOf tx_L_placeOf 7 (i_i2l 8) := s_i2l dL_placeOf_7
theorem s_L_placeOf_8 {X : ev_E} {l : Launch} (hG : ev_Good X) (hl : l.stackTraces = false) : ev_Snd X l ev_ms x_L_placeOf tx_L_placeOf 8 (i_pf 11 0 (.long) 11) := s_putfieldN hG (ci := 11) (r := (RX6, TX6, 2)) rfl cw_11 ap_11 (k := 0) (Nat.le_of_ble_eq_true rfl) rfl (by decide +kernel) w_811 rfl dL_placeOf_8
theorem s_L_placeOf_11 {X : ev_E} {l : Launch} (hG : ev_Good X) (hl : l.stackTraces = false) : ev_Snd X l ev_ms x_L_placeOf tx_L_placeOf 11 (i_goto 22) := s_goto dL_placeOf_11 rfl
theorem s_L_placeOf_14 {X : ev_E} {l : Launch} (hG : ev_Good X) (hl : l.stackTraces = false) : ev_Snd X l ev_ms x_L_placeOf tx_L_placeOf 14 (i_as 4 16) := s_astore dL_placeOf_14 (Nat.le_of_ble_eq_true rfl)
theorem s_L_placeOf_16 {X : ev_E} {l : Launch} (hG : ev_Good X) (hl : l.stackTraces = false) : ev_Snd X l ev_ms x_L_placeOf tx_L_placeOf 16 (i_psh (.int (1)) 17) := s_iconst dL_placeOf_16 rfl
theorem s_L_placeOf_17 {X : ev_E} {l : Launch} (hG : ev_Good X) (hl : l.stackTraces = false) : ev_Snd X l ev_ms x_L_placeOf tx_L_placeOf 17 (i_ir (.int)) := s_ireturn rfl dL_placeOf_17
theorem s_L_placeOf_18 {X : ev_E} {l : Launch} (hG : ev_Good X) (hl : l.stackTraces = false) : ev_Snd X l ev_ms x_L_placeOf tx_L_placeOf 18 (i_as 4 20) := s_astore dL_placeOf_18 (Nat.le_of_ble_eq_true rfl)
theorem s_L_placeOf_20 {X : ev_E} {l : Launch} (hG : ev_Good X) (hl : l.stackTraces = false) : ev_Snd X l ev_ms x_L_placeOf tx_L_placeOf 20 (i_psh (.int (2)) 21) := s_iconst dL_placeOf_20 rfl
theorem s_L_placeOf_21 {X : ev_E} {l : Launch} (hG : ev_Good X) (hl : l.stackTraces = false) : ev_Snd X l ev_ms x_L_placeOf tx_L_placeOf 21 (i_ir (.int)) := s_ireturn rfl dL_placeOf_21
theorem s_L_placeOf_22 {X : ev_E} {l : Launch} (hG : ev_Good X) (hl : l.stackTraces = false) : ev_Snd X l ev_ms x_L_placeOf tx_L_placeOf 22 (i_psh (.int (0)) 23) := s_iconst dL_placeOf_22 rfl
theorem s_L_placeOf_23 {X : ev_E} {l : Launch} (hG : ev_Good X) (hl : l.stackTraces = false) : ev_Snd X l ev_ms x_L_placeOf tx_L_placeOf 23 (i_ir (.int)) := s_ireturn rfl dL_placeOf_23
theorem sa_L_placeOf {X : ev_E} {l : Launch} (hG : ev_Good X) (hl : l.stackTraces = false) : ∀ q ∈ tb_L_placeOf X, ev_Snd X l ev_ms x_L_placeOf tx_L_placeOf q.1 q.2 := by
  intro q hq
  unfold tb_L_placeOf at hq
  simp only [List.mem_cons, List.not_mem_nil, or_false] at hq
  rcases hq with rfl | rfl | rfl | rfl | rfl | rfl | rfl | rfl | rfl | rfl | rfl | rfl | rfl | rfl | rfl | rfl
  · exact s_L_placeOf_0 hG hl
  · exact s_L_placeOf_1 hG hl
  · exact s_L_placeOf_2 hG hl
  · exact s_L_placeOf_3 hG hl
  · exact s_L_placeOf_4 hG hl
  · exact s_L_placeOf_7 hG hl
  · exact s_L_placeOf_8 hG hl
  · exact s_L_placeOf_11 hG hl
  · exact s_L_placeOf_14 hG hl
  · exact s_L_placeOf_16 hG hl
  · exact s_L_placeOf_17 hG hl
  · exact s_L_placeOf_18 hG hl
  · exact s_L_placeOf_20 hG hl
  · exact s_L_placeOf_21 hG hl
  · exact s_L_placeOf_22 hG hl
  · exact s_L_placeOf_23 hG hl
def tx_L_size : ev_X := ev_hf [(0, 10, 0, 13, 19, 3, 14)]
noncomputable def tb_L_size (X : ev_E) : List (Nat × (ev_S → ev_N)) := [(0, i_al 2 1), (1, i_al 0 2), (2, i_il 1 3), (3, i_cV X 112 1 10 2 6), (6, i_i2l 7), (7, i_pf 11 0 (.long) 10), (10, i_goto 16), (13, i_as 3 14), (14, i_psh (.int (1)) 15), (15, i_ir (.int)), (16, i_psh (.int (0)) 17), (17, i_ir (.int))]
theorem s_L_size_0 {X : ev_E} {l : Launch} (hG : ev_Good X) (hl : l.stackTraces = false) : ev_Snd X l ev_ms x_L_size tx_L_size 0 (i_al 2 1) := s_aload_n dL_size_0 rfl
theorem s_L_size_1 {X : ev_E} {l : Launch} (hG : ev_Good X) (hl : l.stackTraces = false) : ev_Snd X l ev_ms x_L_size tx_L_size 1 (i_al 0 2) := s_aload_n dL_size_1 rfl
theorem s_L_size_2 {X : ev_E} {l : Launch} (hG : ev_Good X) (hl : l.stackTraces = false) : ev_Snd X l ev_ms x_L_size tx_L_size 2 (i_il 1 3) := s_iload_n dL_size_2 rfl
theorem s_L_size_3 {X : ev_E} {l : Launch} (hG : ev_Good X) (hl : l.stackTraces = false) : ev_Snd X l ev_ms x_L_size tx_L_size 3 (i_cV X 112 1 10 2 6) := s_invokevirtual hG (mi := 112) (n := 1) (ci := 10) (r := (RX5, TX5, 7)) rfl (cal_X5_size (Nat.le_of_ble_eq_true rfl)) w_970 w_730 w_731 dL_size_3
theorem s_L_size_6 {X : ev_E} {l : Launch} (hG : ev_Good X) (hl : l.stackTraces = false) : ev_Snd X l ev_ms x_L_size tx_L_size 6 (i_i2l 7) := s_i2l dL_size_6
theorem s_L_size_7 {X : ev_E} {l : Launch} (hG : ev_Good X) (hl : l.stackTraces = false) : ev_Snd X l ev_ms x_L_size tx_L_size 7 (i_pf 11 0 (.long) 10) := s_putfieldN hG (ci := 11) (r := (RX6, TX6, 2)) rfl cw_11 ap_11 (k := 0) (Nat.le_of_ble_eq_true rfl) rfl (by decide +kernel) w_811 rfl dL_size_7
theorem s_L_size_10 {X : ev_E} {l : Launch} (hG : ev_Good X) (hl : l.stackTraces = false) : ev_Snd X l ev_ms x_L_size tx_L_size 10 (i_goto 16) := s_goto dL_size_10 rfl
theorem s_L_size_13 {X : ev_E} {l : Launch} (hG : ev_Good X) (hl : l.stackTraces = false) : ev_Snd X l ev_ms x_L_size tx_L_size 13 (i_as 3 14) := s_astore_n dL_size_13 rfl (Nat.le_of_ble_eq_true rfl)
theorem s_L_size_14 {X : ev_E} {l : Launch} (hG : ev_Good X) (hl : l.stackTraces = false) : ev_Snd X l ev_ms x_L_size tx_L_size 14 (i_psh (.int (1)) 15) := s_iconst dL_size_14 rfl
theorem s_L_size_15 {X : ev_E} {l : Launch} (hG : ev_Good X) (hl : l.stackTraces = false) : ev_Snd X l ev_ms x_L_size tx_L_size 15 (i_ir (.int)) := s_ireturn rfl dL_size_15
theorem s_L_size_16 {X : ev_E} {l : Launch} (hG : ev_Good X) (hl : l.stackTraces = false) : ev_Snd X l ev_ms x_L_size tx_L_size 16 (i_psh (.int (0)) 17) := s_iconst dL_size_16 rfl
theorem s_L_size_17 {X : ev_E} {l : Launch} (hG : ev_Good X) (hl : l.stackTraces = false) : ev_Snd X l ev_ms x_L_size tx_L_size 17 (i_ir (.int)) := s_ireturn rfl dL_size_17
theorem sa_L_size {X : ev_E} {l : Launch} (hG : ev_Good X) (hl : l.stackTraces = false) : ∀ q ∈ tb_L_size X, ev_Snd X l ev_ms x_L_size tx_L_size q.1 q.2 := by
  intro q hq
  unfold tb_L_size at hq
  simp only [List.mem_cons, List.not_mem_nil, or_false] at hq
  rcases hq with rfl | rfl | rfl | rfl | rfl | rfl | rfl | rfl | rfl | rfl | rfl | rfl
  · exact s_L_size_0 hG hl
  · exact s_L_size_1 hG hl
  · exact s_L_size_2 hG hl
  · exact s_L_size_3 hG hl
  · exact s_L_size_6 hG hl
  · exact s_L_size_7 hG hl
  · exact s_L_size_10 hG hl
  · exact s_L_size_13 hG hl
  · exact s_L_size_14 hG hl
  · exact s_L_size_15 hG hl
  · exact s_L_size_16 hG hl
  · exact s_L_size_17 hG hl
def tx_L_walk : ev_X := ev_hf [(0, 11, 0, 14, 19, 4, 16), (0, 11, 1, 18, 21, 4, 20)]
noncomputable def tb_L_walk (X : ev_E) : List (Nat × (ev_S → ev_N)) := [(0, i_al 3 1), (1, i_al 0 2), (2, i_il 1 3), (3, i_il 2 4), (4, i_cV X 113 2 10 4 7), (7, i_i2l 8), (8, i_pf 11 0 (.long) 11), (11, i_goto 22), (14, i_as 4 16), (16, i_psh (.int (1)) 17), (17, i_ir (.int)), (18, i_as 4 20), (20, i_psh (.int (2)) 21), (21, i_ir (.int)), (22, i_psh (.int (0)) 23), (23, i_ir (.int))]
theorem s_L_walk_0 {X : ev_E} {l : Launch} (hG : ev_Good X) (hl : l.stackTraces = false) : ev_Snd X l ev_ms x_L_walk tx_L_walk 0 (i_al 3 1) := s_aload_n dL_walk_0 rfl
theorem s_L_walk_1 {X : ev_E} {l : Launch} (hG : ev_Good X) (hl : l.stackTraces = false) : ev_Snd X l ev_ms x_L_walk tx_L_walk 1 (i_al 0 2) := s_aload_n dL_walk_1 rfl
theorem s_L_walk_2 {X : ev_E} {l : Launch} (hG : ev_Good X) (hl : l.stackTraces = false) : ev_Snd X l ev_ms x_L_walk tx_L_walk 2 (i_il 1 3) := s_iload_n dL_walk_2 rfl
theorem s_L_walk_3 {X : ev_E} {l : Launch} (hG : ev_Good X) (hl : l.stackTraces = false) : ev_Snd X l ev_ms x_L_walk tx_L_walk 3 (i_il 2 4) := s_iload_n dL_walk_3 rfl
theorem s_L_walk_4 {X : ev_E} {l : Launch} (hG : ev_Good X) (hl : l.stackTraces = false) : ev_Snd X l ev_ms x_L_walk tx_L_walk 4 (i_cV X 113 2 10 4 7) := s_invokevirtual hG (mi := 113) (n := 2) (ci := 10) (r := (RX5, TX5, 7)) rfl (cal_X5_walk (Nat.le_of_ble_eq_true rfl)) w_1028 w_1029 w_1030 dL_walk_4
theorem s_L_walk_7 {X : ev_E} {l : Launch} (hG : ev_Good X) (hl : l.stackTraces = false) : ev_Snd X l ev_ms x_L_walk tx_L_walk 7 (i_i2l 8) := s_i2l dL_walk_7
theorem s_L_walk_8 {X : ev_E} {l : Launch} (hG : ev_Good X) (hl : l.stackTraces = false) : ev_Snd X l ev_ms x_L_walk tx_L_walk 8 (i_pf 11 0 (.long) 11) := s_putfieldN hG (ci := 11) (r := (RX6, TX6, 2)) rfl cw_11 ap_11 (k := 0) (Nat.le_of_ble_eq_true rfl) rfl (by decide +kernel) w_811 rfl dL_walk_8
theorem s_L_walk_11 {X : ev_E} {l : Launch} (hG : ev_Good X) (hl : l.stackTraces = false) : ev_Snd X l ev_ms x_L_walk tx_L_walk 11 (i_goto 22) := s_goto dL_walk_11 rfl
theorem s_L_walk_14 {X : ev_E} {l : Launch} (hG : ev_Good X) (hl : l.stackTraces = false) : ev_Snd X l ev_ms x_L_walk tx_L_walk 14 (i_as 4 16) := s_astore dL_walk_14 (Nat.le_of_ble_eq_true rfl)
theorem s_L_walk_16 {X : ev_E} {l : Launch} (hG : ev_Good X) (hl : l.stackTraces = false) : ev_Snd X l ev_ms x_L_walk tx_L_walk 16 (i_psh (.int (1)) 17) := s_iconst dL_walk_16 rfl
theorem s_L_walk_17 {X : ev_E} {l : Launch} (hG : ev_Good X) (hl : l.stackTraces = false) : ev_Snd X l ev_ms x_L_walk tx_L_walk 17 (i_ir (.int)) := s_ireturn rfl dL_walk_17
theorem s_L_walk_18 {X : ev_E} {l : Launch} (hG : ev_Good X) (hl : l.stackTraces = false) : ev_Snd X l ev_ms x_L_walk tx_L_walk 18 (i_as 4 20) := s_astore dL_walk_18 (Nat.le_of_ble_eq_true rfl)
theorem s_L_walk_20 {X : ev_E} {l : Launch} (hG : ev_Good X) (hl : l.stackTraces = false) : ev_Snd X l ev_ms x_L_walk tx_L_walk 20 (i_psh (.int (2)) 21) := s_iconst dL_walk_20 rfl
theorem s_L_walk_21 {X : ev_E} {l : Launch} (hG : ev_Good X) (hl : l.stackTraces = false) : ev_Snd X l ev_ms x_L_walk tx_L_walk 21 (i_ir (.int)) := s_ireturn rfl dL_walk_21
theorem s_L_walk_22 {X : ev_E} {l : Launch} (hG : ev_Good X) (hl : l.stackTraces = false) : ev_Snd X l ev_ms x_L_walk tx_L_walk 22 (i_psh (.int (0)) 23) := s_iconst dL_walk_22 rfl
theorem s_L_walk_23 {X : ev_E} {l : Launch} (hG : ev_Good X) (hl : l.stackTraces = false) : ev_Snd X l ev_ms x_L_walk tx_L_walk 23 (i_ir (.int)) := s_ireturn rfl dL_walk_23
theorem sa_L_walk {X : ev_E} {l : Launch} (hG : ev_Good X) (hl : l.stackTraces = false) : ∀ q ∈ tb_L_walk X, ev_Snd X l ev_ms x_L_walk tx_L_walk q.1 q.2 := by
  intro q hq
  unfold tb_L_walk at hq
  simp only [List.mem_cons, List.not_mem_nil, or_false] at hq
  rcases hq with rfl | rfl | rfl | rfl | rfl | rfl | rfl | rfl | rfl | rfl | rfl | rfl | rfl | rfl | rfl | rfl
  · exact s_L_walk_0 hG hl
  · exact s_L_walk_1 hG hl
  · exact s_L_walk_2 hG hl
  · exact s_L_walk_3 hG hl
  · exact s_L_walk_4 hG hl
  · exact s_L_walk_7 hG hl
  · exact s_L_walk_8 hG hl
  · exact s_L_walk_11 hG hl
  · exact s_L_walk_14 hG hl
  · exact s_L_walk_16 hG hl
  · exact s_L_walk_17 hG hl
  · exact s_L_walk_18 hG hl
  · exact s_L_walk_20 hG hl
  · exact s_L_walk_21 hG hl
  · exact s_L_walk_22 hG hl
  · exact s_L_walk_23 hG hl
def tx_L_best : ev_X := ev_hf [(0, 10, 1, 13, 21, 3, 14)]
noncomputable def tb_L_best (X : ev_E) : List (Nat × (ev_S → ev_N)) := [(0, i_al 2 1), (1, i_al 0 2), (2, i_il 1 3), (3, i_cV X 148 1 10 2 6), (6, i_i2l 7), (7, i_pf 11 0 (.long) 10), (10, i_goto 16), (13, i_as 3 14), (14, i_psh (.int (1)) 15), (15, i_ir (.int)), (16, i_psh (.int (0)) 17), (17, i_ir (.int))]
theorem s_L_best_0 {X : ev_E} {l : Launch} (hG : ev_Good X) (hl : l.stackTraces = false) : ev_Snd X l ev_ms x_L_best tx_L_best 0 (i_al 2 1) := s_aload_n dL_best_0 rfl
theorem s_L_best_1 {X : ev_E} {l : Launch} (hG : ev_Good X) (hl : l.stackTraces = false) : ev_Snd X l ev_ms x_L_best tx_L_best 1 (i_al 0 2) := s_aload_n dL_best_1 rfl
theorem s_L_best_2 {X : ev_E} {l : Launch} (hG : ev_Good X) (hl : l.stackTraces = false) : ev_Snd X l ev_ms x_L_best tx_L_best 2 (i_il 1 3) := s_iload_n dL_best_2 rfl
theorem s_L_best_3 {X : ev_E} {l : Launch} (hG : ev_Good X) (hl : l.stackTraces = false) : ev_Snd X l ev_ms x_L_best tx_L_best 3 (i_cV X 148 1 10 2 6) := s_invokevirtual hG (mi := 148) (n := 1) (ci := 10) (r := (RX5, TX5, 7)) rfl (cal_X5_best (Nat.le_of_ble_eq_true rfl)) w_1174 w_785 w_786 dL_best_3
theorem s_L_best_6 {X : ev_E} {l : Launch} (hG : ev_Good X) (hl : l.stackTraces = false) : ev_Snd X l ev_ms x_L_best tx_L_best 6 (i_i2l 7) := s_i2l dL_best_6
theorem s_L_best_7 {X : ev_E} {l : Launch} (hG : ev_Good X) (hl : l.stackTraces = false) : ev_Snd X l ev_ms x_L_best tx_L_best 7 (i_pf 11 0 (.long) 10) := s_putfieldN hG (ci := 11) (r := (RX6, TX6, 2)) rfl cw_11 ap_11 (k := 0) (Nat.le_of_ble_eq_true rfl) rfl (by decide +kernel) w_811 rfl dL_best_7
theorem s_L_best_10 {X : ev_E} {l : Launch} (hG : ev_Good X) (hl : l.stackTraces = false) : ev_Snd X l ev_ms x_L_best tx_L_best 10 (i_goto 16) := s_goto dL_best_10 rfl
theorem s_L_best_13 {X : ev_E} {l : Launch} (hG : ev_Good X) (hl : l.stackTraces = false) : ev_Snd X l ev_ms x_L_best tx_L_best 13 (i_as 3 14) := s_astore_n dL_best_13 rfl (Nat.le_of_ble_eq_true rfl)
theorem s_L_best_14 {X : ev_E} {l : Launch} (hG : ev_Good X) (hl : l.stackTraces = false) : ev_Snd X l ev_ms x_L_best tx_L_best 14 (i_psh (.int (1)) 15) := s_iconst dL_best_14 rfl
theorem s_L_best_15 {X : ev_E} {l : Launch} (hG : ev_Good X) (hl : l.stackTraces = false) : ev_Snd X l ev_ms x_L_best tx_L_best 15 (i_ir (.int)) := s_ireturn rfl dL_best_15
theorem s_L_best_16 {X : ev_E} {l : Launch} (hG : ev_Good X) (hl : l.stackTraces = false) : ev_Snd X l ev_ms x_L_best tx_L_best 16 (i_psh (.int (0)) 17) := s_iconst dL_best_16 rfl
theorem s_L_best_17 {X : ev_E} {l : Launch} (hG : ev_Good X) (hl : l.stackTraces = false) : ev_Snd X l ev_ms x_L_best tx_L_best 17 (i_ir (.int)) := s_ireturn rfl dL_best_17
theorem sa_L_best {X : ev_E} {l : Launch} (hG : ev_Good X) (hl : l.stackTraces = false) : ∀ q ∈ tb_L_best X, ev_Snd X l ev_ms x_L_best tx_L_best q.1 q.2 := by
  intro q hq
  unfold tb_L_best at hq
  simp only [List.mem_cons, List.not_mem_nil, or_false] at hq
  rcases hq with rfl | rfl | rfl | rfl | rfl | rfl | rfl | rfl | rfl | rfl | rfl | rfl
  · exact s_L_best_0 hG hl
  · exact s_L_best_1 hG hl
  · exact s_L_best_2 hG hl
  · exact s_L_best_3 hG hl
  · exact s_L_best_6 hG hl
  · exact s_L_best_7 hG hl
  · exact s_L_best_10 hG hl
  · exact s_L_best_13 hG hl
  · exact s_L_best_14 hG hl
  · exact s_L_best_15 hG hl
  · exact s_L_best_16 hG hl
  · exact s_L_best_17 hG hl
def tx_L_depth : ev_X := ev_hf [(0, 10, 1, 13, 21, 3, 14)]
noncomputable def tb_L_depth (X : ev_E) : List (Nat × (ev_S → ev_N)) := [(0, i_al 2 1), (1, i_al 0 2), (2, i_il 1 3), (3, i_cV X 149 1 10 2 6), (6, i_i2l 7), (7, i_pf 11 0 (.long) 10), (10, i_goto 16), (13, i_as 3 14), (14, i_psh (.int (1)) 15), (15, i_ir (.int)), (16, i_psh (.int (0)) 17), (17, i_ir (.int))]
theorem s_L_depth_0 {X : ev_E} {l : Launch} (hG : ev_Good X) (hl : l.stackTraces = false) : ev_Snd X l ev_ms x_L_depth tx_L_depth 0 (i_al 2 1) := s_aload_n dL_depth_0 rfl
theorem s_L_depth_1 {X : ev_E} {l : Launch} (hG : ev_Good X) (hl : l.stackTraces = false) : ev_Snd X l ev_ms x_L_depth tx_L_depth 1 (i_al 0 2) := s_aload_n dL_depth_1 rfl
theorem s_L_depth_2 {X : ev_E} {l : Launch} (hG : ev_Good X) (hl : l.stackTraces = false) : ev_Snd X l ev_ms x_L_depth tx_L_depth 2 (i_il 1 3) := s_iload_n dL_depth_2 rfl
theorem s_L_depth_3 {X : ev_E} {l : Launch} (hG : ev_Good X) (hl : l.stackTraces = false) : ev_Snd X l ev_ms x_L_depth tx_L_depth 3 (i_cV X 149 1 10 2 6) := s_invokevirtual hG (mi := 149) (n := 1) (ci := 10) (r := (RX5, TX5, 7)) rfl (cal_X5_depth (Nat.le_of_ble_eq_true rfl)) w_1134 w_1135 w_1136 dL_depth_3
theorem s_L_depth_6 {X : ev_E} {l : Launch} (hG : ev_Good X) (hl : l.stackTraces = false) : ev_Snd X l ev_ms x_L_depth tx_L_depth 6 (i_i2l 7) := s_i2l dL_depth_6
theorem s_L_depth_7 {X : ev_E} {l : Launch} (hG : ev_Good X) (hl : l.stackTraces = false) : ev_Snd X l ev_ms x_L_depth tx_L_depth 7 (i_pf 11 0 (.long) 10) := s_putfieldN hG (ci := 11) (r := (RX6, TX6, 2)) rfl cw_11 ap_11 (k := 0) (Nat.le_of_ble_eq_true rfl) rfl (by decide +kernel) w_811 rfl dL_depth_7
theorem s_L_depth_10 {X : ev_E} {l : Launch} (hG : ev_Good X) (hl : l.stackTraces = false) : ev_Snd X l ev_ms x_L_depth tx_L_depth 10 (i_goto 16) := s_goto dL_depth_10 rfl
theorem s_L_depth_13 {X : ev_E} {l : Launch} (hG : ev_Good X) (hl : l.stackTraces = false) : ev_Snd X l ev_ms x_L_depth tx_L_depth 13 (i_as 3 14) := s_astore_n dL_depth_13 rfl (Nat.le_of_ble_eq_true rfl)
theorem s_L_depth_14 {X : ev_E} {l : Launch} (hG : ev_Good X) (hl : l.stackTraces = false) : ev_Snd X l ev_ms x_L_depth tx_L_depth 14 (i_psh (.int (1)) 15) := s_iconst dL_depth_14 rfl
theorem s_L_depth_15 {X : ev_E} {l : Launch} (hG : ev_Good X) (hl : l.stackTraces = false) : ev_Snd X l ev_ms x_L_depth tx_L_depth 15 (i_ir (.int)) := s_ireturn rfl dL_depth_15
theorem s_L_depth_16 {X : ev_E} {l : Launch} (hG : ev_Good X) (hl : l.stackTraces = false) : ev_Snd X l ev_ms x_L_depth tx_L_depth 16 (i_psh (.int (0)) 17) := s_iconst dL_depth_16 rfl
theorem s_L_depth_17 {X : ev_E} {l : Launch} (hG : ev_Good X) (hl : l.stackTraces = false) : ev_Snd X l ev_ms x_L_depth tx_L_depth 17 (i_ir (.int)) := s_ireturn rfl dL_depth_17
theorem sa_L_depth {X : ev_E} {l : Launch} (hG : ev_Good X) (hl : l.stackTraces = false) : ∀ q ∈ tb_L_depth X, ev_Snd X l ev_ms x_L_depth tx_L_depth q.1 q.2 := by
  intro q hq
  unfold tb_L_depth at hq
  simp only [List.mem_cons, List.not_mem_nil, or_false] at hq
  rcases hq with rfl | rfl | rfl | rfl | rfl | rfl | rfl | rfl | rfl | rfl | rfl | rfl
  · exact s_L_depth_0 hG hl
  · exact s_L_depth_1 hG hl
  · exact s_L_depth_2 hG hl
  · exact s_L_depth_3 hG hl
  · exact s_L_depth_6 hG hl
  · exact s_L_depth_7 hG hl
  · exact s_L_depth_10 hG hl
  · exact s_L_depth_13 hG hl
  · exact s_L_depth_14 hG hl
  · exact s_L_depth_15 hG hl
  · exact s_L_depth_16 hG hl
  · exact s_L_depth_17 hG hl
def tx_L_eldest : ev_X := ev_hf [(0, 10, 0, 13, 19, 3, 14)]
noncomputable def tb_L_eldest (X : ev_E) : List (Nat × (ev_S → ev_N)) := [(0, i_al 2 1), (1, i_al 0 2), (2, i_il 1 3), (3, i_cV X 150 1 10 2 6), (6, i_i2l 7), (7, i_pf 11 0 (.long) 10), (10, i_goto 16), (13, i_as 3 14), (14, i_psh (.int (1)) 15), (15, i_ir (.int)), (16, i_psh (.int (0)) 17), (17, i_ir (.int))]
theorem s_L_eldest_0 {X : ev_E} {l : Launch} (hG : ev_Good X) (hl : l.stackTraces = false) : ev_Snd X l ev_ms x_L_eldest tx_L_eldest 0 (i_al 2 1) := s_aload_n dL_eldest_0 rfl
theorem s_L_eldest_1 {X : ev_E} {l : Launch} (hG : ev_Good X) (hl : l.stackTraces = false) : ev_Snd X l ev_ms x_L_eldest tx_L_eldest 1 (i_al 0 2) := s_aload_n dL_eldest_1 rfl
theorem s_L_eldest_2 {X : ev_E} {l : Launch} (hG : ev_Good X) (hl : l.stackTraces = false) : ev_Snd X l ev_ms x_L_eldest tx_L_eldest 2 (i_il 1 3) := s_iload_n dL_eldest_2 rfl
theorem s_L_eldest_3 {X : ev_E} {l : Launch} (hG : ev_Good X) (hl : l.stackTraces = false) : ev_Snd X l ev_ms x_L_eldest tx_L_eldest 3 (i_cV X 150 1 10 2 6) := s_invokevirtual hG (mi := 150) (n := 1) (ci := 10) (r := (RX5, TX5, 7)) rfl (cal_X5_eldest (Nat.le_of_ble_eq_true rfl)) w_999 w_1000 w_1001 dL_eldest_3
theorem s_L_eldest_6 {X : ev_E} {l : Launch} (hG : ev_Good X) (hl : l.stackTraces = false) : ev_Snd X l ev_ms x_L_eldest tx_L_eldest 6 (i_i2l 7) := s_i2l dL_eldest_6
theorem s_L_eldest_7 {X : ev_E} {l : Launch} (hG : ev_Good X) (hl : l.stackTraces = false) : ev_Snd X l ev_ms x_L_eldest tx_L_eldest 7 (i_pf 11 0 (.long) 10) := s_putfieldN hG (ci := 11) (r := (RX6, TX6, 2)) rfl cw_11 ap_11 (k := 0) (Nat.le_of_ble_eq_true rfl) rfl (by decide +kernel) w_811 rfl dL_eldest_7
theorem s_L_eldest_10 {X : ev_E} {l : Launch} (hG : ev_Good X) (hl : l.stackTraces = false) : ev_Snd X l ev_ms x_L_eldest tx_L_eldest 10 (i_goto 16) := s_goto dL_eldest_10 rfl
theorem s_L_eldest_13 {X : ev_E} {l : Launch} (hG : ev_Good X) (hl : l.stackTraces = false) : ev_Snd X l ev_ms x_L_eldest tx_L_eldest 13 (i_as 3 14) := s_astore_n dL_eldest_13 rfl (Nat.le_of_ble_eq_true rfl)
theorem s_L_eldest_14 {X : ev_E} {l : Launch} (hG : ev_Good X) (hl : l.stackTraces = false) : ev_Snd X l ev_ms x_L_eldest tx_L_eldest 14 (i_psh (.int (1)) 15) := s_iconst dL_eldest_14 rfl
theorem s_L_eldest_15 {X : ev_E} {l : Launch} (hG : ev_Good X) (hl : l.stackTraces = false) : ev_Snd X l ev_ms x_L_eldest tx_L_eldest 15 (i_ir (.int)) := s_ireturn rfl dL_eldest_15
theorem s_L_eldest_16 {X : ev_E} {l : Launch} (hG : ev_Good X) (hl : l.stackTraces = false) : ev_Snd X l ev_ms x_L_eldest tx_L_eldest 16 (i_psh (.int (0)) 17) := s_iconst dL_eldest_16 rfl
theorem s_L_eldest_17 {X : ev_E} {l : Launch} (hG : ev_Good X) (hl : l.stackTraces = false) : ev_Snd X l ev_ms x_L_eldest tx_L_eldest 17 (i_ir (.int)) := s_ireturn rfl dL_eldest_17
theorem sa_L_eldest {X : ev_E} {l : Launch} (hG : ev_Good X) (hl : l.stackTraces = false) : ∀ q ∈ tb_L_eldest X, ev_Snd X l ev_ms x_L_eldest tx_L_eldest q.1 q.2 := by
  intro q hq
  unfold tb_L_eldest at hq
  simp only [List.mem_cons, List.not_mem_nil, or_false] at hq
  rcases hq with rfl | rfl | rfl | rfl | rfl | rfl | rfl | rfl | rfl | rfl | rfl | rfl
  · exact s_L_eldest_0 hG hl
  · exact s_L_eldest_1 hG hl
  · exact s_L_eldest_2 hG hl
  · exact s_L_eldest_3 hG hl
  · exact s_L_eldest_6 hG hl
  · exact s_L_eldest_7 hG hl
  · exact s_L_eldest_10 hG hl
  · exact s_L_eldest_13 hG hl
  · exact s_L_eldest_14 hG hl
  · exact s_L_eldest_15 hG hl
  · exact s_L_eldest_16 hG hl
  · exact s_L_eldest_17 hG hl
def tx_L_hasMore : ev_X := ev_hf [(0, 17, 0, 20, 19, 3, 21)]
noncomputable def tb_L_hasMore (X : ev_E) : List (Nat × (ev_S → ev_N)) := [(0, i_al 2 1), (1, i_al 0 2), (2, i_il 1 3), (3, i_cV X 151 1 10 2 6), (6, i_ifeq 13 9), (9, i_psh (.long 1) 10), (10, i_goto 14), (13, i_psh (.long 0) 14), (14, i_pf 11 0 (.long) 17), (17, i_goto 23), (20, i_as 3 21), (21, i_psh (.int (1)) 22), (22, i_ir (.int)), (23, i_psh (.int (0)) 24), (24, i_ir (.int))]
theorem s_L_hasMore_0 {X : ev_E} {l : Launch} (hG : ev_Good X) (hl : l.stackTraces = false) : ev_Snd X l ev_ms x_L_hasMore tx_L_hasMore 0 (i_al 2 1) := s_aload_n dL_hasMore_0 rfl
theorem s_L_hasMore_1 {X : ev_E} {l : Launch} (hG : ev_Good X) (hl : l.stackTraces = false) : ev_Snd X l ev_ms x_L_hasMore tx_L_hasMore 1 (i_al 0 2) := s_aload_n dL_hasMore_1 rfl
theorem s_L_hasMore_2 {X : ev_E} {l : Launch} (hG : ev_Good X) (hl : l.stackTraces = false) : ev_Snd X l ev_ms x_L_hasMore tx_L_hasMore 2 (i_il 1 3) := s_iload_n dL_hasMore_2 rfl
theorem s_L_hasMore_3 {X : ev_E} {l : Launch} (hG : ev_Good X) (hl : l.stackTraces = false) : ev_Snd X l ev_ms x_L_hasMore tx_L_hasMore 3 (i_cV X 151 1 10 2 6) := s_invokevirtual hG (mi := 151) (n := 1) (ci := 10) (r := (RX5, TX5, 7)) rfl (cal_X5_hasMore (Nat.le_of_ble_eq_true rfl)) w_1068 w_746 w_747 dL_hasMore_3
theorem s_L_hasMore_6 {X : ev_E} {l : Launch} (hG : ev_Good X) (hl : l.stackTraces = false) : ev_Snd X l ev_ms x_L_hasMore tx_L_hasMore 6 (i_ifeq 13 9) := s_ifeq dL_hasMore_6 rfl
theorem s_L_hasMore_9 {X : ev_E} {l : Launch} (hG : ev_Good X) (hl : l.stackTraces = false) : ev_Snd X l ev_ms x_L_hasMore tx_L_hasMore 9 (i_psh (.long 1) 10) := s_lconst dL_hasMore_9 rfl
theorem s_L_hasMore_10 {X : ev_E} {l : Launch} (hG : ev_Good X) (hl : l.stackTraces = false) : ev_Snd X l ev_ms x_L_hasMore tx_L_hasMore 10 (i_goto 14) := s_goto dL_hasMore_10 rfl
theorem s_L_hasMore_13 {X : ev_E} {l : Launch} (hG : ev_Good X) (hl : l.stackTraces = false) : ev_Snd X l ev_ms x_L_hasMore tx_L_hasMore 13 (i_psh (.long 0) 14) := s_lconst dL_hasMore_13 rfl
theorem s_L_hasMore_14 {X : ev_E} {l : Launch} (hG : ev_Good X) (hl : l.stackTraces = false) : ev_Snd X l ev_ms x_L_hasMore tx_L_hasMore 14 (i_pf 11 0 (.long) 17) := s_putfieldN hG (ci := 11) (r := (RX6, TX6, 2)) rfl cw_11 ap_11 (k := 0) (Nat.le_of_ble_eq_true rfl) rfl (by decide +kernel) w_811 rfl dL_hasMore_14
theorem s_L_hasMore_17 {X : ev_E} {l : Launch} (hG : ev_Good X) (hl : l.stackTraces = false) : ev_Snd X l ev_ms x_L_hasMore tx_L_hasMore 17 (i_goto 23) := s_goto dL_hasMore_17 rfl
theorem s_L_hasMore_20 {X : ev_E} {l : Launch} (hG : ev_Good X) (hl : l.stackTraces = false) : ev_Snd X l ev_ms x_L_hasMore tx_L_hasMore 20 (i_as 3 21) := s_astore_n dL_hasMore_20 rfl (Nat.le_of_ble_eq_true rfl)
theorem s_L_hasMore_21 {X : ev_E} {l : Launch} (hG : ev_Good X) (hl : l.stackTraces = false) : ev_Snd X l ev_ms x_L_hasMore tx_L_hasMore 21 (i_psh (.int (1)) 22) := s_iconst dL_hasMore_21 rfl
theorem s_L_hasMore_22 {X : ev_E} {l : Launch} (hG : ev_Good X) (hl : l.stackTraces = false) : ev_Snd X l ev_ms x_L_hasMore tx_L_hasMore 22 (i_ir (.int)) := s_ireturn rfl dL_hasMore_22
theorem s_L_hasMore_23 {X : ev_E} {l : Launch} (hG : ev_Good X) (hl : l.stackTraces = false) : ev_Snd X l ev_ms x_L_hasMore tx_L_hasMore 23 (i_psh (.int (0)) 24) := s_iconst dL_hasMore_23 rfl
theorem s_L_hasMore_24 {X : ev_E} {l : Launch} (hG : ev_Good X) (hl : l.stackTraces = false) : ev_Snd X l ev_ms x_L_hasMore tx_L_hasMore 24 (i_ir (.int)) := s_ireturn rfl dL_hasMore_24
theorem sa_L_hasMore {X : ev_E} {l : Launch} (hG : ev_Good X) (hl : l.stackTraces = false) : ∀ q ∈ tb_L_hasMore X, ev_Snd X l ev_ms x_L_hasMore tx_L_hasMore q.1 q.2 := by
  intro q hq
  unfold tb_L_hasMore at hq
  simp only [List.mem_cons, List.not_mem_nil, or_false] at hq
  rcases hq with rfl | rfl | rfl | rfl | rfl | rfl | rfl | rfl | rfl | rfl | rfl | rfl | rfl | rfl | rfl
  · exact s_L_hasMore_0 hG hl
  · exact s_L_hasMore_1 hG hl
  · exact s_L_hasMore_2 hG hl
  · exact s_L_hasMore_3 hG hl
  · exact s_L_hasMore_6 hG hl
  · exact s_L_hasMore_9 hG hl
  · exact s_L_hasMore_10 hG hl
  · exact s_L_hasMore_13 hG hl
  · exact s_L_hasMore_14 hG hl
  · exact s_L_hasMore_17 hG hl
  · exact s_L_hasMore_20 hG hl
  · exact s_L_hasMore_21 hG hl
  · exact s_L_hasMore_22 hG hl
  · exact s_L_hasMore_23 hG hl
  · exact s_L_hasMore_24 hG hl
def tx_L_hits : ev_X := ev_hf [(0, 10, 1, 13, 21, 3, 14)]
noncomputable def tb_L_hits (X : ev_E) : List (Nat × (ev_S → ev_N)) := [(0, i_al 2 1), (1, i_al 0 2), (2, i_il 1 3), (3, i_cV X 152 1 10 2 6), (6, i_i2l 7), (7, i_pf 11 0 (.long) 10), (10, i_goto 16), (13, i_as 3 14), (14, i_psh (.int (1)) 15), (15, i_ir (.int)), (16, i_psh (.int (0)) 17), (17, i_ir (.int))]
theorem s_L_hits_0 {X : ev_E} {l : Launch} (hG : ev_Good X) (hl : l.stackTraces = false) : ev_Snd X l ev_ms x_L_hits tx_L_hits 0 (i_al 2 1) := s_aload_n dL_hits_0 rfl
theorem s_L_hits_1 {X : ev_E} {l : Launch} (hG : ev_Good X) (hl : l.stackTraces = false) : ev_Snd X l ev_ms x_L_hits tx_L_hits 1 (i_al 0 2) := s_aload_n dL_hits_1 rfl
theorem s_L_hits_2 {X : ev_E} {l : Launch} (hG : ev_Good X) (hl : l.stackTraces = false) : ev_Snd X l ev_ms x_L_hits tx_L_hits 2 (i_il 1 3) := s_iload_n dL_hits_2 rfl
theorem s_L_hits_3 {X : ev_E} {l : Launch} (hG : ev_Good X) (hl : l.stackTraces = false) : ev_Snd X l ev_ms x_L_hits tx_L_hits 3 (i_cV X 152 1 10 2 6) := s_invokevirtual hG (mi := 152) (n := 1) (ci := 10) (r := (RX5, TX5, 7)) rfl (cal_X5_hits (Nat.le_of_ble_eq_true rfl)) w_1163 w_1164 w_1165 dL_hits_3
theorem s_L_hits_6 {X : ev_E} {l : Launch} (hG : ev_Good X) (hl : l.stackTraces = false) : ev_Snd X l ev_ms x_L_hits tx_L_hits 6 (i_i2l 7) := s_i2l dL_hits_6
theorem s_L_hits_7 {X : ev_E} {l : Launch} (hG : ev_Good X) (hl : l.stackTraces = false) : ev_Snd X l ev_ms x_L_hits tx_L_hits 7 (i_pf 11 0 (.long) 10) := s_putfieldN hG (ci := 11) (r := (RX6, TX6, 2)) rfl cw_11 ap_11 (k := 0) (Nat.le_of_ble_eq_true rfl) rfl (by decide +kernel) w_811 rfl dL_hits_7
theorem s_L_hits_10 {X : ev_E} {l : Launch} (hG : ev_Good X) (hl : l.stackTraces = false) : ev_Snd X l ev_ms x_L_hits tx_L_hits 10 (i_goto 16) := s_goto dL_hits_10 rfl
theorem s_L_hits_13 {X : ev_E} {l : Launch} (hG : ev_Good X) (hl : l.stackTraces = false) : ev_Snd X l ev_ms x_L_hits tx_L_hits 13 (i_as 3 14) := s_astore_n dL_hits_13 rfl (Nat.le_of_ble_eq_true rfl)
theorem s_L_hits_14 {X : ev_E} {l : Launch} (hG : ev_Good X) (hl : l.stackTraces = false) : ev_Snd X l ev_ms x_L_hits tx_L_hits 14 (i_psh (.int (1)) 15) := s_iconst dL_hits_14 rfl
theorem s_L_hits_15 {X : ev_E} {l : Launch} (hG : ev_Good X) (hl : l.stackTraces = false) : ev_Snd X l ev_ms x_L_hits tx_L_hits 15 (i_ir (.int)) := s_ireturn rfl dL_hits_15
theorem s_L_hits_16 {X : ev_E} {l : Launch} (hG : ev_Good X) (hl : l.stackTraces = false) : ev_Snd X l ev_ms x_L_hits tx_L_hits 16 (i_psh (.int (0)) 17) := s_iconst dL_hits_16 rfl
theorem s_L_hits_17 {X : ev_E} {l : Launch} (hG : ev_Good X) (hl : l.stackTraces = false) : ev_Snd X l ev_ms x_L_hits tx_L_hits 17 (i_ir (.int)) := s_ireturn rfl dL_hits_17
theorem sa_L_hits {X : ev_E} {l : Launch} (hG : ev_Good X) (hl : l.stackTraces = false) : ∀ q ∈ tb_L_hits X, ev_Snd X l ev_ms x_L_hits tx_L_hits q.1 q.2 := by
  intro q hq
  unfold tb_L_hits at hq
  simp only [List.mem_cons, List.not_mem_nil, or_false] at hq
  rcases hq with rfl | rfl | rfl | rfl | rfl | rfl | rfl | rfl | rfl | rfl | rfl | rfl
  · exact s_L_hits_0 hG hl
  · exact s_L_hits_1 hG hl
  · exact s_L_hits_2 hG hl
  · exact s_L_hits_3 hG hl
  · exact s_L_hits_6 hG hl
  · exact s_L_hits_7 hG hl
  · exact s_L_hits_10 hG hl
  · exact s_L_hits_13 hG hl
  · exact s_L_hits_14 hG hl
  · exact s_L_hits_15 hG hl
  · exact s_L_hits_16 hG hl
  · exact s_L_hits_17 hG hl
def tx_L_keeps : ev_X := ev_hf [(0, 18, 1, 21, 21, 4, 23)]
noncomputable def tb_L_keeps (X : ev_E) : List (Nat × (ev_S → ev_N)) := [(0, i_al 3 1), (1, i_al 0 2), (2, i_il 1 3), (3, i_il 2 4), (4, i_cV X 154 2 10 4 7), (7, i_ifeq 14 10), (10, i_psh (.long 1) 11), (11, i_goto 15), (14, i_psh (.long 0) 15), (15, i_pf 11 0 (.long) 18), (18, i_goto 25), (21, i_as 4 23), (23, i_psh (.int (1)) 24), (24, i_ir (.int)), (25, i_psh (.int (0)) 26), (26, i_ir (.int))]
theorem s_L_keeps_0 {X : ev_E} {l : Launch} (hG : ev_Good X) (hl : l.stackTraces = false) : ev_Snd X l ev_ms x_L_keeps tx_L_keeps 0 (i_al 3 1) := s_aload_n dL_keeps_0 rfl
theorem s_L_keeps_1 {X : ev_E} {l : Launch} (hG : ev_Good X) (hl : l.stackTraces = false) : ev_Snd X l ev_ms x_L_keeps tx_L_keeps 1 (i_al 0 2) := s_aload_n dL_keeps_1 rfl
theorem s_L_keeps_2 {X : ev_E} {l : Launch} (hG : ev_Good X) (hl : l.stackTraces = false) : ev_Snd X l ev_ms x_L_keeps tx_L_keeps 2 (i_il 1 3) := s_iload_n dL_keeps_2 rfl
theorem s_L_keeps_3 {X : ev_E} {l : Launch} (hG : ev_Good X) (hl : l.stackTraces = false) : ev_Snd X l ev_ms x_L_keeps tx_L_keeps 3 (i_il 2 4) := s_iload_n dL_keeps_3 rfl
theorem s_L_keeps_4 {X : ev_E} {l : Launch} (hG : ev_Good X) (hl : l.stackTraces = false) : ev_Snd X l ev_ms x_L_keeps tx_L_keeps 4 (i_cV X 154 2 10 4 7) := s_invokevirtual hG (mi := 154) (n := 2) (ci := 10) (r := (RX5, TX5, 7)) rfl (cal_X5_keeps (Nat.le_of_ble_eq_true rfl)) w_1148 w_1149 w_1150 dL_keeps_4
theorem s_L_keeps_7 {X : ev_E} {l : Launch} (hG : ev_Good X) (hl : l.stackTraces = false) : ev_Snd X l ev_ms x_L_keeps tx_L_keeps 7 (i_ifeq 14 10) := s_ifeq dL_keeps_7 rfl
theorem s_L_keeps_10 {X : ev_E} {l : Launch} (hG : ev_Good X) (hl : l.stackTraces = false) : ev_Snd X l ev_ms x_L_keeps tx_L_keeps 10 (i_psh (.long 1) 11) := s_lconst dL_keeps_10 rfl
theorem s_L_keeps_11 {X : ev_E} {l : Launch} (hG : ev_Good X) (hl : l.stackTraces = false) : ev_Snd X l ev_ms x_L_keeps tx_L_keeps 11 (i_goto 15) := s_goto dL_keeps_11 rfl
theorem s_L_keeps_14 {X : ev_E} {l : Launch} (hG : ev_Good X) (hl : l.stackTraces = false) : ev_Snd X l ev_ms x_L_keeps tx_L_keeps 14 (i_psh (.long 0) 15) := s_lconst dL_keeps_14 rfl
theorem s_L_keeps_15 {X : ev_E} {l : Launch} (hG : ev_Good X) (hl : l.stackTraces = false) : ev_Snd X l ev_ms x_L_keeps tx_L_keeps 15 (i_pf 11 0 (.long) 18) := s_putfieldN hG (ci := 11) (r := (RX6, TX6, 2)) rfl cw_11 ap_11 (k := 0) (Nat.le_of_ble_eq_true rfl) rfl (by decide +kernel) w_811 rfl dL_keeps_15
theorem s_L_keeps_18 {X : ev_E} {l : Launch} (hG : ev_Good X) (hl : l.stackTraces = false) : ev_Snd X l ev_ms x_L_keeps tx_L_keeps 18 (i_goto 25) := s_goto dL_keeps_18 rfl
theorem s_L_keeps_21 {X : ev_E} {l : Launch} (hG : ev_Good X) (hl : l.stackTraces = false) : ev_Snd X l ev_ms x_L_keeps tx_L_keeps 21 (i_as 4 23) := s_astore dL_keeps_21 (Nat.le_of_ble_eq_true rfl)
theorem s_L_keeps_23 {X : ev_E} {l : Launch} (hG : ev_Good X) (hl : l.stackTraces = false) : ev_Snd X l ev_ms x_L_keeps tx_L_keeps 23 (i_psh (.int (1)) 24) := s_iconst dL_keeps_23 rfl
theorem s_L_keeps_24 {X : ev_E} {l : Launch} (hG : ev_Good X) (hl : l.stackTraces = false) : ev_Snd X l ev_ms x_L_keeps tx_L_keeps 24 (i_ir (.int)) := s_ireturn rfl dL_keeps_24
theorem s_L_keeps_25 {X : ev_E} {l : Launch} (hG : ev_Good X) (hl : l.stackTraces = false) : ev_Snd X l ev_ms x_L_keeps tx_L_keeps 25 (i_psh (.int (0)) 26) := s_iconst dL_keeps_25 rfl
theorem s_L_keeps_26 {X : ev_E} {l : Launch} (hG : ev_Good X) (hl : l.stackTraces = false) : ev_Snd X l ev_ms x_L_keeps tx_L_keeps 26 (i_ir (.int)) := s_ireturn rfl dL_keeps_26
theorem sa_L_keeps {X : ev_E} {l : Launch} (hG : ev_Good X) (hl : l.stackTraces = false) : ∀ q ∈ tb_L_keeps X, ev_Snd X l ev_ms x_L_keeps tx_L_keeps q.1 q.2 := by
  intro q hq
  unfold tb_L_keeps at hq
  simp only [List.mem_cons, List.not_mem_nil, or_false] at hq
  rcases hq with rfl | rfl | rfl | rfl | rfl | rfl | rfl | rfl | rfl | rfl | rfl | rfl | rfl | rfl | rfl | rfl
  · exact s_L_keeps_0 hG hl
  · exact s_L_keeps_1 hG hl
  · exact s_L_keeps_2 hG hl
  · exact s_L_keeps_3 hG hl
  · exact s_L_keeps_4 hG hl
  · exact s_L_keeps_7 hG hl
  · exact s_L_keeps_10 hG hl
  · exact s_L_keeps_11 hG hl
  · exact s_L_keeps_14 hG hl
  · exact s_L_keeps_15 hG hl
  · exact s_L_keeps_18 hG hl
  · exact s_L_keeps_21 hG hl
  · exact s_L_keeps_23 hG hl
  · exact s_L_keeps_24 hG hl
  · exact s_L_keeps_25 hG hl
  · exact s_L_keeps_26 hG hl
def tx_L_keyAt : ev_X := ev_hf [(0, 11, 0, 14, 19, 4, 16)]
noncomputable def tb_L_keyAt (X : ev_E) : List (Nat × (ev_S → ev_N)) := [(0, i_al 3 1), (1, i_al 0 2), (2, i_il 1 3), (3, i_il 2 4), (4, i_cV X 155 2 10 3 7), (7, i_i2l 8), (8, i_pf 11 0 (.long) 11), (11, i_goto 18), (14, i_as 4 16), (16, i_psh (.int (1)) 17), (17, i_ir (.int)), (18, i_psh (.int (0)) 19), (19, i_ir (.int))]
theorem s_L_keyAt_0 {X : ev_E} {l : Launch} (hG : ev_Good X) (hl : l.stackTraces = false) : ev_Snd X l ev_ms x_L_keyAt tx_L_keyAt 0 (i_al 3 1) := s_aload_n dL_keyAt_0 rfl
theorem s_L_keyAt_1 {X : ev_E} {l : Launch} (hG : ev_Good X) (hl : l.stackTraces = false) : ev_Snd X l ev_ms x_L_keyAt tx_L_keyAt 1 (i_al 0 2) := s_aload_n dL_keyAt_1 rfl
theorem s_L_keyAt_2 {X : ev_E} {l : Launch} (hG : ev_Good X) (hl : l.stackTraces = false) : ev_Snd X l ev_ms x_L_keyAt tx_L_keyAt 2 (i_il 1 3) := s_iload_n dL_keyAt_2 rfl
theorem s_L_keyAt_3 {X : ev_E} {l : Launch} (hG : ev_Good X) (hl : l.stackTraces = false) : ev_Snd X l ev_ms x_L_keyAt tx_L_keyAt 3 (i_il 2 4) := s_iload_n dL_keyAt_3 rfl
theorem s_L_keyAt_4 {X : ev_E} {l : Launch} (hG : ev_Good X) (hl : l.stackTraces = false) : ev_Snd X l ev_ms x_L_keyAt tx_L_keyAt 4 (i_cV X 155 2 10 3 7) := s_invokevirtual hG (mi := 155) (n := 2) (ci := 10) (r := (RX5, TX5, 7)) rfl (cal_X5_keyAt (Nat.le_of_ble_eq_true rfl)) w_974 w_975 w_976 dL_keyAt_4
theorem s_L_keyAt_7 {X : ev_E} {l : Launch} (hG : ev_Good X) (hl : l.stackTraces = false) : ev_Snd X l ev_ms x_L_keyAt tx_L_keyAt 7 (i_i2l 8) := s_i2l dL_keyAt_7
theorem s_L_keyAt_8 {X : ev_E} {l : Launch} (hG : ev_Good X) (hl : l.stackTraces = false) : ev_Snd X l ev_ms x_L_keyAt tx_L_keyAt 8 (i_pf 11 0 (.long) 11) := s_putfieldN hG (ci := 11) (r := (RX6, TX6, 2)) rfl cw_11 ap_11 (k := 0) (Nat.le_of_ble_eq_true rfl) rfl (by decide +kernel) w_811 rfl dL_keyAt_8
theorem s_L_keyAt_11 {X : ev_E} {l : Launch} (hG : ev_Good X) (hl : l.stackTraces = false) : ev_Snd X l ev_ms x_L_keyAt tx_L_keyAt 11 (i_goto 18) := s_goto dL_keyAt_11 rfl
theorem s_L_keyAt_14 {X : ev_E} {l : Launch} (hG : ev_Good X) (hl : l.stackTraces = false) : ev_Snd X l ev_ms x_L_keyAt tx_L_keyAt 14 (i_as 4 16) := s_astore dL_keyAt_14 (Nat.le_of_ble_eq_true rfl)
theorem s_L_keyAt_16 {X : ev_E} {l : Launch} (hG : ev_Good X) (hl : l.stackTraces = false) : ev_Snd X l ev_ms x_L_keyAt tx_L_keyAt 16 (i_psh (.int (1)) 17) := s_iconst dL_keyAt_16 rfl
theorem s_L_keyAt_17 {X : ev_E} {l : Launch} (hG : ev_Good X) (hl : l.stackTraces = false) : ev_Snd X l ev_ms x_L_keyAt tx_L_keyAt 17 (i_ir (.int)) := s_ireturn rfl dL_keyAt_17
theorem s_L_keyAt_18 {X : ev_E} {l : Launch} (hG : ev_Good X) (hl : l.stackTraces = false) : ev_Snd X l ev_ms x_L_keyAt tx_L_keyAt 18 (i_psh (.int (0)) 19) := s_iconst dL_keyAt_18 rfl
theorem s_L_keyAt_19 {X : ev_E} {l : Launch} (hG : ev_Good X) (hl : l.stackTraces = false) : ev_Snd X l ev_ms x_L_keyAt tx_L_keyAt 19 (i_ir (.int)) := s_ireturn rfl dL_keyAt_19
theorem sa_L_keyAt {X : ev_E} {l : Launch} (hG : ev_Good X) (hl : l.stackTraces = false) : ∀ q ∈ tb_L_keyAt X, ev_Snd X l ev_ms x_L_keyAt tx_L_keyAt q.1 q.2 := by
  intro q hq
  unfold tb_L_keyAt at hq
  simp only [List.mem_cons, List.not_mem_nil, or_false] at hq
  rcases hq with rfl | rfl | rfl | rfl | rfl | rfl | rfl | rfl | rfl | rfl | rfl | rfl | rfl
  · exact s_L_keyAt_0 hG hl
  · exact s_L_keyAt_1 hG hl
  · exact s_L_keyAt_2 hG hl
  · exact s_L_keyAt_3 hG hl
  · exact s_L_keyAt_4 hG hl
  · exact s_L_keyAt_7 hG hl
  · exact s_L_keyAt_8 hG hl
  · exact s_L_keyAt_11 hG hl
  · exact s_L_keyAt_14 hG hl
  · exact s_L_keyAt_16 hG hl
  · exact s_L_keyAt_17 hG hl
  · exact s_L_keyAt_18 hG hl
  · exact s_L_keyAt_19 hG hl
def tx_L_latest : ev_X := ev_hf [(0, 10, 0, 13, 19, 3, 14)]
noncomputable def tb_L_latest (X : ev_E) : List (Nat × (ev_S → ev_N)) := [(0, i_al 2 1), (1, i_al 0 2), (2, i_il 1 3), (3, i_cV X 156 1 10 3 6), (6, i_i2l 7), (7, i_pf 11 0 (.long) 10), (10, i_goto 16), (13, i_as 3 14), (14, i_psh (.int (1)) 15), (15, i_ir (.int)), (16, i_psh (.int (0)) 17), (17, i_ir (.int))]
theorem s_L_latest_0 {X : ev_E} {l : Launch} (hG : ev_Good X) (hl : l.stackTraces = false) : ev_Snd X l ev_ms x_L_latest tx_L_latest 0 (i_al 2 1) := s_aload_n dL_latest_0 rfl
theorem s_L_latest_1 {X : ev_E} {l : Launch} (hG : ev_Good X) (hl : l.stackTraces = false) : ev_Snd X l ev_ms x_L_latest tx_L_latest 1 (i_al 0 2) := s_aload_n dL_latest_1 rfl
theorem s_L_latest_2 {X : ev_E} {l : Launch} (hG : ev_Good X) (hl : l.stackTraces = false) : ev_Snd X l ev_ms x_L_latest tx_L_latest 2 (i_il 1 3) := s_iload_n dL_latest_2 rfl
theorem s_L_latest_3 {X : ev_E} {l : Launch} (hG : ev_Good X) (hl : l.stackTraces = false) : ev_Snd X l ev_ms x_L_latest tx_L_latest 3 (i_cV X 156 1 10 3 6) := s_invokevirtual hG (mi := 156) (n := 1) (ci := 10) (r := (RX5, TX5, 7)) rfl (cal_X5_latest (Nat.le_of_ble_eq_true rfl)) w_1006 w_1007 w_1008 dL_latest_3
theorem s_L_latest_6 {X : ev_E} {l : Launch} (hG : ev_Good X) (hl : l.stackTraces = false) : ev_Snd X l ev_ms x_L_latest tx_L_latest 6 (i_i2l 7) := s_i2l dL_latest_6
theorem s_L_latest_7 {X : ev_E} {l : Launch} (hG : ev_Good X) (hl : l.stackTraces = false) : ev_Snd X l ev_ms x_L_latest tx_L_latest 7 (i_pf 11 0 (.long) 10) := s_putfieldN hG (ci := 11) (r := (RX6, TX6, 2)) rfl cw_11 ap_11 (k := 0) (Nat.le_of_ble_eq_true rfl) rfl (by decide +kernel) w_811 rfl dL_latest_7
theorem s_L_latest_10 {X : ev_E} {l : Launch} (hG : ev_Good X) (hl : l.stackTraces = false) : ev_Snd X l ev_ms x_L_latest tx_L_latest 10 (i_goto 16) := s_goto dL_latest_10 rfl
theorem s_L_latest_13 {X : ev_E} {l : Launch} (hG : ev_Good X) (hl : l.stackTraces = false) : ev_Snd X l ev_ms x_L_latest tx_L_latest 13 (i_as 3 14) := s_astore_n dL_latest_13 rfl (Nat.le_of_ble_eq_true rfl)
theorem s_L_latest_14 {X : ev_E} {l : Launch} (hG : ev_Good X) (hl : l.stackTraces = false) : ev_Snd X l ev_ms x_L_latest tx_L_latest 14 (i_psh (.int (1)) 15) := s_iconst dL_latest_14 rfl
theorem s_L_latest_15 {X : ev_E} {l : Launch} (hG : ev_Good X) (hl : l.stackTraces = false) : ev_Snd X l ev_ms x_L_latest tx_L_latest 15 (i_ir (.int)) := s_ireturn rfl dL_latest_15
theorem s_L_latest_16 {X : ev_E} {l : Launch} (hG : ev_Good X) (hl : l.stackTraces = false) : ev_Snd X l ev_ms x_L_latest tx_L_latest 16 (i_psh (.int (0)) 17) := s_iconst dL_latest_16 rfl
theorem s_L_latest_17 {X : ev_E} {l : Launch} (hG : ev_Good X) (hl : l.stackTraces = false) : ev_Snd X l ev_ms x_L_latest tx_L_latest 17 (i_ir (.int)) := s_ireturn rfl dL_latest_17
theorem sa_L_latest {X : ev_E} {l : Launch} (hG : ev_Good X) (hl : l.stackTraces = false) : ∀ q ∈ tb_L_latest X, ev_Snd X l ev_ms x_L_latest tx_L_latest q.1 q.2 := by
  intro q hq
  unfold tb_L_latest at hq
  simp only [List.mem_cons, List.not_mem_nil, or_false] at hq
  rcases hq with rfl | rfl | rfl | rfl | rfl | rfl | rfl | rfl | rfl | rfl | rfl | rfl
  · exact s_L_latest_0 hG hl
  · exact s_L_latest_1 hG hl
  · exact s_L_latest_2 hG hl
  · exact s_L_latest_3 hG hl
  · exact s_L_latest_6 hG hl
  · exact s_L_latest_7 hG hl
  · exact s_L_latest_10 hG hl
  · exact s_L_latest_13 hG hl
  · exact s_L_latest_14 hG hl
  · exact s_L_latest_15 hG hl
  · exact s_L_latest_16 hG hl
  · exact s_L_latest_17 hG hl
def tx_L_lost : ev_X := ev_hf [(0, 10, 1, 13, 21, 3, 14)]
noncomputable def tb_L_lost (X : ev_E) : List (Nat × (ev_S → ev_N)) := [(0, i_al 2 1), (1, i_al 0 2), (2, i_il 1 3), (3, i_cV X 157 1 10 2 6), (6, i_i2l 7), (7, i_pf 11 0 (.long) 10), (10, i_goto 16), (13, i_as 3 14), (14, i_psh (.int (1)) 15), (15, i_ir (.int)), (16, i_psh (.int (0)) 17), (17, i_ir (.int))]
theorem s_L_lost_0 {X : ev_E} {l : Launch} (hG : ev_Good X) (hl : l.stackTraces = false) : ev_Snd X l ev_ms x_L_lost tx_L_lost 0 (i_al 2 1) := s_aload_n dL_lost_0 rfl
theorem s_L_lost_1 {X : ev_E} {l : Launch} (hG : ev_Good X) (hl : l.stackTraces = false) : ev_Snd X l ev_ms x_L_lost tx_L_lost 1 (i_al 0 2) := s_aload_n dL_lost_1 rfl
theorem s_L_lost_2 {X : ev_E} {l : Launch} (hG : ev_Good X) (hl : l.stackTraces = false) : ev_Snd X l ev_ms x_L_lost tx_L_lost 2 (i_il 1 3) := s_iload_n dL_lost_2 rfl
theorem s_L_lost_3 {X : ev_E} {l : Launch} (hG : ev_Good X) (hl : l.stackTraces = false) : ev_Snd X l ev_ms x_L_lost tx_L_lost 3 (i_cV X 157 1 10 2 6) := s_invokevirtual hG (mi := 157) (n := 1) (ci := 10) (r := (RX5, TX5, 7)) rfl (cal_X5_lost (Nat.le_of_ble_eq_true rfl)) w_1170 w_789 w_790 dL_lost_3
theorem s_L_lost_6 {X : ev_E} {l : Launch} (hG : ev_Good X) (hl : l.stackTraces = false) : ev_Snd X l ev_ms x_L_lost tx_L_lost 6 (i_i2l 7) := s_i2l dL_lost_6
theorem s_L_lost_7 {X : ev_E} {l : Launch} (hG : ev_Good X) (hl : l.stackTraces = false) : ev_Snd X l ev_ms x_L_lost tx_L_lost 7 (i_pf 11 0 (.long) 10) := s_putfieldN hG (ci := 11) (r := (RX6, TX6, 2)) rfl cw_11 ap_11 (k := 0) (Nat.le_of_ble_eq_true rfl) rfl (by decide +kernel) w_811 rfl dL_lost_7
theorem s_L_lost_10 {X : ev_E} {l : Launch} (hG : ev_Good X) (hl : l.stackTraces = false) : ev_Snd X l ev_ms x_L_lost tx_L_lost 10 (i_goto 16) := s_goto dL_lost_10 rfl
theorem s_L_lost_13 {X : ev_E} {l : Launch} (hG : ev_Good X) (hl : l.stackTraces = false) : ev_Snd X l ev_ms x_L_lost tx_L_lost 13 (i_as 3 14) := s_astore_n dL_lost_13 rfl (Nat.le_of_ble_eq_true rfl)
theorem s_L_lost_14 {X : ev_E} {l : Launch} (hG : ev_Good X) (hl : l.stackTraces = false) : ev_Snd X l ev_ms x_L_lost tx_L_lost 14 (i_psh (.int (1)) 15) := s_iconst dL_lost_14 rfl
theorem s_L_lost_15 {X : ev_E} {l : Launch} (hG : ev_Good X) (hl : l.stackTraces = false) : ev_Snd X l ev_ms x_L_lost tx_L_lost 15 (i_ir (.int)) := s_ireturn rfl dL_lost_15
theorem s_L_lost_16 {X : ev_E} {l : Launch} (hG : ev_Good X) (hl : l.stackTraces = false) : ev_Snd X l ev_ms x_L_lost tx_L_lost 16 (i_psh (.int (0)) 17) := s_iconst dL_lost_16 rfl
theorem s_L_lost_17 {X : ev_E} {l : Launch} (hG : ev_Good X) (hl : l.stackTraces = false) : ev_Snd X l ev_ms x_L_lost tx_L_lost 17 (i_ir (.int)) := s_ireturn rfl dL_lost_17
theorem sa_L_lost {X : ev_E} {l : Launch} (hG : ev_Good X) (hl : l.stackTraces = false) : ∀ q ∈ tb_L_lost X, ev_Snd X l ev_ms x_L_lost tx_L_lost q.1 q.2 := by
  intro q hq
  unfold tb_L_lost at hq
  simp only [List.mem_cons, List.not_mem_nil, or_false] at hq
  rcases hq with rfl | rfl | rfl | rfl | rfl | rfl | rfl | rfl | rfl | rfl | rfl | rfl
  · exact s_L_lost_0 hG hl
  · exact s_L_lost_1 hG hl
  · exact s_L_lost_2 hG hl
  · exact s_L_lost_3 hG hl
  · exact s_L_lost_6 hG hl
  · exact s_L_lost_7 hG hl
  · exact s_L_lost_10 hG hl
  · exact s_L_lost_13 hG hl
  · exact s_L_lost_14 hG hl
  · exact s_L_lost_15 hG hl
  · exact s_L_lost_16 hG hl
  · exact s_L_lost_17 hG hl
def tx_L_make : ev_X := ev_hf [(0, 13, 0, 16, 19, 5, 18), (0, 13, 1, 20, 21, 5, 22)]
noncomputable def tb_L_make (X : ev_E) : List (Nat × (ev_S → ev_N)) := [(0, i_al 4 2), (2, i_al 0 3), (3, i_il 1 4), (4, i_il 2 5), (5, i_il 3 6), (6, i_cV X 158 3 10 5 9), (9, i_i2l 10), (10, i_pf 11 0 (.long) 13), (13, i_goto 24), (16, i_as 5 18), (18, i_psh (.int (1)) 19), (19, i_ir (.int)), (20, i_as 5 22), (22, i_psh (.int (2)) 23), (23, i_ir (.int)), (24, i_psh (.int (0)) 25), (25, i_ir (.int))]
theorem s_L_make_0 {X : ev_E} {l : Launch} (hG : ev_Good X) (hl : l.stackTraces = false) : ev_Snd X l ev_ms x_L_make tx_L_make 0 (i_al 4 2) := s_aload dL_make_0
theorem s_L_make_2 {X : ev_E} {l : Launch} (hG : ev_Good X) (hl : l.stackTraces = false) : ev_Snd X l ev_ms x_L_make tx_L_make 2 (i_al 0 3) := s_aload_n dL_make_2 rfl
theorem s_L_make_3 {X : ev_E} {l : Launch} (hG : ev_Good X) (hl : l.stackTraces = false) : ev_Snd X l ev_ms x_L_make tx_L_make 3 (i_il 1 4) := s_iload_n dL_make_3 rfl
theorem s_L_make_4 {X : ev_E} {l : Launch} (hG : ev_Good X) (hl : l.stackTraces = false) : ev_Snd X l ev_ms x_L_make tx_L_make 4 (i_il 2 5) := s_iload_n dL_make_4 rfl
theorem s_L_make_5 {X : ev_E} {l : Launch} (hG : ev_Good X) (hl : l.stackTraces = false) : ev_Snd X l ev_ms x_L_make tx_L_make 5 (i_il 3 6) := s_iload_n dL_make_5 rfl
theorem s_L_make_6 {X : ev_E} {l : Launch} (hG : ev_Good X) (hl : l.stackTraces = false) : ev_Snd X l ev_ms x_L_make tx_L_make 6 (i_cV X 158 3 10 5 9) := s_invokevirtual hG (mi := 158) (n := 3) (ci := 10) (r := (RX5, TX5, 7)) rfl (cal_X5_make (Nat.le_of_ble_eq_true rfl)) w_823 w_824 w_825 dL_make_6
theorem s_L_make_9 {X : ev_E} {l : Launch} (hG : ev_Good X) (hl : l.stackTraces = false) : ev_Snd X l ev_ms x_L_make tx_L_make 9 (i_i2l 10) := s_i2l dL_make_9
theorem s_L_make_10 {X : ev_E} {l : Launch} (hG : ev_Good X) (hl : l.stackTraces = false) : ev_Snd X l ev_ms x_L_make tx_L_make 10 (i_pf 11 0 (.long) 13) := s_putfieldN hG (ci := 11) (r := (RX6, TX6, 2)) rfl cw_11 ap_11 (k := 0) (Nat.le_of_ble_eq_true rfl) rfl (by decide +kernel) w_811 rfl dL_make_10
theorem s_L_make_13 {X : ev_E} {l : Launch} (hG : ev_Good X) (hl : l.stackTraces = false) : ev_Snd X l ev_ms x_L_make tx_L_make 13 (i_goto 24) := s_goto dL_make_13 rfl
theorem s_L_make_16 {X : ev_E} {l : Launch} (hG : ev_Good X) (hl : l.stackTraces = false) : ev_Snd X l ev_ms x_L_make tx_L_make 16 (i_as 5 18) := s_astore dL_make_16 (Nat.le_of_ble_eq_true rfl)
theorem s_L_make_18 {X : ev_E} {l : Launch} (hG : ev_Good X) (hl : l.stackTraces = false) : ev_Snd X l ev_ms x_L_make tx_L_make 18 (i_psh (.int (1)) 19) := s_iconst dL_make_18 rfl
theorem s_L_make_19 {X : ev_E} {l : Launch} (hG : ev_Good X) (hl : l.stackTraces = false) : ev_Snd X l ev_ms x_L_make tx_L_make 19 (i_ir (.int)) := s_ireturn rfl dL_make_19
theorem s_L_make_20 {X : ev_E} {l : Launch} (hG : ev_Good X) (hl : l.stackTraces = false) : ev_Snd X l ev_ms x_L_make tx_L_make 20 (i_as 5 22) := s_astore dL_make_20 (Nat.le_of_ble_eq_true rfl)
theorem s_L_make_22 {X : ev_E} {l : Launch} (hG : ev_Good X) (hl : l.stackTraces = false) : ev_Snd X l ev_ms x_L_make tx_L_make 22 (i_psh (.int (2)) 23) := s_iconst dL_make_22 rfl
theorem s_L_make_23 {X : ev_E} {l : Launch} (hG : ev_Good X) (hl : l.stackTraces = false) : ev_Snd X l ev_ms x_L_make tx_L_make 23 (i_ir (.int)) := s_ireturn rfl dL_make_23
theorem s_L_make_24 {X : ev_E} {l : Launch} (hG : ev_Good X) (hl : l.stackTraces = false) : ev_Snd X l ev_ms x_L_make tx_L_make 24 (i_psh (.int (0)) 25) := s_iconst dL_make_24 rfl
theorem s_L_make_25 {X : ev_E} {l : Launch} (hG : ev_Good X) (hl : l.stackTraces = false) : ev_Snd X l ev_ms x_L_make tx_L_make 25 (i_ir (.int)) := s_ireturn rfl dL_make_25
theorem sa_L_make {X : ev_E} {l : Launch} (hG : ev_Good X) (hl : l.stackTraces = false) : ∀ q ∈ tb_L_make X, ev_Snd X l ev_ms x_L_make tx_L_make q.1 q.2 := by
  intro q hq
  unfold tb_L_make at hq
  simp only [List.mem_cons, List.not_mem_nil, or_false] at hq
  rcases hq with rfl | rfl | rfl | rfl | rfl | rfl | rfl | rfl | rfl | rfl | rfl | rfl | rfl | rfl | rfl | rfl | rfl
  · exact s_L_make_0 hG hl
  · exact s_L_make_2 hG hl
  · exact s_L_make_3 hG hl
  · exact s_L_make_4 hG hl
  · exact s_L_make_5 hG hl
  · exact s_L_make_6 hG hl
  · exact s_L_make_9 hG hl
  · exact s_L_make_10 hG hl
  · exact s_L_make_13 hG hl
  · exact s_L_make_16 hG hl
  · exact s_L_make_18 hG hl
  · exact s_L_make_19 hG hl
  · exact s_L_make_20 hG hl
  · exact s_L_make_22 hG hl
  · exact s_L_make_23 hG hl
  · exact s_L_make_24 hG hl
  · exact s_L_make_25 hG hl
def tx_L_misses : ev_X := ev_hf [(0, 10, 1, 13, 21, 3, 14)]
noncomputable def tb_L_misses (X : ev_E) : List (Nat × (ev_S → ev_N)) := [(0, i_al 2 1), (1, i_al 0 2), (2, i_il 1 3), (3, i_cV X 159 1 10 2 6), (6, i_i2l 7), (7, i_pf 11 0 (.long) 10), (10, i_goto 16), (13, i_as 3 14), (14, i_psh (.int (1)) 15), (15, i_ir (.int)), (16, i_psh (.int (0)) 17), (17, i_ir (.int))]
theorem s_L_misses_0 {X : ev_E} {l : Launch} (hG : ev_Good X) (hl : l.stackTraces = false) : ev_Snd X l ev_ms x_L_misses tx_L_misses 0 (i_al 2 1) := s_aload_n dL_misses_0 rfl
theorem s_L_misses_1 {X : ev_E} {l : Launch} (hG : ev_Good X) (hl : l.stackTraces = false) : ev_Snd X l ev_ms x_L_misses tx_L_misses 1 (i_al 0 2) := s_aload_n dL_misses_1 rfl
theorem s_L_misses_2 {X : ev_E} {l : Launch} (hG : ev_Good X) (hl : l.stackTraces = false) : ev_Snd X l ev_ms x_L_misses tx_L_misses 2 (i_il 1 3) := s_iload_n dL_misses_2 rfl
theorem s_L_misses_3 {X : ev_E} {l : Launch} (hG : ev_Good X) (hl : l.stackTraces = false) : ev_Snd X l ev_ms x_L_misses tx_L_misses 3 (i_cV X 159 1 10 2 6) := s_invokevirtual hG (mi := 159) (n := 1) (ci := 10) (r := (RX5, TX5, 7)) rfl (cal_X5_misses (Nat.le_of_ble_eq_true rfl)) w_1159 w_773 w_774 dL_misses_3
theorem s_L_misses_6 {X : ev_E} {l : Launch} (hG : ev_Good X) (hl : l.stackTraces = false) : ev_Snd X l ev_ms x_L_misses tx_L_misses 6 (i_i2l 7) := s_i2l dL_misses_6
theorem s_L_misses_7 {X : ev_E} {l : Launch} (hG : ev_Good X) (hl : l.stackTraces = false) : ev_Snd X l ev_ms x_L_misses tx_L_misses 7 (i_pf 11 0 (.long) 10) := s_putfieldN hG (ci := 11) (r := (RX6, TX6, 2)) rfl cw_11 ap_11 (k := 0) (Nat.le_of_ble_eq_true rfl) rfl (by decide +kernel) w_811 rfl dL_misses_7
theorem s_L_misses_10 {X : ev_E} {l : Launch} (hG : ev_Good X) (hl : l.stackTraces = false) : ev_Snd X l ev_ms x_L_misses tx_L_misses 10 (i_goto 16) := s_goto dL_misses_10 rfl
theorem s_L_misses_13 {X : ev_E} {l : Launch} (hG : ev_Good X) (hl : l.stackTraces = false) : ev_Snd X l ev_ms x_L_misses tx_L_misses 13 (i_as 3 14) := s_astore_n dL_misses_13 rfl (Nat.le_of_ble_eq_true rfl)
theorem s_L_misses_14 {X : ev_E} {l : Launch} (hG : ev_Good X) (hl : l.stackTraces = false) : ev_Snd X l ev_ms x_L_misses tx_L_misses 14 (i_psh (.int (1)) 15) := s_iconst dL_misses_14 rfl
theorem s_L_misses_15 {X : ev_E} {l : Launch} (hG : ev_Good X) (hl : l.stackTraces = false) : ev_Snd X l ev_ms x_L_misses tx_L_misses 15 (i_ir (.int)) := s_ireturn rfl dL_misses_15
theorem s_L_misses_16 {X : ev_E} {l : Launch} (hG : ev_Good X) (hl : l.stackTraces = false) : ev_Snd X l ev_ms x_L_misses tx_L_misses 16 (i_psh (.int (0)) 17) := s_iconst dL_misses_16 rfl
theorem s_L_misses_17 {X : ev_E} {l : Launch} (hG : ev_Good X) (hl : l.stackTraces = false) : ev_Snd X l ev_ms x_L_misses tx_L_misses 17 (i_ir (.int)) := s_ireturn rfl dL_misses_17
theorem sa_L_misses {X : ev_E} {l : Launch} (hG : ev_Good X) (hl : l.stackTraces = false) : ∀ q ∈ tb_L_misses X, ev_Snd X l ev_ms x_L_misses tx_L_misses q.1 q.2 := by
  intro q hq
  unfold tb_L_misses at hq
  simp only [List.mem_cons, List.not_mem_nil, or_false] at hq
  rcases hq with rfl | rfl | rfl | rfl | rfl | rfl | rfl | rfl | rfl | rfl | rfl | rfl
  · exact s_L_misses_0 hG hl
  · exact s_L_misses_1 hG hl
  · exact s_L_misses_2 hG hl
  · exact s_L_misses_3 hG hl
  · exact s_L_misses_6 hG hl
  · exact s_L_misses_7 hG hl
  · exact s_L_misses_10 hG hl
  · exact s_L_misses_13 hG hl
  · exact s_L_misses_14 hG hl
  · exact s_L_misses_15 hG hl
  · exact s_L_misses_16 hG hl
  · exact s_L_misses_17 hG hl
def tx_L_pairAt : ev_X := ev_hf [(0, 11, 0, 14, 19, 4, 16)]
noncomputable def tb_L_pairAt (X : ev_E) : List (Nat × (ev_S → ev_N)) := [(0, i_al 3 1), (1, i_al 0 2), (2, i_il 1 3), (3, i_il 2 4), (4, i_cV X 160 2 10 3 7), (7, i_i2l 8), (8, i_pf 11 0 (.long) 11), (11, i_goto 18), (14, i_as 4 16), (16, i_psh (.int (1)) 17), (17, i_ir (.int)), (18, i_psh (.int (0)) 19), (19, i_ir (.int))]
theorem s_L_pairAt_0 {X : ev_E} {l : Launch} (hG : ev_Good X) (hl : l.stackTraces = false) : ev_Snd X l ev_ms x_L_pairAt tx_L_pairAt 0 (i_al 3 1) := s_aload_n dL_pairAt_0 rfl
theorem s_L_pairAt_1 {X : ev_E} {l : Launch} (hG : ev_Good X) (hl : l.stackTraces = false) : ev_Snd X l ev_ms x_L_pairAt tx_L_pairAt 1 (i_al 0 2) := s_aload_n dL_pairAt_1 rfl
theorem s_L_pairAt_2 {X : ev_E} {l : Launch} (hG : ev_Good X) (hl : l.stackTraces = false) : ev_Snd X l ev_ms x_L_pairAt tx_L_pairAt 2 (i_il 1 3) := s_iload_n dL_pairAt_2 rfl
theorem s_L_pairAt_3 {X : ev_E} {l : Launch} (hG : ev_Good X) (hl : l.stackTraces = false) : ev_Snd X l ev_ms x_L_pairAt tx_L_pairAt 3 (i_il 2 4) := s_iload_n dL_pairAt_3 rfl
theorem s_L_pairAt_4 {X : ev_E} {l : Launch} (hG : ev_Good X) (hl : l.stackTraces = false) : ev_Snd X l ev_ms x_L_pairAt tx_L_pairAt 4 (i_cV X 160 2 10 3 7) := s_invokevirtual hG (mi := 160) (n := 2) (ci := 10) (r := (RX5, TX5, 7)) rfl (cal_X5_pairAt (Nat.le_of_ble_eq_true rfl)) w_988 w_734 w_735 dL_pairAt_4
theorem s_L_pairAt_7 {X : ev_E} {l : Launch} (hG : ev_Good X) (hl : l.stackTraces = false) : ev_Snd X l ev_ms x_L_pairAt tx_L_pairAt 7 (i_i2l 8) := s_i2l dL_pairAt_7
theorem s_L_pairAt_8 {X : ev_E} {l : Launch} (hG : ev_Good X) (hl : l.stackTraces = false) : ev_Snd X l ev_ms x_L_pairAt tx_L_pairAt 8 (i_pf 11 0 (.long) 11) := s_putfieldN hG (ci := 11) (r := (RX6, TX6, 2)) rfl cw_11 ap_11 (k := 0) (Nat.le_of_ble_eq_true rfl) rfl (by decide +kernel) w_811 rfl dL_pairAt_8
theorem s_L_pairAt_11 {X : ev_E} {l : Launch} (hG : ev_Good X) (hl : l.stackTraces = false) : ev_Snd X l ev_ms x_L_pairAt tx_L_pairAt 11 (i_goto 18) := s_goto dL_pairAt_11 rfl
theorem s_L_pairAt_14 {X : ev_E} {l : Launch} (hG : ev_Good X) (hl : l.stackTraces = false) : ev_Snd X l ev_ms x_L_pairAt tx_L_pairAt 14 (i_as 4 16) := s_astore dL_pairAt_14 (Nat.le_of_ble_eq_true rfl)
theorem s_L_pairAt_16 {X : ev_E} {l : Launch} (hG : ev_Good X) (hl : l.stackTraces = false) : ev_Snd X l ev_ms x_L_pairAt tx_L_pairAt 16 (i_psh (.int (1)) 17) := s_iconst dL_pairAt_16 rfl
theorem s_L_pairAt_17 {X : ev_E} {l : Launch} (hG : ev_Good X) (hl : l.stackTraces = false) : ev_Snd X l ev_ms x_L_pairAt tx_L_pairAt 17 (i_ir (.int)) := s_ireturn rfl dL_pairAt_17
theorem s_L_pairAt_18 {X : ev_E} {l : Launch} (hG : ev_Good X) (hl : l.stackTraces = false) : ev_Snd X l ev_ms x_L_pairAt tx_L_pairAt 18 (i_psh (.int (0)) 19) := s_iconst dL_pairAt_18 rfl
theorem s_L_pairAt_19 {X : ev_E} {l : Launch} (hG : ev_Good X) (hl : l.stackTraces = false) : ev_Snd X l ev_ms x_L_pairAt tx_L_pairAt 19 (i_ir (.int)) := s_ireturn rfl dL_pairAt_19
theorem sa_L_pairAt {X : ev_E} {l : Launch} (hG : ev_Good X) (hl : l.stackTraces = false) : ∀ q ∈ tb_L_pairAt X, ev_Snd X l ev_ms x_L_pairAt tx_L_pairAt q.1 q.2 := by
  intro q hq
  unfold tb_L_pairAt at hq
  simp only [List.mem_cons, List.not_mem_nil, or_false] at hq
  rcases hq with rfl | rfl | rfl | rfl | rfl | rfl | rfl | rfl | rfl | rfl | rfl | rfl | rfl
  · exact s_L_pairAt_0 hG hl
  · exact s_L_pairAt_1 hG hl
  · exact s_L_pairAt_2 hG hl
  · exact s_L_pairAt_3 hG hl
  · exact s_L_pairAt_4 hG hl
  · exact s_L_pairAt_7 hG hl
  · exact s_L_pairAt_8 hG hl
  · exact s_L_pairAt_11 hG hl
  · exact s_L_pairAt_14 hG hl
  · exact s_L_pairAt_16 hG hl
  · exact s_L_pairAt_17 hG hl
  · exact s_L_pairAt_18 hG hl
  · exact s_L_pairAt_19 hG hl
def tx_L_set : ev_X := ev_hf [(0, 13, 0, 16, 19, 5, 18), (0, 13, 1, 20, 21, 5, 22)]
noncomputable def tb_L_set (X : ev_E) : List (Nat × (ev_S → ev_N)) := [(0, i_al 4 2), (2, i_al 0 3), (3, i_il 1 4), (4, i_il 2 5), (5, i_il 3 6), (6, i_cV X 161 3 10 5 9), (9, i_i2l 10), (10, i_pf 11 0 (.long) 13), (13, i_goto 24), (16, i_as 5 18), (18, i_psh (.int (1)) 19), (19, i_ir (.int)), (20, i_as 5 22), (22, i_psh (.int (2)) 23), (23, i_ir (.int)), (24, i_psh (.int (0)) 25), (25, i_ir (.int))]
theorem s_L_set_0 {X : ev_E} {l : Launch} (hG : ev_Good X) (hl : l.stackTraces = false) : ev_Snd X l ev_ms x_L_set tx_L_set 0 (i_al 4 2) := s_aload dL_set_0
theorem s_L_set_2 {X : ev_E} {l : Launch} (hG : ev_Good X) (hl : l.stackTraces = false) : ev_Snd X l ev_ms x_L_set tx_L_set 2 (i_al 0 3) := s_aload_n dL_set_2 rfl
theorem s_L_set_3 {X : ev_E} {l : Launch} (hG : ev_Good X) (hl : l.stackTraces = false) : ev_Snd X l ev_ms x_L_set tx_L_set 3 (i_il 1 4) := s_iload_n dL_set_3 rfl
theorem s_L_set_4 {X : ev_E} {l : Launch} (hG : ev_Good X) (hl : l.stackTraces = false) : ev_Snd X l ev_ms x_L_set tx_L_set 4 (i_il 2 5) := s_iload_n dL_set_4 rfl
theorem s_L_set_5 {X : ev_E} {l : Launch} (hG : ev_Good X) (hl : l.stackTraces = false) : ev_Snd X l ev_ms x_L_set tx_L_set 5 (i_il 3 6) := s_iload_n dL_set_5 rfl
theorem s_L_set_6 {X : ev_E} {l : Launch} (hG : ev_Good X) (hl : l.stackTraces = false) : ev_Snd X l ev_ms x_L_set tx_L_set 6 (i_cV X 161 3 10 5 9) := s_invokevirtual hG (mi := 161) (n := 3) (ci := 10) (r := (RX5, TX5, 7)) rfl (cal_X5_set (Nat.le_of_ble_eq_true rfl)) w_938 w_939 w_940 dL_set_6
theorem s_L_set_9 {X : ev_E} {l : Launch} (hG : ev_Good X) (hl : l.stackTraces = false) : ev_Snd X l ev_ms x_L_set tx_L_set 9 (i_i2l 10) := s_i2l dL_set_9
theorem s_L_set_10 {X : ev_E} {l : Launch} (hG : ev_Good X) (hl : l.stackTraces = false) : ev_Snd X l ev_ms x_L_set tx_L_set 10 (i_pf 11 0 (.long) 13) := s_putfieldN hG (ci := 11) (r := (RX6, TX6, 2)) rfl cw_11 ap_11 (k := 0) (Nat.le_of_ble_eq_true rfl) rfl (by decide +kernel) w_811 rfl dL_set_10
theorem s_L_set_13 {X : ev_E} {l : Launch} (hG : ev_Good X) (hl : l.stackTraces = false) : ev_Snd X l ev_ms x_L_set tx_L_set 13 (i_goto 24) := s_goto dL_set_13 rfl
theorem s_L_set_16 {X : ev_E} {l : Launch} (hG : ev_Good X) (hl : l.stackTraces = false) : ev_Snd X l ev_ms x_L_set tx_L_set 16 (i_as 5 18) := s_astore dL_set_16 (Nat.le_of_ble_eq_true rfl)
theorem s_L_set_18 {X : ev_E} {l : Launch} (hG : ev_Good X) (hl : l.stackTraces = false) : ev_Snd X l ev_ms x_L_set tx_L_set 18 (i_psh (.int (1)) 19) := s_iconst dL_set_18 rfl
theorem s_L_set_19 {X : ev_E} {l : Launch} (hG : ev_Good X) (hl : l.stackTraces = false) : ev_Snd X l ev_ms x_L_set tx_L_set 19 (i_ir (.int)) := s_ireturn rfl dL_set_19
theorem s_L_set_20 {X : ev_E} {l : Launch} (hG : ev_Good X) (hl : l.stackTraces = false) : ev_Snd X l ev_ms x_L_set tx_L_set 20 (i_as 5 22) := s_astore dL_set_20 (Nat.le_of_ble_eq_true rfl)
theorem s_L_set_22 {X : ev_E} {l : Launch} (hG : ev_Good X) (hl : l.stackTraces = false) : ev_Snd X l ev_ms x_L_set tx_L_set 22 (i_psh (.int (2)) 23) := s_iconst dL_set_22 rfl
theorem s_L_set_23 {X : ev_E} {l : Launch} (hG : ev_Good X) (hl : l.stackTraces = false) : ev_Snd X l ev_ms x_L_set tx_L_set 23 (i_ir (.int)) := s_ireturn rfl dL_set_23
theorem s_L_set_24 {X : ev_E} {l : Launch} (hG : ev_Good X) (hl : l.stackTraces = false) : ev_Snd X l ev_ms x_L_set tx_L_set 24 (i_psh (.int (0)) 25) := s_iconst dL_set_24 rfl
theorem s_L_set_25 {X : ev_E} {l : Launch} (hG : ev_Good X) (hl : l.stackTraces = false) : ev_Snd X l ev_ms x_L_set tx_L_set 25 (i_ir (.int)) := s_ireturn rfl dL_set_25
theorem sa_L_set {X : ev_E} {l : Launch} (hG : ev_Good X) (hl : l.stackTraces = false) : ∀ q ∈ tb_L_set X, ev_Snd X l ev_ms x_L_set tx_L_set q.1 q.2 := by
  intro q hq
  unfold tb_L_set at hq
  simp only [List.mem_cons, List.not_mem_nil, or_false] at hq
  rcases hq with rfl | rfl | rfl | rfl | rfl | rfl | rfl | rfl | rfl | rfl | rfl | rfl | rfl | rfl | rfl | rfl | rfl
  · exact s_L_set_0 hG hl
  · exact s_L_set_2 hG hl
  · exact s_L_set_3 hG hl
  · exact s_L_set_4 hG hl
  · exact s_L_set_5 hG hl
  · exact s_L_set_6 hG hl
  · exact s_L_set_9 hG hl
  · exact s_L_set_10 hG hl
  · exact s_L_set_13 hG hl
  · exact s_L_set_16 hG hl
  · exact s_L_set_18 hG hl
  · exact s_L_set_19 hG hl
  · exact s_L_set_20 hG hl
  · exact s_L_set_22 hG hl
  · exact s_L_set_23 hG hl
  · exact s_L_set_24 hG hl
  · exact s_L_set_25 hG hl
def tx_L_takenAt : ev_X := ev_hf [(0, 11, 1, 14, 21, 4, 16)]
noncomputable def tb_L_takenAt (X : ev_E) : List (Nat × (ev_S → ev_N)) := [(0, i_al 3 1), (1, i_al 0 2), (2, i_il 1 3), (3, i_il 2 4), (4, i_cV X 162 2 10 4 7), (7, i_i2l 8), (8, i_pf 11 0 (.long) 11), (11, i_goto 18), (14, i_as 4 16), (16, i_psh (.int (1)) 17), (17, i_ir (.int)), (18, i_psh (.int (0)) 19), (19, i_ir (.int))]
theorem s_L_takenAt_0 {X : ev_E} {l : Launch} (hG : ev_Good X) (hl : l.stackTraces = false) : ev_Snd X l ev_ms x_L_takenAt tx_L_takenAt 0 (i_al 3 1) := s_aload_n dL_takenAt_0 rfl
theorem s_L_takenAt_1 {X : ev_E} {l : Launch} (hG : ev_Good X) (hl : l.stackTraces = false) : ev_Snd X l ev_ms x_L_takenAt tx_L_takenAt 1 (i_al 0 2) := s_aload_n dL_takenAt_1 rfl
theorem s_L_takenAt_2 {X : ev_E} {l : Launch} (hG : ev_Good X) (hl : l.stackTraces = false) : ev_Snd X l ev_ms x_L_takenAt tx_L_takenAt 2 (i_il 1 3) := s_iload_n dL_takenAt_2 rfl
theorem s_L_takenAt_3 {X : ev_E} {l : Launch} (hG : ev_Good X) (hl : l.stackTraces = false) : ev_Snd X l ev_ms x_L_takenAt tx_L_takenAt 3 (i_il 2 4) := s_iload_n dL_takenAt_3 rfl
theorem s_L_takenAt_4 {X : ev_E} {l : Launch} (hG : ev_Good X) (hl : l.stackTraces = false) : ev_Snd X l ev_ms x_L_takenAt tx_L_takenAt 4 (i_cV X 162 2 10 4 7) := s_invokevirtual hG (mi := 162) (n := 2) (ci := 10) (r := (RX5, TX5, 7)) rfl (cal_X5_takenAt (Nat.le_of_ble_eq_true rfl)) w_1155 w_793 w_794 dL_takenAt_4
theorem s_L_takenAt_7 {X : ev_E} {l : Launch} (hG : ev_Good X) (hl : l.stackTraces = false) : ev_Snd X l ev_ms x_L_takenAt tx_L_takenAt 7 (i_i2l 8) := s_i2l dL_takenAt_7
theorem s_L_takenAt_8 {X : ev_E} {l : Launch} (hG : ev_Good X) (hl : l.stackTraces = false) : ev_Snd X l ev_ms x_L_takenAt tx_L_takenAt 8 (i_pf 11 0 (.long) 11) := s_putfieldN hG (ci := 11) (r := (RX6, TX6, 2)) rfl cw_11 ap_11 (k := 0) (Nat.le_of_ble_eq_true rfl) rfl (by decide +kernel) w_811 rfl dL_takenAt_8
theorem s_L_takenAt_11 {X : ev_E} {l : Launch} (hG : ev_Good X) (hl : l.stackTraces = false) : ev_Snd X l ev_ms x_L_takenAt tx_L_takenAt 11 (i_goto 18) := s_goto dL_takenAt_11 rfl
theorem s_L_takenAt_14 {X : ev_E} {l : Launch} (hG : ev_Good X) (hl : l.stackTraces = false) : ev_Snd X l ev_ms x_L_takenAt tx_L_takenAt 14 (i_as 4 16) := s_astore dL_takenAt_14 (Nat.le_of_ble_eq_true rfl)
theorem s_L_takenAt_16 {X : ev_E} {l : Launch} (hG : ev_Good X) (hl : l.stackTraces = false) : ev_Snd X l ev_ms x_L_takenAt tx_L_takenAt 16 (i_psh (.int (1)) 17) := s_iconst dL_takenAt_16 rfl
theorem s_L_takenAt_17 {X : ev_E} {l : Launch} (hG : ev_Good X) (hl : l.stackTraces = false) : ev_Snd X l ev_ms x_L_takenAt tx_L_takenAt 17 (i_ir (.int)) := s_ireturn rfl dL_takenAt_17
theorem s_L_takenAt_18 {X : ev_E} {l : Launch} (hG : ev_Good X) (hl : l.stackTraces = false) : ev_Snd X l ev_ms x_L_takenAt tx_L_takenAt 18 (i_psh (.int (0)) 19) := s_iconst dL_takenAt_18 rfl
theorem s_L_takenAt_19 {X : ev_E} {l : Launch} (hG : ev_Good X) (hl : l.stackTraces = false) : ev_Snd X l ev_ms x_L_takenAt tx_L_takenAt 19 (i_ir (.int)) := s_ireturn rfl dL_takenAt_19
theorem sa_L_takenAt {X : ev_E} {l : Launch} (hG : ev_Good X) (hl : l.stackTraces = false) : ∀ q ∈ tb_L_takenAt X, ev_Snd X l ev_ms x_L_takenAt tx_L_takenAt q.1 q.2 := by
  intro q hq
  unfold tb_L_takenAt at hq
  simp only [List.mem_cons, List.not_mem_nil, or_false] at hq
  rcases hq with rfl | rfl | rfl | rfl | rfl | rfl | rfl | rfl | rfl | rfl | rfl | rfl | rfl
  · exact s_L_takenAt_0 hG hl
  · exact s_L_takenAt_1 hG hl
  · exact s_L_takenAt_2 hG hl
  · exact s_L_takenAt_3 hG hl
  · exact s_L_takenAt_4 hG hl
  · exact s_L_takenAt_7 hG hl
  · exact s_L_takenAt_8 hG hl
  · exact s_L_takenAt_11 hG hl
  · exact s_L_takenAt_14 hG hl
  · exact s_L_takenAt_16 hG hl
  · exact s_L_takenAt_17 hG hl
  · exact s_L_takenAt_18 hG hl
  · exact s_L_takenAt_19 hG hl
def tx_L_valueAt : ev_X := ev_hf [(0, 11, 0, 14, 19, 4, 16)]
noncomputable def tb_L_valueAt (X : ev_E) : List (Nat × (ev_S → ev_N)) := [(0, i_al 3 1), (1, i_al 0 2), (2, i_il 1 3), (3, i_il 2 4), (4, i_cV X 163 2 10 3 7), (7, i_i2l 8), (8, i_pf 11 0 (.long) 11), (11, i_goto 18), (14, i_as 4 16), (16, i_psh (.int (1)) 17), (17, i_ir (.int)), (18, i_psh (.int (0)) 19), (19, i_ir (.int))]
theorem s_L_valueAt_0 {X : ev_E} {l : Launch} (hG : ev_Good X) (hl : l.stackTraces = false) : ev_Snd X l ev_ms x_L_valueAt tx_L_valueAt 0 (i_al 3 1) := s_aload_n dL_valueAt_0 rfl
theorem s_L_valueAt_1 {X : ev_E} {l : Launch} (hG : ev_Good X) (hl : l.stackTraces = false) : ev_Snd X l ev_ms x_L_valueAt tx_L_valueAt 1 (i_al 0 2) := s_aload_n dL_valueAt_1 rfl
theorem s_L_valueAt_2 {X : ev_E} {l : Launch} (hG : ev_Good X) (hl : l.stackTraces = false) : ev_Snd X l ev_ms x_L_valueAt tx_L_valueAt 2 (i_il 1 3) := s_iload_n dL_valueAt_2 rfl
theorem s_L_valueAt_3 {X : ev_E} {l : Launch} (hG : ev_Good X) (hl : l.stackTraces = false) : ev_Snd X l ev_ms x_L_valueAt tx_L_valueAt 3 (i_il 2 4) := s_iload_n dL_valueAt_3 rfl
theorem s_L_valueAt_4 {X : ev_E} {l : Launch} (hG : ev_Good X) (hl : l.stackTraces = false) : ev_Snd X l ev_ms x_L_valueAt tx_L_valueAt 4 (i_cV X 163 2 10 3 7) := s_invokevirtual hG (mi := 163) (n := 2) (ci := 10) (r := (RX5, TX5, 7)) rfl (cal_X5_valueAt (Nat.le_of_ble_eq_true rfl)) w_981 w_982 w_983 dL_valueAt_4
theorem s_L_valueAt_7 {X : ev_E} {l : Launch} (hG : ev_Good X) (hl : l.stackTraces = false) : ev_Snd X l ev_ms x_L_valueAt tx_L_valueAt 7 (i_i2l 8) := s_i2l dL_valueAt_7
theorem s_L_valueAt_8 {X : ev_E} {l : Launch} (hG : ev_Good X) (hl : l.stackTraces = false) : ev_Snd X l ev_ms x_L_valueAt tx_L_valueAt 8 (i_pf 11 0 (.long) 11) := s_putfieldN hG (ci := 11) (r := (RX6, TX6, 2)) rfl cw_11 ap_11 (k := 0) (Nat.le_of_ble_eq_true rfl) rfl (by decide +kernel) w_811 rfl dL_valueAt_8
theorem s_L_valueAt_11 {X : ev_E} {l : Launch} (hG : ev_Good X) (hl : l.stackTraces = false) : ev_Snd X l ev_ms x_L_valueAt tx_L_valueAt 11 (i_goto 18) := s_goto dL_valueAt_11 rfl
theorem s_L_valueAt_14 {X : ev_E} {l : Launch} (hG : ev_Good X) (hl : l.stackTraces = false) : ev_Snd X l ev_ms x_L_valueAt tx_L_valueAt 14 (i_as 4 16) := s_astore dL_valueAt_14 (Nat.le_of_ble_eq_true rfl)
theorem s_L_valueAt_16 {X : ev_E} {l : Launch} (hG : ev_Good X) (hl : l.stackTraces = false) : ev_Snd X l ev_ms x_L_valueAt tx_L_valueAt 16 (i_psh (.int (1)) 17) := s_iconst dL_valueAt_16 rfl
theorem s_L_valueAt_17 {X : ev_E} {l : Launch} (hG : ev_Good X) (hl : l.stackTraces = false) : ev_Snd X l ev_ms x_L_valueAt tx_L_valueAt 17 (i_ir (.int)) := s_ireturn rfl dL_valueAt_17
theorem s_L_valueAt_18 {X : ev_E} {l : Launch} (hG : ev_Good X) (hl : l.stackTraces = false) : ev_Snd X l ev_ms x_L_valueAt tx_L_valueAt 18 (i_psh (.int (0)) 19) := s_iconst dL_valueAt_18 rfl
theorem s_L_valueAt_19 {X : ev_E} {l : Launch} (hG : ev_Good X) (hl : l.stackTraces = false) : ev_Snd X l ev_ms x_L_valueAt tx_L_valueAt 19 (i_ir (.int)) := s_ireturn rfl dL_valueAt_19
theorem sa_L_valueAt {X : ev_E} {l : Launch} (hG : ev_Good X) (hl : l.stackTraces = false) : ∀ q ∈ tb_L_valueAt X, ev_Snd X l ev_ms x_L_valueAt tx_L_valueAt q.1 q.2 := by
  intro q hq
  unfold tb_L_valueAt at hq
  simp only [List.mem_cons, List.not_mem_nil, or_false] at hq
  rcases hq with rfl | rfl | rfl | rfl | rfl | rfl | rfl | rfl | rfl | rfl | rfl | rfl | rfl
  · exact s_L_valueAt_0 hG hl
  · exact s_L_valueAt_1 hG hl
  · exact s_L_valueAt_2 hG hl
  · exact s_L_valueAt_3 hG hl
  · exact s_L_valueAt_4 hG hl
  · exact s_L_valueAt_7 hG hl
  · exact s_L_valueAt_8 hG hl
  · exact s_L_valueAt_11 hG hl
  · exact s_L_valueAt_14 hG hl
  · exact s_L_valueAt_16 hG hl
  · exact s_L_valueAt_17 hG hl
  · exact s_L_valueAt_18 hG hl
  · exact s_L_valueAt_19 hG hl
def tx_L_copy : ev_X := ev_hf [(0, 11, 0, 14, 19, 4, 16)]
noncomputable def tb_L_copy (X : ev_E) : List (Nat × (ev_S → ev_N)) := [(0, i_al 3 1), (1, i_al 0 2), (2, i_il 1 3), (3, i_il 2 4), (4, i_cV X 199 2 10 5 7), (7, i_i2l 8), (8, i_pf 11 0 (.long) 11), (11, i_goto 18), (14, i_as 4 16), (16, i_psh (.int (1)) 17), (17, i_ir (.int)), (18, i_psh (.int (0)) 19), (19, i_ir (.int))]
theorem s_L_copy_0 {X : ev_E} {l : Launch} (hG : ev_Good X) (hl : l.stackTraces = false) : ev_Snd X l ev_ms x_L_copy tx_L_copy 0 (i_al 3 1) := s_aload_n dL_copy_0 rfl
theorem s_L_copy_1 {X : ev_E} {l : Launch} (hG : ev_Good X) (hl : l.stackTraces = false) : ev_Snd X l ev_ms x_L_copy tx_L_copy 1 (i_al 0 2) := s_aload_n dL_copy_1 rfl
theorem s_L_copy_2 {X : ev_E} {l : Launch} (hG : ev_Good X) (hl : l.stackTraces = false) : ev_Snd X l ev_ms x_L_copy tx_L_copy 2 (i_il 1 3) := s_iload_n dL_copy_2 rfl
theorem s_L_copy_3 {X : ev_E} {l : Launch} (hG : ev_Good X) (hl : l.stackTraces = false) : ev_Snd X l ev_ms x_L_copy tx_L_copy 3 (i_il 2 4) := s_iload_n dL_copy_3 rfl
theorem s_L_copy_4 {X : ev_E} {l : Launch} (hG : ev_Good X) (hl : l.stackTraces = false) : ev_Snd X l ev_ms x_L_copy tx_L_copy 4 (i_cV X 199 2 10 5 7) := s_invokevirtual hG (mi := 199) (n := 2) (ci := 10) (r := (RX5, TX5, 7)) rfl (cal_X5_copy (Nat.le_of_ble_eq_true rfl)) w_951 w_952 w_953 dL_copy_4
theorem s_L_copy_7 {X : ev_E} {l : Launch} (hG : ev_Good X) (hl : l.stackTraces = false) : ev_Snd X l ev_ms x_L_copy tx_L_copy 7 (i_i2l 8) := s_i2l dL_copy_7
theorem s_L_copy_8 {X : ev_E} {l : Launch} (hG : ev_Good X) (hl : l.stackTraces = false) : ev_Snd X l ev_ms x_L_copy tx_L_copy 8 (i_pf 11 0 (.long) 11) := s_putfieldN hG (ci := 11) (r := (RX6, TX6, 2)) rfl cw_11 ap_11 (k := 0) (Nat.le_of_ble_eq_true rfl) rfl (by decide +kernel) w_811 rfl dL_copy_8
theorem s_L_copy_11 {X : ev_E} {l : Launch} (hG : ev_Good X) (hl : l.stackTraces = false) : ev_Snd X l ev_ms x_L_copy tx_L_copy 11 (i_goto 18) := s_goto dL_copy_11 rfl
theorem s_L_copy_14 {X : ev_E} {l : Launch} (hG : ev_Good X) (hl : l.stackTraces = false) : ev_Snd X l ev_ms x_L_copy tx_L_copy 14 (i_as 4 16) := s_astore dL_copy_14 (Nat.le_of_ble_eq_true rfl)
theorem s_L_copy_16 {X : ev_E} {l : Launch} (hG : ev_Good X) (hl : l.stackTraces = false) : ev_Snd X l ev_ms x_L_copy tx_L_copy 16 (i_psh (.int (1)) 17) := s_iconst dL_copy_16 rfl
theorem s_L_copy_17 {X : ev_E} {l : Launch} (hG : ev_Good X) (hl : l.stackTraces = false) : ev_Snd X l ev_ms x_L_copy tx_L_copy 17 (i_ir (.int)) := s_ireturn rfl dL_copy_17
theorem s_L_copy_18 {X : ev_E} {l : Launch} (hG : ev_Good X) (hl : l.stackTraces = false) : ev_Snd X l ev_ms x_L_copy tx_L_copy 18 (i_psh (.int (0)) 19) := s_iconst dL_copy_18 rfl
theorem s_L_copy_19 {X : ev_E} {l : Launch} (hG : ev_Good X) (hl : l.stackTraces = false) : ev_Snd X l ev_ms x_L_copy tx_L_copy 19 (i_ir (.int)) := s_ireturn rfl dL_copy_19
theorem sa_L_copy {X : ev_E} {l : Launch} (hG : ev_Good X) (hl : l.stackTraces = false) : ∀ q ∈ tb_L_copy X, ev_Snd X l ev_ms x_L_copy tx_L_copy q.1 q.2 := by
  intro q hq
  unfold tb_L_copy at hq
  simp only [List.mem_cons, List.not_mem_nil, or_false] at hq
  rcases hq with rfl | rfl | rfl | rfl | rfl | rfl | rfl | rfl | rfl | rfl | rfl | rfl | rfl
  · exact s_L_copy_0 hG hl
  · exact s_L_copy_1 hG hl
  · exact s_L_copy_2 hG hl
  · exact s_L_copy_3 hG hl
  · exact s_L_copy_4 hG hl
  · exact s_L_copy_7 hG hl
  · exact s_L_copy_8 hG hl
  · exact s_L_copy_11 hG hl
  · exact s_L_copy_14 hG hl
  · exact s_L_copy_16 hG hl
  · exact s_L_copy_17 hG hl
  · exact s_L_copy_18 hG hl
  · exact s_L_copy_19 hG hl
def tx_L_cut : ev_X := ev_hf [(0, 10, 0, 13, 19, 3, 14)]
noncomputable def tb_L_cut (X : ev_E) : List (Nat × (ev_S → ev_N)) := [(0, i_al 2 1), (1, i_al 0 2), (2, i_il 1 3), (3, i_cV X 200 1 10 3 6), (6, i_i2l 7), (7, i_pf 11 0 (.long) 10), (10, i_goto 16), (13, i_as 3 14), (14, i_psh (.int (1)) 15), (15, i_ir (.int)), (16, i_psh (.int (0)) 17), (17, i_ir (.int))]
theorem s_L_cut_0 {X : ev_E} {l : Launch} (hG : ev_Good X) (hl : l.stackTraces = false) : ev_Snd X l ev_ms x_L_cut tx_L_cut 0 (i_al 2 1) := s_aload_n dL_cut_0 rfl
theorem s_L_cut_1 {X : ev_E} {l : Launch} (hG : ev_Good X) (hl : l.stackTraces = false) : ev_Snd X l ev_ms x_L_cut tx_L_cut 1 (i_al 0 2) := s_aload_n dL_cut_1 rfl
theorem s_L_cut_2 {X : ev_E} {l : Launch} (hG : ev_Good X) (hl : l.stackTraces = false) : ev_Snd X l ev_ms x_L_cut tx_L_cut 2 (i_il 1 3) := s_iload_n dL_cut_2 rfl
theorem s_L_cut_3 {X : ev_E} {l : Launch} (hG : ev_Good X) (hl : l.stackTraces = false) : ev_Snd X l ev_ms x_L_cut tx_L_cut 3 (i_cV X 200 1 10 3 6) := s_invokevirtual hG (mi := 200) (n := 1) (ci := 10) (r := (RX5, TX5, 7)) rfl (cal_X5_cut (Nat.le_of_ble_eq_true rfl)) w_1052 w_1053 w_1054 dL_cut_3
theorem s_L_cut_6 {X : ev_E} {l : Launch} (hG : ev_Good X) (hl : l.stackTraces = false) : ev_Snd X l ev_ms x_L_cut tx_L_cut 6 (i_i2l 7) := s_i2l dL_cut_6
theorem s_L_cut_7 {X : ev_E} {l : Launch} (hG : ev_Good X) (hl : l.stackTraces = false) : ev_Snd X l ev_ms x_L_cut tx_L_cut 7 (i_pf 11 0 (.long) 10) := s_putfieldN hG (ci := 11) (r := (RX6, TX6, 2)) rfl cw_11 ap_11 (k := 0) (Nat.le_of_ble_eq_true rfl) rfl (by decide +kernel) w_811 rfl dL_cut_7
theorem s_L_cut_10 {X : ev_E} {l : Launch} (hG : ev_Good X) (hl : l.stackTraces = false) : ev_Snd X l ev_ms x_L_cut tx_L_cut 10 (i_goto 16) := s_goto dL_cut_10 rfl
theorem s_L_cut_13 {X : ev_E} {l : Launch} (hG : ev_Good X) (hl : l.stackTraces = false) : ev_Snd X l ev_ms x_L_cut tx_L_cut 13 (i_as 3 14) := s_astore_n dL_cut_13 rfl (Nat.le_of_ble_eq_true rfl)
theorem s_L_cut_14 {X : ev_E} {l : Launch} (hG : ev_Good X) (hl : l.stackTraces = false) : ev_Snd X l ev_ms x_L_cut tx_L_cut 14 (i_psh (.int (1)) 15) := s_iconst dL_cut_14 rfl
theorem s_L_cut_15 {X : ev_E} {l : Launch} (hG : ev_Good X) (hl : l.stackTraces = false) : ev_Snd X l ev_ms x_L_cut tx_L_cut 15 (i_ir (.int)) := s_ireturn rfl dL_cut_15
theorem s_L_cut_16 {X : ev_E} {l : Launch} (hG : ev_Good X) (hl : l.stackTraces = false) : ev_Snd X l ev_ms x_L_cut tx_L_cut 16 (i_psh (.int (0)) 17) := s_iconst dL_cut_16 rfl
theorem s_L_cut_17 {X : ev_E} {l : Launch} (hG : ev_Good X) (hl : l.stackTraces = false) : ev_Snd X l ev_ms x_L_cut tx_L_cut 17 (i_ir (.int)) := s_ireturn rfl dL_cut_17
theorem sa_L_cut {X : ev_E} {l : Launch} (hG : ev_Good X) (hl : l.stackTraces = false) : ∀ q ∈ tb_L_cut X, ev_Snd X l ev_ms x_L_cut tx_L_cut q.1 q.2 := by
  intro q hq
  unfold tb_L_cut at hq
  simp only [List.mem_cons, List.not_mem_nil, or_false] at hq
  rcases hq with rfl | rfl | rfl | rfl | rfl | rfl | rfl | rfl | rfl | rfl | rfl | rfl
  · exact s_L_cut_0 hG hl
  · exact s_L_cut_1 hG hl
  · exact s_L_cut_2 hG hl
  · exact s_L_cut_3 hG hl
  · exact s_L_cut_6 hG hl
  · exact s_L_cut_7 hG hl
  · exact s_L_cut_10 hG hl
  · exact s_L_cut_13 hG hl
  · exact s_L_cut_14 hG hl
  · exact s_L_cut_15 hG hl
  · exact s_L_cut_16 hG hl
  · exact s_L_cut_17 hG hl
def tx_L_remove : ev_X := ev_hf [(0, 11, 0, 14, 19, 4, 16), (0, 11, 1, 18, 21, 4, 20)]
noncomputable def tb_L_remove (X : ev_E) : List (Nat × (ev_S → ev_N)) := [(0, i_al 3 1), (1, i_al 0 2), (2, i_il 1 3), (3, i_il 2 4), (4, i_cV X 205 2 10 4 7), (7, i_i2l 8), (8, i_pf 11 0 (.long) 11), (11, i_goto 22), (14, i_as 4 16), (16, i_psh (.int (1)) 17), (17, i_ir (.int)), (18, i_as 4 20), (20, i_psh (.int (2)) 21), (21, i_ir (.int)), (22, i_psh (.int (0)) 23), (23, i_ir (.int))]
theorem s_L_remove_0 {X : ev_E} {l : Launch} (hG : ev_Good X) (hl : l.stackTraces = false) : ev_Snd X l ev_ms x_L_remove tx_L_remove 0 (i_al 3 1) := s_aload_n dL_remove_0 rfl
theorem s_L_remove_1 {X : ev_E} {l : Launch} (hG : ev_Good X) (hl : l.stackTraces = false) : ev_Snd X l ev_ms x_L_remove tx_L_remove 1 (i_al 0 2) := s_aload_n dL_remove_1 rfl
theorem s_L_remove_2 {X : ev_E} {l : Launch} (hG : ev_Good X) (hl : l.stackTraces = false) : ev_Snd X l ev_ms x_L_remove tx_L_remove 2 (i_il 1 3) := s_iload_n dL_remove_2 rfl
theorem s_L_remove_3 {X : ev_E} {l : Launch} (hG : ev_Good X) (hl : l.stackTraces = false) : ev_Snd X l ev_ms x_L_remove tx_L_remove 3 (i_il 2 4) := s_iload_n dL_remove_3 rfl
theorem s_L_remove_4 {X : ev_E} {l : Launch} (hG : ev_Good X) (hl : l.stackTraces = false) : ev_Snd X l ev_ms x_L_remove tx_L_remove 4 (i_cV X 205 2 10 4 7) := s_invokevirtual hG (mi := 205) (n := 2) (ci := 10) (r := (RX5, TX5, 7)) rfl (cal_X5_remove (Nat.le_of_ble_eq_true rfl)) w_919 w_920 w_921 dL_remove_4
theorem s_L_remove_7 {X : ev_E} {l : Launch} (hG : ev_Good X) (hl : l.stackTraces = false) : ev_Snd X l ev_ms x_L_remove tx_L_remove 7 (i_i2l 8) := s_i2l dL_remove_7
theorem s_L_remove_8 {X : ev_E} {l : Launch} (hG : ev_Good X) (hl : l.stackTraces = false) : ev_Snd X l ev_ms x_L_remove tx_L_remove 8 (i_pf 11 0 (.long) 11) := s_putfieldN hG (ci := 11) (r := (RX6, TX6, 2)) rfl cw_11 ap_11 (k := 0) (Nat.le_of_ble_eq_true rfl) rfl (by decide +kernel) w_811 rfl dL_remove_8
theorem s_L_remove_11 {X : ev_E} {l : Launch} (hG : ev_Good X) (hl : l.stackTraces = false) : ev_Snd X l ev_ms x_L_remove tx_L_remove 11 (i_goto 22) := s_goto dL_remove_11 rfl
theorem s_L_remove_14 {X : ev_E} {l : Launch} (hG : ev_Good X) (hl : l.stackTraces = false) : ev_Snd X l ev_ms x_L_remove tx_L_remove 14 (i_as 4 16) := s_astore dL_remove_14 (Nat.le_of_ble_eq_true rfl)
theorem s_L_remove_16 {X : ev_E} {l : Launch} (hG : ev_Good X) (hl : l.stackTraces = false) : ev_Snd X l ev_ms x_L_remove tx_L_remove 16 (i_psh (.int (1)) 17) := s_iconst dL_remove_16 rfl
theorem s_L_remove_17 {X : ev_E} {l : Launch} (hG : ev_Good X) (hl : l.stackTraces = false) : ev_Snd X l ev_ms x_L_remove tx_L_remove 17 (i_ir (.int)) := s_ireturn rfl dL_remove_17
theorem s_L_remove_18 {X : ev_E} {l : Launch} (hG : ev_Good X) (hl : l.stackTraces = false) : ev_Snd X l ev_ms x_L_remove tx_L_remove 18 (i_as 4 20) := s_astore dL_remove_18 (Nat.le_of_ble_eq_true rfl)
theorem s_L_remove_20 {X : ev_E} {l : Launch} (hG : ev_Good X) (hl : l.stackTraces = false) : ev_Snd X l ev_ms x_L_remove tx_L_remove 20 (i_psh (.int (2)) 21) := s_iconst dL_remove_20 rfl
theorem s_L_remove_21 {X : ev_E} {l : Launch} (hG : ev_Good X) (hl : l.stackTraces = false) : ev_Snd X l ev_ms x_L_remove tx_L_remove 21 (i_ir (.int)) := s_ireturn rfl dL_remove_21
theorem s_L_remove_22 {X : ev_E} {l : Launch} (hG : ev_Good X) (hl : l.stackTraces = false) : ev_Snd X l ev_ms x_L_remove tx_L_remove 22 (i_psh (.int (0)) 23) := s_iconst dL_remove_22 rfl
theorem s_L_remove_23 {X : ev_E} {l : Launch} (hG : ev_Good X) (hl : l.stackTraces = false) : ev_Snd X l ev_ms x_L_remove tx_L_remove 23 (i_ir (.int)) := s_ireturn rfl dL_remove_23
theorem sa_L_remove {X : ev_E} {l : Launch} (hG : ev_Good X) (hl : l.stackTraces = false) : ∀ q ∈ tb_L_remove X, ev_Snd X l ev_ms x_L_remove tx_L_remove q.1 q.2 := by
  intro q hq
  unfold tb_L_remove at hq
  simp only [List.mem_cons, List.not_mem_nil, or_false] at hq
  rcases hq with rfl | rfl | rfl | rfl | rfl | rfl | rfl | rfl | rfl | rfl | rfl | rfl | rfl | rfl | rfl | rfl
  · exact s_L_remove_0 hG hl
  · exact s_L_remove_1 hG hl
  · exact s_L_remove_2 hG hl
  · exact s_L_remove_3 hG hl
  · exact s_L_remove_4 hG hl
  · exact s_L_remove_7 hG hl
  · exact s_L_remove_8 hG hl
  · exact s_L_remove_11 hG hl
  · exact s_L_remove_14 hG hl
  · exact s_L_remove_16 hG hl
  · exact s_L_remove_17 hG hl
  · exact s_L_remove_18 hG hl
  · exact s_L_remove_20 hG hl
  · exact s_L_remove_21 hG hl
  · exact s_L_remove_22 hG hl
  · exact s_L_remove_23 hG hl
def tx_L_step : ev_X := ev_hf [(0, 10, 0, 13, 19, 3, 14)]
noncomputable def tb_L_step (X : ev_E) : List (Nat × (ev_S → ev_N)) := [(0, i_al 2 1), (1, i_al 0 2), (2, i_il 1 3), (3, i_cV X 206 1 10 3 6), (6, i_i2l 7), (7, i_pf 11 0 (.long) 10), (10, i_goto 16), (13, i_as 3 14), (14, i_psh (.int (1)) 15), (15, i_ir (.int)), (16, i_psh (.int (0)) 17), (17, i_ir (.int))]
theorem s_L_step_0 {X : ev_E} {l : Launch} (hG : ev_Good X) (hl : l.stackTraces = false) : ev_Snd X l ev_ms x_L_step tx_L_step 0 (i_al 2 1) := s_aload_n dL_step_0 rfl
theorem s_L_step_1 {X : ev_E} {l : Launch} (hG : ev_Good X) (hl : l.stackTraces = false) : ev_Snd X l ev_ms x_L_step tx_L_step 1 (i_al 0 2) := s_aload_n dL_step_1 rfl
theorem s_L_step_2 {X : ev_E} {l : Launch} (hG : ev_Good X) (hl : l.stackTraces = false) : ev_Snd X l ev_ms x_L_step tx_L_step 2 (i_il 1 3) := s_iload_n dL_step_2 rfl
theorem s_L_step_3 {X : ev_E} {l : Launch} (hG : ev_Good X) (hl : l.stackTraces = false) : ev_Snd X l ev_ms x_L_step tx_L_step 3 (i_cV X 206 1 10 3 6) := s_invokevirtual hG (mi := 206) (n := 1) (ci := 10) (r := (RX5, TX5, 7)) rfl (cal_X5_step (Nat.le_of_ble_eq_true rfl)) w_1039 w_1040 w_1041 dL_step_3
theorem s_L_step_6 {X : ev_E} {l : Launch} (hG : ev_Good X) (hl : l.stackTraces = false) : ev_Snd X l ev_ms x_L_step tx_L_step 6 (i_i2l 7) := s_i2l dL_step_6
theorem s_L_step_7 {X : ev_E} {l : Launch} (hG : ev_Good X) (hl : l.stackTraces = false) : ev_Snd X l ev_ms x_L_step tx_L_step 7 (i_pf 11 0 (.long) 10) := s_putfieldN hG (ci := 11) (r := (RX6, TX6, 2)) rfl cw_11 ap_11 (k := 0) (Nat.le_of_ble_eq_true rfl) rfl (by decide +kernel) w_811 rfl dL_step_7
theorem s_L_step_10 {X : ev_E} {l : Launch} (hG : ev_Good X) (hl : l.stackTraces = false) : ev_Snd X l ev_ms x_L_step tx_L_step 10 (i_goto 16) := s_goto dL_step_10 rfl
theorem s_L_step_13 {X : ev_E} {l : Launch} (hG : ev_Good X) (hl : l.stackTraces = false) : ev_Snd X l ev_ms x_L_step tx_L_step 13 (i_as 3 14) := s_astore_n dL_step_13 rfl (Nat.le_of_ble_eq_true rfl)
theorem s_L_step_14 {X : ev_E} {l : Launch} (hG : ev_Good X) (hl : l.stackTraces = false) : ev_Snd X l ev_ms x_L_step tx_L_step 14 (i_psh (.int (1)) 15) := s_iconst dL_step_14 rfl
theorem s_L_step_15 {X : ev_E} {l : Launch} (hG : ev_Good X) (hl : l.stackTraces = false) : ev_Snd X l ev_ms x_L_step tx_L_step 15 (i_ir (.int)) := s_ireturn rfl dL_step_15
theorem s_L_step_16 {X : ev_E} {l : Launch} (hG : ev_Good X) (hl : l.stackTraces = false) : ev_Snd X l ev_ms x_L_step tx_L_step 16 (i_psh (.int (0)) 17) := s_iconst dL_step_16 rfl
theorem s_L_step_17 {X : ev_E} {l : Launch} (hG : ev_Good X) (hl : l.stackTraces = false) : ev_Snd X l ev_ms x_L_step tx_L_step 17 (i_ir (.int)) := s_ireturn rfl dL_step_17
theorem sa_L_step {X : ev_E} {l : Launch} (hG : ev_Good X) (hl : l.stackTraces = false) : ∀ q ∈ tb_L_step X, ev_Snd X l ev_ms x_L_step tx_L_step q.1 q.2 := by
  intro q hq
  unfold tb_L_step at hq
  simp only [List.mem_cons, List.not_mem_nil, or_false] at hq
  rcases hq with rfl | rfl | rfl | rfl | rfl | rfl | rfl | rfl | rfl | rfl | rfl | rfl
  · exact s_L_step_0 hG hl
  · exact s_L_step_1 hG hl
  · exact s_L_step_2 hG hl
  · exact s_L_step_3 hG hl
  · exact s_L_step_6 hG hl
  · exact s_L_step_7 hG hl
  · exact s_L_step_10 hG hl
  · exact s_L_step_13 hG hl
  · exact s_L_step_14 hG hl
  · exact s_L_step_15 hG hl
  · exact s_L_step_16 hG hl
  · exact s_L_step_17 hG hl
def tx_L_get : ev_X := ev_hf [(0, 11, 0, 14, 19, 4, 16), (0, 11, 1, 18, 21, 4, 20)]
noncomputable def tb_L_get (X : ev_E) : List (Nat × (ev_S → ev_N)) := [(0, i_al 3 1), (1, i_al 0 2), (2, i_il 1 3), (3, i_il 2 4), (4, i_cV X 228 2 10 4 7), (7, i_i2l 8), (8, i_pf 11 0 (.long) 11), (11, i_goto 22), (14, i_as 4 16), (16, i_psh (.int (1)) 17), (17, i_ir (.int)), (18, i_as 4 20), (20, i_psh (.int (2)) 21), (21, i_ir (.int)), (22, i_psh (.int (0)) 23), (23, i_ir (.int))]
theorem s_L_get_0 {X : ev_E} {l : Launch} (hG : ev_Good X) (hl : l.stackTraces = false) : ev_Snd X l ev_ms x_L_get tx_L_get 0 (i_al 3 1) := s_aload_n dL_get_0 rfl
theorem s_L_get_1 {X : ev_E} {l : Launch} (hG : ev_Good X) (hl : l.stackTraces = false) : ev_Snd X l ev_ms x_L_get tx_L_get 1 (i_al 0 2) := s_aload_n dL_get_1 rfl
theorem s_L_get_2 {X : ev_E} {l : Launch} (hG : ev_Good X) (hl : l.stackTraces = false) : ev_Snd X l ev_ms x_L_get tx_L_get 2 (i_il 1 3) := s_iload_n dL_get_2 rfl
theorem s_L_get_3 {X : ev_E} {l : Launch} (hG : ev_Good X) (hl : l.stackTraces = false) : ev_Snd X l ev_ms x_L_get tx_L_get 3 (i_il 2 4) := s_iload_n dL_get_3 rfl
theorem s_L_get_4 {X : ev_E} {l : Launch} (hG : ev_Good X) (hl : l.stackTraces = false) : ev_Snd X l ev_ms x_L_get tx_L_get 4 (i_cV X 228 2 10 4 7) := s_invokevirtual hG (mi := 228) (n := 2) (ci := 10) (r := (RX5, TX5, 7)) rfl (cal_X5_get (Nat.le_of_ble_eq_true rfl)) w_904 w_905 w_906 dL_get_4
theorem s_L_get_7 {X : ev_E} {l : Launch} (hG : ev_Good X) (hl : l.stackTraces = false) : ev_Snd X l ev_ms x_L_get tx_L_get 7 (i_i2l 8) := s_i2l dL_get_7
theorem s_L_get_8 {X : ev_E} {l : Launch} (hG : ev_Good X) (hl : l.stackTraces = false) : ev_Snd X l ev_ms x_L_get tx_L_get 8 (i_pf 11 0 (.long) 11) := s_putfieldN hG (ci := 11) (r := (RX6, TX6, 2)) rfl cw_11 ap_11 (k := 0) (Nat.le_of_ble_eq_true rfl) rfl (by decide +kernel) w_811 rfl dL_get_8
theorem s_L_get_11 {X : ev_E} {l : Launch} (hG : ev_Good X) (hl : l.stackTraces = false) : ev_Snd X l ev_ms x_L_get tx_L_get 11 (i_goto 22) := s_goto dL_get_11 rfl
theorem s_L_get_14 {X : ev_E} {l : Launch} (hG : ev_Good X) (hl : l.stackTraces = false) : ev_Snd X l ev_ms x_L_get tx_L_get 14 (i_as 4 16) := s_astore dL_get_14 (Nat.le_of_ble_eq_true rfl)
theorem s_L_get_16 {X : ev_E} {l : Launch} (hG : ev_Good X) (hl : l.stackTraces = false) : ev_Snd X l ev_ms x_L_get tx_L_get 16 (i_psh (.int (1)) 17) := s_iconst dL_get_16 rfl
theorem s_L_get_17 {X : ev_E} {l : Launch} (hG : ev_Good X) (hl : l.stackTraces = false) : ev_Snd X l ev_ms x_L_get tx_L_get 17 (i_ir (.int)) := s_ireturn rfl dL_get_17
theorem s_L_get_18 {X : ev_E} {l : Launch} (hG : ev_Good X) (hl : l.stackTraces = false) : ev_Snd X l ev_ms x_L_get tx_L_get 18 (i_as 4 20) := s_astore dL_get_18 (Nat.le_of_ble_eq_true rfl)
theorem s_L_get_20 {X : ev_E} {l : Launch} (hG : ev_Good X) (hl : l.stackTraces = false) : ev_Snd X l ev_ms x_L_get tx_L_get 20 (i_psh (.int (2)) 21) := s_iconst dL_get_20 rfl
theorem s_L_get_21 {X : ev_E} {l : Launch} (hG : ev_Good X) (hl : l.stackTraces = false) : ev_Snd X l ev_ms x_L_get tx_L_get 21 (i_ir (.int)) := s_ireturn rfl dL_get_21
theorem s_L_get_22 {X : ev_E} {l : Launch} (hG : ev_Good X) (hl : l.stackTraces = false) : ev_Snd X l ev_ms x_L_get tx_L_get 22 (i_psh (.int (0)) 23) := s_iconst dL_get_22 rfl
theorem s_L_get_23 {X : ev_E} {l : Launch} (hG : ev_Good X) (hl : l.stackTraces = false) : ev_Snd X l ev_ms x_L_get tx_L_get 23 (i_ir (.int)) := s_ireturn rfl dL_get_23
theorem sa_L_get {X : ev_E} {l : Launch} (hG : ev_Good X) (hl : l.stackTraces = false) : ∀ q ∈ tb_L_get X, ev_Snd X l ev_ms x_L_get tx_L_get q.1 q.2 := by
  intro q hq
  unfold tb_L_get at hq
  simp only [List.mem_cons, List.not_mem_nil, or_false] at hq
  rcases hq with rfl | rfl | rfl | rfl | rfl | rfl | rfl | rfl | rfl | rfl | rfl | rfl | rfl | rfl | rfl | rfl
  · exact s_L_get_0 hG hl
  · exact s_L_get_1 hG hl
  · exact s_L_get_2 hG hl
  · exact s_L_get_3 hG hl
  · exact s_L_get_4 hG hl
  · exact s_L_get_7 hG hl
  · exact s_L_get_8 hG hl
  · exact s_L_get_11 hG hl
  · exact s_L_get_14 hG hl
  · exact s_L_get_16 hG hl
  · exact s_L_get_17 hG hl
  · exact s_L_get_18 hG hl
  · exact s_L_get_20 hG hl
  · exact s_L_get_21 hG hl
  · exact s_L_get_22 hG hl
  · exact s_L_get_23 hG hl
def tx_L_getOr : ev_X := ev_hf [(0, 13, 0, 16, 19, 5, 18), (0, 13, 1, 20, 21, 5, 22)]
noncomputable def tb_L_getOr (X : ev_E) : List (Nat × (ev_S → ev_N)) := [(0, i_al 4 2), (2, i_al 0 3), (3, i_il 1 4), (4, i_il 2 5), (5, i_il 3 6), (6, i_cV X 229 3 10 5 9), (9, i_i2l 10), (10, i_pf 11 0 (.long) 13), (13, i_goto 24), (16, i_as 5 18), (18, i_psh (.int (1)) 19), (19, i_ir (.int)), (20, i_as 5 22), (22, i_psh (.int (2)) 23), (23, i_ir (.int)), (24, i_psh (.int (0)) 25), (25, i_ir (.int))]
theorem s_L_getOr_0 {X : ev_E} {l : Launch} (hG : ev_Good X) (hl : l.stackTraces = false) : ev_Snd X l ev_ms x_L_getOr tx_L_getOr 0 (i_al 4 2) := s_aload dL_getOr_0
theorem s_L_getOr_2 {X : ev_E} {l : Launch} (hG : ev_Good X) (hl : l.stackTraces = false) : ev_Snd X l ev_ms x_L_getOr tx_L_getOr 2 (i_al 0 3) := s_aload_n dL_getOr_2 rfl
theorem s_L_getOr_3 {X : ev_E} {l : Launch} (hG : ev_Good X) (hl : l.stackTraces = false) : ev_Snd X l ev_ms x_L_getOr tx_L_getOr 3 (i_il 1 4) := s_iload_n dL_getOr_3 rfl
theorem s_L_getOr_4 {X : ev_E} {l : Launch} (hG : ev_Good X) (hl : l.stackTraces = false) : ev_Snd X l ev_ms x_L_getOr tx_L_getOr 4 (i_il 2 5) := s_iload_n dL_getOr_4 rfl
theorem s_L_getOr_5 {X : ev_E} {l : Launch} (hG : ev_Good X) (hl : l.stackTraces = false) : ev_Snd X l ev_ms x_L_getOr tx_L_getOr 5 (i_il 3 6) := s_iload_n dL_getOr_5 rfl
theorem s_L_getOr_6 {X : ev_E} {l : Launch} (hG : ev_Good X) (hl : l.stackTraces = false) : ev_Snd X l ev_ms x_L_getOr tx_L_getOr 6 (i_cV X 229 3 10 5 9) := s_invokevirtual hG (mi := 229) (n := 3) (ci := 10) (r := (RX5, TX5, 7)) rfl (cal_X5_getOr (Nat.le_of_ble_eq_true rfl)) w_912 w_913 w_914 dL_getOr_6
theorem s_L_getOr_9 {X : ev_E} {l : Launch} (hG : ev_Good X) (hl : l.stackTraces = false) : ev_Snd X l ev_ms x_L_getOr tx_L_getOr 9 (i_i2l 10) := s_i2l dL_getOr_9
theorem s_L_getOr_10 {X : ev_E} {l : Launch} (hG : ev_Good X) (hl : l.stackTraces = false) : ev_Snd X l ev_ms x_L_getOr tx_L_getOr 10 (i_pf 11 0 (.long) 13) := s_putfieldN hG (ci := 11) (r := (RX6, TX6, 2)) rfl cw_11 ap_11 (k := 0) (Nat.le_of_ble_eq_true rfl) rfl (by decide +kernel) w_811 rfl dL_getOr_10
theorem s_L_getOr_13 {X : ev_E} {l : Launch} (hG : ev_Good X) (hl : l.stackTraces = false) : ev_Snd X l ev_ms x_L_getOr tx_L_getOr 13 (i_goto 24) := s_goto dL_getOr_13 rfl
theorem s_L_getOr_16 {X : ev_E} {l : Launch} (hG : ev_Good X) (hl : l.stackTraces = false) : ev_Snd X l ev_ms x_L_getOr tx_L_getOr 16 (i_as 5 18) := s_astore dL_getOr_16 (Nat.le_of_ble_eq_true rfl)
theorem s_L_getOr_18 {X : ev_E} {l : Launch} (hG : ev_Good X) (hl : l.stackTraces = false) : ev_Snd X l ev_ms x_L_getOr tx_L_getOr 18 (i_psh (.int (1)) 19) := s_iconst dL_getOr_18 rfl
theorem s_L_getOr_19 {X : ev_E} {l : Launch} (hG : ev_Good X) (hl : l.stackTraces = false) : ev_Snd X l ev_ms x_L_getOr tx_L_getOr 19 (i_ir (.int)) := s_ireturn rfl dL_getOr_19
theorem s_L_getOr_20 {X : ev_E} {l : Launch} (hG : ev_Good X) (hl : l.stackTraces = false) : ev_Snd X l ev_ms x_L_getOr tx_L_getOr 20 (i_as 5 22) := s_astore dL_getOr_20 (Nat.le_of_ble_eq_true rfl)
theorem s_L_getOr_22 {X : ev_E} {l : Launch} (hG : ev_Good X) (hl : l.stackTraces = false) : ev_Snd X l ev_ms x_L_getOr tx_L_getOr 22 (i_psh (.int (2)) 23) := s_iconst dL_getOr_22 rfl
theorem s_L_getOr_23 {X : ev_E} {l : Launch} (hG : ev_Good X) (hl : l.stackTraces = false) : ev_Snd X l ev_ms x_L_getOr tx_L_getOr 23 (i_ir (.int)) := s_ireturn rfl dL_getOr_23
theorem s_L_getOr_24 {X : ev_E} {l : Launch} (hG : ev_Good X) (hl : l.stackTraces = false) : ev_Snd X l ev_ms x_L_getOr tx_L_getOr 24 (i_psh (.int (0)) 25) := s_iconst dL_getOr_24 rfl
theorem s_L_getOr_25 {X : ev_E} {l : Launch} (hG : ev_Good X) (hl : l.stackTraces = false) : ev_Snd X l ev_ms x_L_getOr tx_L_getOr 25 (i_ir (.int)) := s_ireturn rfl dL_getOr_25
theorem sa_L_getOr {X : ev_E} {l : Launch} (hG : ev_Good X) (hl : l.stackTraces = false) : ∀ q ∈ tb_L_getOr X, ev_Snd X l ev_ms x_L_getOr tx_L_getOr q.1 q.2 := by
  intro q hq
  unfold tb_L_getOr at hq
  simp only [List.mem_cons, List.not_mem_nil, or_false] at hq
  rcases hq with rfl | rfl | rfl | rfl | rfl | rfl | rfl | rfl | rfl | rfl | rfl | rfl | rfl | rfl | rfl | rfl | rfl
  · exact s_L_getOr_0 hG hl
  · exact s_L_getOr_2 hG hl
  · exact s_L_getOr_3 hG hl
  · exact s_L_getOr_4 hG hl
  · exact s_L_getOr_5 hG hl
  · exact s_L_getOr_6 hG hl
  · exact s_L_getOr_9 hG hl
  · exact s_L_getOr_10 hG hl
  · exact s_L_getOr_13 hG hl
  · exact s_L_getOr_16 hG hl
  · exact s_L_getOr_18 hG hl
  · exact s_L_getOr_19 hG hl
  · exact s_L_getOr_20 hG hl
  · exact s_L_getOr_22 hG hl
  · exact s_L_getOr_23 hG hl
  · exact s_L_getOr_24 hG hl
  · exact s_L_getOr_25 hG hl
def tx_L_put : ev_X := ev_hf [(0, 13, 0, 16, 19, 5, 18), (0, 13, 1, 20, 21, 5, 22)]
noncomputable def tb_L_put (X : ev_E) : List (Nat × (ev_S → ev_N)) := [(0, i_al 4 2), (2, i_al 0 3), (3, i_il 1 4), (4, i_il 2 5), (5, i_il 3 6), (6, i_cV X 230 3 10 5 9), (9, i_i2l 10), (10, i_pf 11 0 (.long) 13), (13, i_goto 24), (16, i_as 5 18), (18, i_psh (.int (1)) 19), (19, i_ir (.int)), (20, i_as 5 22), (22, i_psh (.int (2)) 23), (23, i_ir (.int)), (24, i_psh (.int (0)) 25), (25, i_ir (.int))]
theorem s_L_put_0 {X : ev_E} {l : Launch} (hG : ev_Good X) (hl : l.stackTraces = false) : ev_Snd X l ev_ms x_L_put tx_L_put 0 (i_al 4 2) := s_aload dL_put_0
theorem s_L_put_2 {X : ev_E} {l : Launch} (hG : ev_Good X) (hl : l.stackTraces = false) : ev_Snd X l ev_ms x_L_put tx_L_put 2 (i_al 0 3) := s_aload_n dL_put_2 rfl
theorem s_L_put_3 {X : ev_E} {l : Launch} (hG : ev_Good X) (hl : l.stackTraces = false) : ev_Snd X l ev_ms x_L_put tx_L_put 3 (i_il 1 4) := s_iload_n dL_put_3 rfl
theorem s_L_put_4 {X : ev_E} {l : Launch} (hG : ev_Good X) (hl : l.stackTraces = false) : ev_Snd X l ev_ms x_L_put tx_L_put 4 (i_il 2 5) := s_iload_n dL_put_4 rfl
theorem s_L_put_5 {X : ev_E} {l : Launch} (hG : ev_Good X) (hl : l.stackTraces = false) : ev_Snd X l ev_ms x_L_put tx_L_put 5 (i_il 3 6) := s_iload_n dL_put_5 rfl
theorem s_L_put_6 {X : ev_E} {l : Launch} (hG : ev_Good X) (hl : l.stackTraces = false) : ev_Snd X l ev_ms x_L_put tx_L_put 6 (i_cV X 230 3 10 5 9) := s_invokevirtual hG (mi := 230) (n := 3) (ci := 10) (r := (RX5, TX5, 7)) rfl (cal_X5_put (Nat.le_of_ble_eq_true rfl)) w_835 w_836 w_837 dL_put_6
theorem s_L_put_9 {X : ev_E} {l : Launch} (hG : ev_Good X) (hl : l.stackTraces = false) : ev_Snd X l ev_ms x_L_put tx_L_put 9 (i_i2l 10) := s_i2l dL_put_9
theorem s_L_put_10 {X : ev_E} {l : Launch} (hG : ev_Good X) (hl : l.stackTraces = false) : ev_Snd X l ev_ms x_L_put tx_L_put 10 (i_pf 11 0 (.long) 13) := s_putfieldN hG (ci := 11) (r := (RX6, TX6, 2)) rfl cw_11 ap_11 (k := 0) (Nat.le_of_ble_eq_true rfl) rfl (by decide +kernel) w_811 rfl dL_put_10
theorem s_L_put_13 {X : ev_E} {l : Launch} (hG : ev_Good X) (hl : l.stackTraces = false) : ev_Snd X l ev_ms x_L_put tx_L_put 13 (i_goto 24) := s_goto dL_put_13 rfl
theorem s_L_put_16 {X : ev_E} {l : Launch} (hG : ev_Good X) (hl : l.stackTraces = false) : ev_Snd X l ev_ms x_L_put tx_L_put 16 (i_as 5 18) := s_astore dL_put_16 (Nat.le_of_ble_eq_true rfl)
theorem s_L_put_18 {X : ev_E} {l : Launch} (hG : ev_Good X) (hl : l.stackTraces = false) : ev_Snd X l ev_ms x_L_put tx_L_put 18 (i_psh (.int (1)) 19) := s_iconst dL_put_18 rfl
theorem s_L_put_19 {X : ev_E} {l : Launch} (hG : ev_Good X) (hl : l.stackTraces = false) : ev_Snd X l ev_ms x_L_put tx_L_put 19 (i_ir (.int)) := s_ireturn rfl dL_put_19
theorem s_L_put_20 {X : ev_E} {l : Launch} (hG : ev_Good X) (hl : l.stackTraces = false) : ev_Snd X l ev_ms x_L_put tx_L_put 20 (i_as 5 22) := s_astore dL_put_20 (Nat.le_of_ble_eq_true rfl)
theorem s_L_put_22 {X : ev_E} {l : Launch} (hG : ev_Good X) (hl : l.stackTraces = false) : ev_Snd X l ev_ms x_L_put tx_L_put 22 (i_psh (.int (2)) 23) := s_iconst dL_put_22 rfl
theorem s_L_put_23 {X : ev_E} {l : Launch} (hG : ev_Good X) (hl : l.stackTraces = false) : ev_Snd X l ev_ms x_L_put tx_L_put 23 (i_ir (.int)) := s_ireturn rfl dL_put_23
theorem s_L_put_24 {X : ev_E} {l : Launch} (hG : ev_Good X) (hl : l.stackTraces = false) : ev_Snd X l ev_ms x_L_put tx_L_put 24 (i_psh (.int (0)) 25) := s_iconst dL_put_24 rfl
theorem s_L_put_25 {X : ev_E} {l : Launch} (hG : ev_Good X) (hl : l.stackTraces = false) : ev_Snd X l ev_ms x_L_put tx_L_put 25 (i_ir (.int)) := s_ireturn rfl dL_put_25
theorem sa_L_put {X : ev_E} {l : Launch} (hG : ev_Good X) (hl : l.stackTraces = false) : ∀ q ∈ tb_L_put X, ev_Snd X l ev_ms x_L_put tx_L_put q.1 q.2 := by
  intro q hq
  unfold tb_L_put at hq
  simp only [List.mem_cons, List.not_mem_nil, or_false] at hq
  rcases hq with rfl | rfl | rfl | rfl | rfl | rfl | rfl | rfl | rfl | rfl | rfl | rfl | rfl | rfl | rfl | rfl | rfl
  · exact s_L_put_0 hG hl
  · exact s_L_put_2 hG hl
  · exact s_L_put_3 hG hl
  · exact s_L_put_4 hG hl
  · exact s_L_put_5 hG hl
  · exact s_L_put_6 hG hl
  · exact s_L_put_9 hG hl
  · exact s_L_put_10 hG hl
  · exact s_L_put_13 hG hl
  · exact s_L_put_16 hG hl
  · exact s_L_put_18 hG hl
  · exact s_L_put_19 hG hl
  · exact s_L_put_20 hG hl
  · exact s_L_put_22 hG hl
  · exact s_L_put_23 hG hl
  · exact s_L_put_24 hG hl
  · exact s_L_put_25 hG hl
def tx_L_rest : ev_X := ev_hf [(0, 10, 0, 13, 19, 3, 14)]
noncomputable def tb_L_rest (X : ev_E) : List (Nat × (ev_S → ev_N)) := [(0, i_al 2 1), (1, i_al 0 2), (2, i_il 1 3), (3, i_cV X 231 1 10 3 6), (6, i_i2l 7), (7, i_pf 11 0 (.long) 10), (10, i_goto 16), (13, i_as 3 14), (14, i_psh (.int (1)) 15), (15, i_ir (.int)), (16, i_psh (.int (0)) 17), (17, i_ir (.int))]
theorem s_L_rest_0 {X : ev_E} {l : Launch} (hG : ev_Good X) (hl : l.stackTraces = false) : ev_Snd X l ev_ms x_L_rest tx_L_rest 0 (i_al 2 1) := s_aload_n dL_rest_0 rfl
theorem s_L_rest_1 {X : ev_E} {l : Launch} (hG : ev_Good X) (hl : l.stackTraces = false) : ev_Snd X l ev_ms x_L_rest tx_L_rest 1 (i_al 0 2) := s_aload_n dL_rest_1 rfl
theorem s_L_rest_2 {X : ev_E} {l : Launch} (hG : ev_Good X) (hl : l.stackTraces = false) : ev_Snd X l ev_ms x_L_rest tx_L_rest 2 (i_il 1 3) := s_iload_n dL_rest_2 rfl
theorem s_L_rest_3 {X : ev_E} {l : Launch} (hG : ev_Good X) (hl : l.stackTraces = false) : ev_Snd X l ev_ms x_L_rest tx_L_rest 3 (i_cV X 231 1 10 3 6) := s_invokevirtual hG (mi := 231) (n := 1) (ci := 10) (r := (RX5, TX5, 7)) rfl (cal_X5_rest (Nat.le_of_ble_eq_true rfl)) w_1076 w_1077 w_1078 dL_rest_3
theorem s_L_rest_6 {X : ev_E} {l : Launch} (hG : ev_Good X) (hl : l.stackTraces = false) : ev_Snd X l ev_ms x_L_rest tx_L_rest 6 (i_i2l 7) := s_i2l dL_rest_6
theorem s_L_rest_7 {X : ev_E} {l : Launch} (hG : ev_Good X) (hl : l.stackTraces = false) : ev_Snd X l ev_ms x_L_rest tx_L_rest 7 (i_pf 11 0 (.long) 10) := s_putfieldN hG (ci := 11) (r := (RX6, TX6, 2)) rfl cw_11 ap_11 (k := 0) (Nat.le_of_ble_eq_true rfl) rfl (by decide +kernel) w_811 rfl dL_rest_7
theorem s_L_rest_10 {X : ev_E} {l : Launch} (hG : ev_Good X) (hl : l.stackTraces = false) : ev_Snd X l ev_ms x_L_rest tx_L_rest 10 (i_goto 16) := s_goto dL_rest_10 rfl
theorem s_L_rest_13 {X : ev_E} {l : Launch} (hG : ev_Good X) (hl : l.stackTraces = false) : ev_Snd X l ev_ms x_L_rest tx_L_rest 13 (i_as 3 14) := s_astore_n dL_rest_13 rfl (Nat.le_of_ble_eq_true rfl)
theorem s_L_rest_14 {X : ev_E} {l : Launch} (hG : ev_Good X) (hl : l.stackTraces = false) : ev_Snd X l ev_ms x_L_rest tx_L_rest 14 (i_psh (.int (1)) 15) := s_iconst dL_rest_14 rfl
theorem s_L_rest_15 {X : ev_E} {l : Launch} (hG : ev_Good X) (hl : l.stackTraces = false) : ev_Snd X l ev_ms x_L_rest tx_L_rest 15 (i_ir (.int)) := s_ireturn rfl dL_rest_15
theorem s_L_rest_16 {X : ev_E} {l : Launch} (hG : ev_Good X) (hl : l.stackTraces = false) : ev_Snd X l ev_ms x_L_rest tx_L_rest 16 (i_psh (.int (0)) 17) := s_iconst dL_rest_16 rfl
theorem s_L_rest_17 {X : ev_E} {l : Launch} (hG : ev_Good X) (hl : l.stackTraces = false) : ev_Snd X l ev_ms x_L_rest tx_L_rest 17 (i_ir (.int)) := s_ireturn rfl dL_rest_17
theorem sa_L_rest {X : ev_E} {l : Launch} (hG : ev_Good X) (hl : l.stackTraces = false) : ∀ q ∈ tb_L_rest X, ev_Snd X l ev_ms x_L_rest tx_L_rest q.1 q.2 := by
  intro q hq
  unfold tb_L_rest at hq
  simp only [List.mem_cons, List.not_mem_nil, or_false] at hq
  rcases hq with rfl | rfl | rfl | rfl | rfl | rfl | rfl | rfl | rfl | rfl | rfl | rfl
  · exact s_L_rest_0 hG hl
  · exact s_L_rest_1 hG hl
  · exact s_L_rest_2 hG hl
  · exact s_L_rest_3 hG hl
  · exact s_L_rest_6 hG hl
  · exact s_L_rest_7 hG hl
  · exact s_L_rest_10 hG hl
  · exact s_L_rest_13 hG hl
  · exact s_L_rest_14 hG hl
  · exact s_L_rest_15 hG hl
  · exact s_L_rest_16 hG hl
  · exact s_L_rest_17 hG hl
def tx_L_putIfAbsent : ev_X := ev_hf [(0, 13, 0, 16, 19, 5, 18), (0, 13, 1, 20, 21, 5, 22), (0, 13, 2, 24, 30, 5, 26)]
noncomputable def tb_L_putIfAbsent (X : ev_E) : List (Nat × (ev_S → ev_N)) := [(0, i_al 4 2), (2, i_al 0 3), (3, i_il 1 4), (4, i_il 2 5), (5, i_il 3 6), (6, i_cV X 255 3 10 5 9), (9, i_i2l 10), (10, i_pf 11 0 (.long) 13), (13, i_goto 28), (16, i_as 5 18), (18, i_psh (.int (1)) 19), (19, i_ir (.int)), (20, i_as 5 22), (22, i_psh (.int (2)) 23), (23, i_ir (.int)), (24, i_as 5 26), (26, i_psh (.int (3)) 27), (27, i_ir (.int)), (28, i_psh (.int (0)) 29), (29, i_ir (.int))]
theorem s_L_putIfAbsent_0 {X : ev_E} {l : Launch} (hG : ev_Good X) (hl : l.stackTraces = false) : ev_Snd X l ev_ms x_L_putIfAbsent tx_L_putIfAbsent 0 (i_al 4 2) := s_aload dL_putIfAbsent_0
theorem s_L_putIfAbsent_2 {X : ev_E} {l : Launch} (hG : ev_Good X) (hl : l.stackTraces = false) : ev_Snd X l ev_ms x_L_putIfAbsent tx_L_putIfAbsent 2 (i_al 0 3) := s_aload_n dL_putIfAbsent_2 rfl
theorem s_L_putIfAbsent_3 {X : ev_E} {l : Launch} (hG : ev_Good X) (hl : l.stackTraces = false) : ev_Snd X l ev_ms x_L_putIfAbsent tx_L_putIfAbsent 3 (i_il 1 4) := s_iload_n dL_putIfAbsent_3 rfl
theorem s_L_putIfAbsent_4 {X : ev_E} {l : Launch} (hG : ev_Good X) (hl : l.stackTraces = false) : ev_Snd X l ev_ms x_L_putIfAbsent tx_L_putIfAbsent 4 (i_il 2 5) := s_iload_n dL_putIfAbsent_4 rfl
theorem s_L_putIfAbsent_5 {X : ev_E} {l : Launch} (hG : ev_Good X) (hl : l.stackTraces = false) : ev_Snd X l ev_ms x_L_putIfAbsent tx_L_putIfAbsent 5 (i_il 3 6) := s_iload_n dL_putIfAbsent_5 rfl
theorem s_L_putIfAbsent_6 {X : ev_E} {l : Launch} (hG : ev_Good X) (hl : l.stackTraces = false) : ev_Snd X l ev_ms x_L_putIfAbsent tx_L_putIfAbsent 6 (i_cV X 255 3 10 5 9) := s_invokevirtual hG (mi := 255) (n := 3) (ci := 10) (r := (RX5, TX5, 7)) rfl (cal_X5_putIfAbsent (Nat.le_of_ble_eq_true rfl)) w_873 w_874 w_875 dL_putIfAbsent_6
theorem s_L_putIfAbsent_9 {X : ev_E} {l : Launch} (hG : ev_Good X) (hl : l.stackTraces = false) : ev_Snd X l ev_ms x_L_putIfAbsent tx_L_putIfAbsent 9 (i_i2l 10) := s_i2l dL_putIfAbsent_9
theorem s_L_putIfAbsent_10 {X : ev_E} {l : Launch} (hG : ev_Good X) (hl : l.stackTraces = false) : ev_Snd X l ev_ms x_L_putIfAbsent tx_L_putIfAbsent 10 (i_pf 11 0 (.long) 13) := s_putfieldN hG (ci := 11) (r := (RX6, TX6, 2)) rfl cw_11 ap_11 (k := 0) (Nat.le_of_ble_eq_true rfl) rfl (by decide +kernel) w_811 rfl dL_putIfAbsent_10
theorem s_L_putIfAbsent_13 {X : ev_E} {l : Launch} (hG : ev_Good X) (hl : l.stackTraces = false) : ev_Snd X l ev_ms x_L_putIfAbsent tx_L_putIfAbsent 13 (i_goto 28) := s_goto dL_putIfAbsent_13 rfl
theorem s_L_putIfAbsent_16 {X : ev_E} {l : Launch} (hG : ev_Good X) (hl : l.stackTraces = false) : ev_Snd X l ev_ms x_L_putIfAbsent tx_L_putIfAbsent 16 (i_as 5 18) := s_astore dL_putIfAbsent_16 (Nat.le_of_ble_eq_true rfl)
theorem s_L_putIfAbsent_18 {X : ev_E} {l : Launch} (hG : ev_Good X) (hl : l.stackTraces = false) : ev_Snd X l ev_ms x_L_putIfAbsent tx_L_putIfAbsent 18 (i_psh (.int (1)) 19) := s_iconst dL_putIfAbsent_18 rfl
theorem s_L_putIfAbsent_19 {X : ev_E} {l : Launch} (hG : ev_Good X) (hl : l.stackTraces = false) : ev_Snd X l ev_ms x_L_putIfAbsent tx_L_putIfAbsent 19 (i_ir (.int)) := s_ireturn rfl dL_putIfAbsent_19
theorem s_L_putIfAbsent_20 {X : ev_E} {l : Launch} (hG : ev_Good X) (hl : l.stackTraces = false) : ev_Snd X l ev_ms x_L_putIfAbsent tx_L_putIfAbsent 20 (i_as 5 22) := s_astore dL_putIfAbsent_20 (Nat.le_of_ble_eq_true rfl)
theorem s_L_putIfAbsent_22 {X : ev_E} {l : Launch} (hG : ev_Good X) (hl : l.stackTraces = false) : ev_Snd X l ev_ms x_L_putIfAbsent tx_L_putIfAbsent 22 (i_psh (.int (2)) 23) := s_iconst dL_putIfAbsent_22 rfl
theorem s_L_putIfAbsent_23 {X : ev_E} {l : Launch} (hG : ev_Good X) (hl : l.stackTraces = false) : ev_Snd X l ev_ms x_L_putIfAbsent tx_L_putIfAbsent 23 (i_ir (.int)) := s_ireturn rfl dL_putIfAbsent_23
theorem s_L_putIfAbsent_24 {X : ev_E} {l : Launch} (hG : ev_Good X) (hl : l.stackTraces = false) : ev_Snd X l ev_ms x_L_putIfAbsent tx_L_putIfAbsent 24 (i_as 5 26) := s_astore dL_putIfAbsent_24 (Nat.le_of_ble_eq_true rfl)
theorem s_L_putIfAbsent_26 {X : ev_E} {l : Launch} (hG : ev_Good X) (hl : l.stackTraces = false) : ev_Snd X l ev_ms x_L_putIfAbsent tx_L_putIfAbsent 26 (i_psh (.int (3)) 27) := s_iconst dL_putIfAbsent_26 rfl
theorem s_L_putIfAbsent_27 {X : ev_E} {l : Launch} (hG : ev_Good X) (hl : l.stackTraces = false) : ev_Snd X l ev_ms x_L_putIfAbsent tx_L_putIfAbsent 27 (i_ir (.int)) := s_ireturn rfl dL_putIfAbsent_27
theorem s_L_putIfAbsent_28 {X : ev_E} {l : Launch} (hG : ev_Good X) (hl : l.stackTraces = false) : ev_Snd X l ev_ms x_L_putIfAbsent tx_L_putIfAbsent 28 (i_psh (.int (0)) 29) := s_iconst dL_putIfAbsent_28 rfl
theorem s_L_putIfAbsent_29 {X : ev_E} {l : Launch} (hG : ev_Good X) (hl : l.stackTraces = false) : ev_Snd X l ev_ms x_L_putIfAbsent tx_L_putIfAbsent 29 (i_ir (.int)) := s_ireturn rfl dL_putIfAbsent_29
theorem sa_L_putIfAbsent {X : ev_E} {l : Launch} (hG : ev_Good X) (hl : l.stackTraces = false) : ∀ q ∈ tb_L_putIfAbsent X, ev_Snd X l ev_ms x_L_putIfAbsent tx_L_putIfAbsent q.1 q.2 := by
  intro q hq
  unfold tb_L_putIfAbsent at hq
  simp only [List.mem_cons, List.not_mem_nil, or_false] at hq
  rcases hq with rfl | rfl | rfl | rfl | rfl | rfl | rfl | rfl | rfl | rfl | rfl | rfl | rfl | rfl | rfl | rfl | rfl | rfl | rfl | rfl
  · exact s_L_putIfAbsent_0 hG hl
  · exact s_L_putIfAbsent_2 hG hl
  · exact s_L_putIfAbsent_3 hG hl
  · exact s_L_putIfAbsent_4 hG hl
  · exact s_L_putIfAbsent_5 hG hl
  · exact s_L_putIfAbsent_6 hG hl
  · exact s_L_putIfAbsent_9 hG hl
  · exact s_L_putIfAbsent_10 hG hl
  · exact s_L_putIfAbsent_13 hG hl
  · exact s_L_putIfAbsent_16 hG hl
  · exact s_L_putIfAbsent_18 hG hl
  · exact s_L_putIfAbsent_19 hG hl
  · exact s_L_putIfAbsent_20 hG hl
  · exact s_L_putIfAbsent_22 hG hl
  · exact s_L_putIfAbsent_23 hG hl
  · exact s_L_putIfAbsent_24 hG hl
  · exact s_L_putIfAbsent_26 hG hl
  · exact s_L_putIfAbsent_27 hG hl
  · exact s_L_putIfAbsent_28 hG hl
  · exact s_L_putIfAbsent_29 hG hl
def tx_L_ask : ev_X := ev_hf [(0, 10, 1, 13, 21, 3, 14), (0, 10, 2, 16, 30, 3, 17)]
noncomputable def tb_L_ask (X : ev_E) : List (Nat × (ev_S → ev_N)) := [(0, i_al 2 1), (1, i_al 0 2), (2, i_il 1 3), (3, i_cV X 264 1 10 2 6), (6, i_i2l 7), (7, i_pf 11 0 (.long) 10), (10, i_goto 19), (13, i_as 3 14), (14, i_psh (.int (1)) 15), (15, i_ir (.int)), (16, i_as 3 17), (17, i_psh (.int (2)) 18), (18, i_ir (.int)), (19, i_psh (.int (0)) 20), (20, i_ir (.int))]
theorem s_L_ask_0 {X : ev_E} {l : Launch} (hG : ev_Good X) (hl : l.stackTraces = false) : ev_Snd X l ev_ms x_L_ask tx_L_ask 0 (i_al 2 1) := s_aload_n dL_ask_0 rfl
theorem s_L_ask_1 {X : ev_E} {l : Launch} (hG : ev_Good X) (hl : l.stackTraces = false) : ev_Snd X l ev_ms x_L_ask tx_L_ask 1 (i_al 0 2) := s_aload_n dL_ask_1 rfl
theorem s_L_ask_2 {X : ev_E} {l : Launch} (hG : ev_Good X) (hl : l.stackTraces = false) : ev_Snd X l ev_ms x_L_ask tx_L_ask 2 (i_il 1 3) := s_iload_n dL_ask_2 rfl
theorem s_L_ask_3 {X : ev_E} {l : Launch} (hG : ev_Good X) (hl : l.stackTraces = false) : ev_Snd X l ev_ms x_L_ask tx_L_ask 3 (i_cV X 264 1 10 2 6) := s_invokevirtual hG (mi := 264) (n := 1) (ci := 10) (r := (RX5, TX5, 7)) rfl (cal_X5_ask (Nat.le_of_ble_eq_true rfl)) w_1088 w_1089 w_1090 dL_ask_3
theorem s_L_ask_6 {X : ev_E} {l : Launch} (hG : ev_Good X) (hl : l.stackTraces = false) : ev_Snd X l ev_ms x_L_ask tx_L_ask 6 (i_i2l 7) := s_i2l dL_ask_6
theorem s_L_ask_7 {X : ev_E} {l : Launch} (hG : ev_Good X) (hl : l.stackTraces = false) : ev_Snd X l ev_ms x_L_ask tx_L_ask 7 (i_pf 11 0 (.long) 10) := s_putfieldN hG (ci := 11) (r := (RX6, TX6, 2)) rfl cw_11 ap_11 (k := 0) (Nat.le_of_ble_eq_true rfl) rfl (by decide +kernel) w_811 rfl dL_ask_7
theorem s_L_ask_10 {X : ev_E} {l : Launch} (hG : ev_Good X) (hl : l.stackTraces = false) : ev_Snd X l ev_ms x_L_ask tx_L_ask 10 (i_goto 19) := s_goto dL_ask_10 rfl
theorem s_L_ask_13 {X : ev_E} {l : Launch} (hG : ev_Good X) (hl : l.stackTraces = false) : ev_Snd X l ev_ms x_L_ask tx_L_ask 13 (i_as 3 14) := s_astore_n dL_ask_13 rfl (Nat.le_of_ble_eq_true rfl)
theorem s_L_ask_14 {X : ev_E} {l : Launch} (hG : ev_Good X) (hl : l.stackTraces = false) : ev_Snd X l ev_ms x_L_ask tx_L_ask 14 (i_psh (.int (1)) 15) := s_iconst dL_ask_14 rfl
theorem s_L_ask_15 {X : ev_E} {l : Launch} (hG : ev_Good X) (hl : l.stackTraces = false) : ev_Snd X l ev_ms x_L_ask tx_L_ask 15 (i_ir (.int)) := s_ireturn rfl dL_ask_15
theorem s_L_ask_16 {X : ev_E} {l : Launch} (hG : ev_Good X) (hl : l.stackTraces = false) : ev_Snd X l ev_ms x_L_ask tx_L_ask 16 (i_as 3 17) := s_astore_n dL_ask_16 rfl (Nat.le_of_ble_eq_true rfl)
theorem s_L_ask_17 {X : ev_E} {l : Launch} (hG : ev_Good X) (hl : l.stackTraces = false) : ev_Snd X l ev_ms x_L_ask tx_L_ask 17 (i_psh (.int (2)) 18) := s_iconst dL_ask_17 rfl
theorem s_L_ask_18 {X : ev_E} {l : Launch} (hG : ev_Good X) (hl : l.stackTraces = false) : ev_Snd X l ev_ms x_L_ask tx_L_ask 18 (i_ir (.int)) := s_ireturn rfl dL_ask_18
theorem s_L_ask_19 {X : ev_E} {l : Launch} (hG : ev_Good X) (hl : l.stackTraces = false) : ev_Snd X l ev_ms x_L_ask tx_L_ask 19 (i_psh (.int (0)) 20) := s_iconst dL_ask_19 rfl
theorem s_L_ask_20 {X : ev_E} {l : Launch} (hG : ev_Good X) (hl : l.stackTraces = false) : ev_Snd X l ev_ms x_L_ask tx_L_ask 20 (i_ir (.int)) := s_ireturn rfl dL_ask_20
theorem sa_L_ask {X : ev_E} {l : Launch} (hG : ev_Good X) (hl : l.stackTraces = false) : ∀ q ∈ tb_L_ask X, ev_Snd X l ev_ms x_L_ask tx_L_ask q.1 q.2 := by
  intro q hq
  unfold tb_L_ask at hq
  simp only [List.mem_cons, List.not_mem_nil, or_false] at hq
  rcases hq with rfl | rfl | rfl | rfl | rfl | rfl | rfl | rfl | rfl | rfl | rfl | rfl | rfl | rfl | rfl
  · exact s_L_ask_0 hG hl
  · exact s_L_ask_1 hG hl
  · exact s_L_ask_2 hG hl
  · exact s_L_ask_3 hG hl
  · exact s_L_ask_6 hG hl
  · exact s_L_ask_7 hG hl
  · exact s_L_ask_10 hG hl
  · exact s_L_ask_13 hG hl
  · exact s_L_ask_14 hG hl
  · exact s_L_ask_15 hG hl
  · exact s_L_ask_16 hG hl
  · exact s_L_ask_17 hG hl
  · exact s_L_ask_18 hG hl
  · exact s_L_ask_19 hG hl
  · exact s_L_ask_20 hG hl
def tx_L_askRow : ev_X := ev_hf [(0, 13, 1, 16, 21, 5, 18), (0, 13, 2, 20, 30, 5, 22)]
noncomputable def tb_L_askRow (X : ev_E) : List (Nat × (ev_S → ev_N)) := [(0, i_al 4 2), (2, i_al 0 3), (3, i_il 1 4), (4, i_il 2 5), (5, i_il 3 6), (6, i_cV X 265 3 10 6 9), (9, i_i2l 10), (10, i_pf 11 0 (.long) 13), (13, i_goto 24), (16, i_as 5 18), (18, i_psh (.int (1)) 19), (19, i_ir (.int)), (20, i_as 5 22), (22, i_psh (.int (2)) 23), (23, i_ir (.int)), (24, i_psh (.int (0)) 25), (25, i_ir (.int))]
theorem s_L_askRow_0 {X : ev_E} {l : Launch} (hG : ev_Good X) (hl : l.stackTraces = false) : ev_Snd X l ev_ms x_L_askRow tx_L_askRow 0 (i_al 4 2) := s_aload dL_askRow_0
theorem s_L_askRow_2 {X : ev_E} {l : Launch} (hG : ev_Good X) (hl : l.stackTraces = false) : ev_Snd X l ev_ms x_L_askRow tx_L_askRow 2 (i_al 0 3) := s_aload_n dL_askRow_2 rfl
theorem s_L_askRow_3 {X : ev_E} {l : Launch} (hG : ev_Good X) (hl : l.stackTraces = false) : ev_Snd X l ev_ms x_L_askRow tx_L_askRow 3 (i_il 1 4) := s_iload_n dL_askRow_3 rfl
theorem s_L_askRow_4 {X : ev_E} {l : Launch} (hG : ev_Good X) (hl : l.stackTraces = false) : ev_Snd X l ev_ms x_L_askRow tx_L_askRow 4 (i_il 2 5) := s_iload_n dL_askRow_4 rfl
theorem s_L_askRow_5 {X : ev_E} {l : Launch} (hG : ev_Good X) (hl : l.stackTraces = false) : ev_Snd X l ev_ms x_L_askRow tx_L_askRow 5 (i_il 3 6) := s_iload_n dL_askRow_5 rfl
theorem s_L_askRow_6 {X : ev_E} {l : Launch} (hG : ev_Good X) (hl : l.stackTraces = false) : ev_Snd X l ev_ms x_L_askRow tx_L_askRow 6 (i_cV X 265 3 10 6 9) := s_invokevirtual hG (mi := 265) (n := 3) (ci := 10) (r := (RX5, TX5, 7)) rfl (cal_X5_askRow (Nat.le_of_ble_eq_true rfl)) w_1125 w_1126 w_1127 dL_askRow_6
theorem s_L_askRow_9 {X : ev_E} {l : Launch} (hG : ev_Good X) (hl : l.stackTraces = false) : ev_Snd X l ev_ms x_L_askRow tx_L_askRow 9 (i_i2l 10) := s_i2l dL_askRow_9
theorem s_L_askRow_10 {X : ev_E} {l : Launch} (hG : ev_Good X) (hl : l.stackTraces = false) : ev_Snd X l ev_ms x_L_askRow tx_L_askRow 10 (i_pf 11 0 (.long) 13) := s_putfieldN hG (ci := 11) (r := (RX6, TX6, 2)) rfl cw_11 ap_11 (k := 0) (Nat.le_of_ble_eq_true rfl) rfl (by decide +kernel) w_811 rfl dL_askRow_10
theorem s_L_askRow_13 {X : ev_E} {l : Launch} (hG : ev_Good X) (hl : l.stackTraces = false) : ev_Snd X l ev_ms x_L_askRow tx_L_askRow 13 (i_goto 24) := s_goto dL_askRow_13 rfl
theorem s_L_askRow_16 {X : ev_E} {l : Launch} (hG : ev_Good X) (hl : l.stackTraces = false) : ev_Snd X l ev_ms x_L_askRow tx_L_askRow 16 (i_as 5 18) := s_astore dL_askRow_16 (Nat.le_of_ble_eq_true rfl)
theorem s_L_askRow_18 {X : ev_E} {l : Launch} (hG : ev_Good X) (hl : l.stackTraces = false) : ev_Snd X l ev_ms x_L_askRow tx_L_askRow 18 (i_psh (.int (1)) 19) := s_iconst dL_askRow_18 rfl
theorem s_L_askRow_19 {X : ev_E} {l : Launch} (hG : ev_Good X) (hl : l.stackTraces = false) : ev_Snd X l ev_ms x_L_askRow tx_L_askRow 19 (i_ir (.int)) := s_ireturn rfl dL_askRow_19
theorem s_L_askRow_20 {X : ev_E} {l : Launch} (hG : ev_Good X) (hl : l.stackTraces = false) : ev_Snd X l ev_ms x_L_askRow tx_L_askRow 20 (i_as 5 22) := s_astore dL_askRow_20 (Nat.le_of_ble_eq_true rfl)
theorem s_L_askRow_22 {X : ev_E} {l : Launch} (hG : ev_Good X) (hl : l.stackTraces = false) : ev_Snd X l ev_ms x_L_askRow tx_L_askRow 22 (i_psh (.int (2)) 23) := s_iconst dL_askRow_22 rfl
theorem s_L_askRow_23 {X : ev_E} {l : Launch} (hG : ev_Good X) (hl : l.stackTraces = false) : ev_Snd X l ev_ms x_L_askRow tx_L_askRow 23 (i_ir (.int)) := s_ireturn rfl dL_askRow_23
theorem s_L_askRow_24 {X : ev_E} {l : Launch} (hG : ev_Good X) (hl : l.stackTraces = false) : ev_Snd X l ev_ms x_L_askRow tx_L_askRow 24 (i_psh (.int (0)) 25) := s_iconst dL_askRow_24 rfl
theorem s_L_askRow_25 {X : ev_E} {l : Launch} (hG : ev_Good X) (hl : l.stackTraces = false) : ev_Snd X l ev_ms x_L_askRow tx_L_askRow 25 (i_ir (.int)) := s_ireturn rfl dL_askRow_25
theorem sa_L_askRow {X : ev_E} {l : Launch} (hG : ev_Good X) (hl : l.stackTraces = false) : ∀ q ∈ tb_L_askRow X, ev_Snd X l ev_ms x_L_askRow tx_L_askRow q.1 q.2 := by
  intro q hq
  unfold tb_L_askRow at hq
  simp only [List.mem_cons, List.not_mem_nil, or_false] at hq
  rcases hq with rfl | rfl | rfl | rfl | rfl | rfl | rfl | rfl | rfl | rfl | rfl | rfl | rfl | rfl | rfl | rfl | rfl
  · exact s_L_askRow_0 hG hl
  · exact s_L_askRow_2 hG hl
  · exact s_L_askRow_3 hG hl
  · exact s_L_askRow_4 hG hl
  · exact s_L_askRow_5 hG hl
  · exact s_L_askRow_6 hG hl
  · exact s_L_askRow_9 hG hl
  · exact s_L_askRow_10 hG hl
  · exact s_L_askRow_13 hG hl
  · exact s_L_askRow_16 hG hl
  · exact s_L_askRow_18 hG hl
  · exact s_L_askRow_19 hG hl
  · exact s_L_askRow_20 hG hl
  · exact s_L_askRow_22 hG hl
  · exact s_L_askRow_23 hG hl
  · exact s_L_askRow_24 hG hl
  · exact s_L_askRow_25 hG hl
def tx_L_kept : ev_X := ev_hf [(0, 9, 1, 12, 21, 3, 13)]
noncomputable def tb_L_kept (X : ev_E) : List (Nat × (ev_S → ev_N)) := [(0, i_al 2 1), (1, i_al 0 2), (2, i_il 1 3), (3, i_cV X 299 1 10 2 6), (6, i_pf 11 1 (.object "java/lang/String") 9), (9, i_goto 15), (12, i_as 3 13), (13, i_psh (.int (1)) 14), (14, i_ir (.int)), (15, i_psh (.int (0)) 16), (16, i_ir (.int))]
theorem s_L_kept_0 {X : ev_E} {l : Launch} (hG : ev_Good X) (hl : l.stackTraces = false) : ev_Snd X l ev_ms x_L_kept tx_L_kept 0 (i_al 2 1) := s_aload_n dL_kept_0 rfl
theorem s_L_kept_1 {X : ev_E} {l : Launch} (hG : ev_Good X) (hl : l.stackTraces = false) : ev_Snd X l ev_ms x_L_kept tx_L_kept 1 (i_al 0 2) := s_aload_n dL_kept_1 rfl
theorem s_L_kept_2 {X : ev_E} {l : Launch} (hG : ev_Good X) (hl : l.stackTraces = false) : ev_Snd X l ev_ms x_L_kept tx_L_kept 2 (i_il 1 3) := s_iload_n dL_kept_2 rfl
theorem s_L_kept_3 {X : ev_E} {l : Launch} (hG : ev_Good X) (hl : l.stackTraces = false) : ev_Snd X l ev_ms x_L_kept tx_L_kept 3 (i_cV X 299 1 10 2 6) := s_invokevirtual hG (mi := 299) (n := 1) (ci := 10) (r := (RX5, TX5, 7)) rfl (cal_X5_kept (Nat.le_of_ble_eq_true rfl)) w_1141 w_1142 w_1143 dL_kept_3
theorem s_L_kept_6 {X : ev_E} {l : Launch} (hG : ev_Good X) (hl : l.stackTraces = false) : ev_Snd X l ev_ms x_L_kept tx_L_kept 6 (i_pf 11 1 (.object "java/lang/String") 9) := s_putfieldN hG (ci := 11) (r := (RX6, TX6, 2)) rfl cw_11 ap_11 (k := 1) (Nat.le_of_ble_eq_true rfl) rfl (by decide +kernel) w_812 rfl dL_kept_6
theorem s_L_kept_9 {X : ev_E} {l : Launch} (hG : ev_Good X) (hl : l.stackTraces = false) : ev_Snd X l ev_ms x_L_kept tx_L_kept 9 (i_goto 15) := s_goto dL_kept_9 rfl
theorem s_L_kept_12 {X : ev_E} {l : Launch} (hG : ev_Good X) (hl : l.stackTraces = false) : ev_Snd X l ev_ms x_L_kept tx_L_kept 12 (i_as 3 13) := s_astore_n dL_kept_12 rfl (Nat.le_of_ble_eq_true rfl)
theorem s_L_kept_13 {X : ev_E} {l : Launch} (hG : ev_Good X) (hl : l.stackTraces = false) : ev_Snd X l ev_ms x_L_kept tx_L_kept 13 (i_psh (.int (1)) 14) := s_iconst dL_kept_13 rfl
theorem s_L_kept_14 {X : ev_E} {l : Launch} (hG : ev_Good X) (hl : l.stackTraces = false) : ev_Snd X l ev_ms x_L_kept tx_L_kept 14 (i_ir (.int)) := s_ireturn rfl dL_kept_14
theorem s_L_kept_15 {X : ev_E} {l : Launch} (hG : ev_Good X) (hl : l.stackTraces = false) : ev_Snd X l ev_ms x_L_kept tx_L_kept 15 (i_psh (.int (0)) 16) := s_iconst dL_kept_15 rfl
theorem s_L_kept_16 {X : ev_E} {l : Launch} (hG : ev_Good X) (hl : l.stackTraces = false) : ev_Snd X l ev_ms x_L_kept tx_L_kept 16 (i_ir (.int)) := s_ireturn rfl dL_kept_16
theorem sa_L_kept {X : ev_E} {l : Launch} (hG : ev_Good X) (hl : l.stackTraces = false) : ∀ q ∈ tb_L_kept X, ev_Snd X l ev_ms x_L_kept tx_L_kept q.1 q.2 := by
  intro q hq
  unfold tb_L_kept at hq
  simp only [List.mem_cons, List.not_mem_nil, or_false] at hq
  rcases hq with rfl | rfl | rfl | rfl | rfl | rfl | rfl | rfl | rfl | rfl | rfl
  · exact s_L_kept_0 hG hl
  · exact s_L_kept_1 hG hl
  · exact s_L_kept_2 hG hl
  · exact s_L_kept_3 hG hl
  · exact s_L_kept_6 hG hl
  · exact s_L_kept_9 hG hl
  · exact s_L_kept_12 hG hl
  · exact s_L_kept_13 hG hl
  · exact s_L_kept_14 hG hl
  · exact s_L_kept_15 hG hl
  · exact s_L_kept_16 hG hl
def tx_L_text : ev_X := ev_hf [(0, 10, 0, 13, 19, 4, 15), (0, 10, 1, 17, 21, 4, 19)]
noncomputable def tb_L_text (X : ev_E) : List (Nat × (ev_S → ev_N)) := [(0, i_al 3 1), (1, i_al 0 2), (2, i_il 1 3), (3, i_il 2 4), (4, i_cV X 301 2 10 4 7), (7, i_pf 11 1 (.object "java/lang/String") 10), (10, i_goto 21), (13, i_as 4 15), (15, i_psh (.int (1)) 16), (16, i_ir (.int)), (17, i_as 4 19), (19, i_psh (.int (2)) 20), (20, i_ir (.int)), (21, i_psh (.int (0)) 22), (22, i_ir (.int))]
theorem s_L_text_0 {X : ev_E} {l : Launch} (hG : ev_Good X) (hl : l.stackTraces = false) : ev_Snd X l ev_ms x_L_text tx_L_text 0 (i_al 3 1) := s_aload_n dL_text_0 rfl
theorem s_L_text_1 {X : ev_E} {l : Launch} (hG : ev_Good X) (hl : l.stackTraces = false) : ev_Snd X l ev_ms x_L_text tx_L_text 1 (i_al 0 2) := s_aload_n dL_text_1 rfl
theorem s_L_text_2 {X : ev_E} {l : Launch} (hG : ev_Good X) (hl : l.stackTraces = false) : ev_Snd X l ev_ms x_L_text tx_L_text 2 (i_il 1 3) := s_iload_n dL_text_2 rfl
theorem s_L_text_3 {X : ev_E} {l : Launch} (hG : ev_Good X) (hl : l.stackTraces = false) : ev_Snd X l ev_ms x_L_text tx_L_text 3 (i_il 2 4) := s_iload_n dL_text_3 rfl
theorem s_L_text_4 {X : ev_E} {l : Launch} (hG : ev_Good X) (hl : l.stackTraces = false) : ev_Snd X l ev_ms x_L_text tx_L_text 4 (i_cV X 301 2 10 4 7) := s_invokevirtual hG (mi := 301) (n := 2) (ci := 10) (r := (RX5, TX5, 7)) rfl (cal_X5_text (Nat.le_of_ble_eq_true rfl)) w_1013 w_1014 w_1015 dL_text_4
theorem s_L_text_7 {X : ev_E} {l : Launch} (hG : ev_Good X) (hl : l.stackTraces = false) : ev_Snd X l ev_ms x_L_text tx_L_text 7 (i_pf 11 1 (.object "java/lang/String") 10) := s_putfieldN hG (ci := 11) (r := (RX6, TX6, 2)) rfl cw_11 ap_11 (k := 1) (Nat.le_of_ble_eq_true rfl) rfl (by decide +kernel) w_812 rfl dL_text_7
theorem s_L_text_10 {X : ev_E} {l : Launch} (hG : ev_Good X) (hl : l.stackTraces = false) : ev_Snd X l ev_ms x_L_text tx_L_text 10 (i_goto 21) := s_goto dL_text_10 rfl
theorem s_L_text_13 {X : ev_E} {l : Launch} (hG : ev_Good X) (hl : l.stackTraces = false) : ev_Snd X l ev_ms x_L_text tx_L_text 13 (i_as 4 15) := s_astore dL_text_13 (Nat.le_of_ble_eq_true rfl)
theorem s_L_text_15 {X : ev_E} {l : Launch} (hG : ev_Good X) (hl : l.stackTraces = false) : ev_Snd X l ev_ms x_L_text tx_L_text 15 (i_psh (.int (1)) 16) := s_iconst dL_text_15 rfl
theorem s_L_text_16 {X : ev_E} {l : Launch} (hG : ev_Good X) (hl : l.stackTraces = false) : ev_Snd X l ev_ms x_L_text tx_L_text 16 (i_ir (.int)) := s_ireturn rfl dL_text_16
theorem s_L_text_17 {X : ev_E} {l : Launch} (hG : ev_Good X) (hl : l.stackTraces = false) : ev_Snd X l ev_ms x_L_text tx_L_text 17 (i_as 4 19) := s_astore dL_text_17 (Nat.le_of_ble_eq_true rfl)
theorem s_L_text_19 {X : ev_E} {l : Launch} (hG : ev_Good X) (hl : l.stackTraces = false) : ev_Snd X l ev_ms x_L_text tx_L_text 19 (i_psh (.int (2)) 20) := s_iconst dL_text_19 rfl
theorem s_L_text_20 {X : ev_E} {l : Launch} (hG : ev_Good X) (hl : l.stackTraces = false) : ev_Snd X l ev_ms x_L_text tx_L_text 20 (i_ir (.int)) := s_ireturn rfl dL_text_20
theorem s_L_text_21 {X : ev_E} {l : Launch} (hG : ev_Good X) (hl : l.stackTraces = false) : ev_Snd X l ev_ms x_L_text tx_L_text 21 (i_psh (.int (0)) 22) := s_iconst dL_text_21 rfl
theorem s_L_text_22 {X : ev_E} {l : Launch} (hG : ev_Good X) (hl : l.stackTraces = false) : ev_Snd X l ev_ms x_L_text tx_L_text 22 (i_ir (.int)) := s_ireturn rfl dL_text_22
theorem sa_L_text {X : ev_E} {l : Launch} (hG : ev_Good X) (hl : l.stackTraces = false) : ∀ q ∈ tb_L_text X, ev_Snd X l ev_ms x_L_text tx_L_text q.1 q.2 := by
  intro q hq
  unfold tb_L_text at hq
  simp only [List.mem_cons, List.not_mem_nil, or_false] at hq
  rcases hq with rfl | rfl | rfl | rfl | rfl | rfl | rfl | rfl | rfl | rfl | rfl | rfl | rfl | rfl | rfl
  · exact s_L_text_0 hG hl
  · exact s_L_text_1 hG hl
  · exact s_L_text_2 hG hl
  · exact s_L_text_3 hG hl
  · exact s_L_text_4 hG hl
  · exact s_L_text_7 hG hl
  · exact s_L_text_10 hG hl
  · exact s_L_text_13 hG hl
  · exact s_L_text_15 hG hl
  · exact s_L_text_16 hG hl
  · exact s_L_text_17 hG hl
  · exact s_L_text_19 hG hl
  · exact s_L_text_20 hG hl
  · exact s_L_text_21 hG hl
  · exact s_L_text_22 hG hl
