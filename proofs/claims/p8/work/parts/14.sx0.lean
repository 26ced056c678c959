def tx_X0_countOfDepth : ev_X := fun _ _ => some none
noncomputable def tb_X0_countOfDepth (X : ev_E) : List (Nat × (ev_S → ev_N)) := [(0, i_psh (.int (0)) 1), (1, i_is 2 2), (2, i_psh (.int (0)) 3), (3, i_is 3 4), (4, i_il 3 5), (5, i_al 0 6), (6, i_gf X 5 5 9), (9, i_icge 31 12), (12, i_al 0 13), (13, i_gf X 5 1 16), (16, i_il 3 17), (17, i_ald X ev_tI 18), (18, i_il 1 19), (19, i_icne 25 22), (22, i_inc 2 (1) 25), (25, i_inc 3 (1) 28), (28, i_goto 4), (31, i_il 2 32), (32, i_ir (.int))]
theorem s_X0_countOfDepth_0 {X : ev_E} {l : Launch} (hG : ev_Good X) (hl : l.stackTraces = false) : ev_Snd X l ev_ms x_X0_countOfDepth tx_X0_countOfDepth 0 (i_psh (.int (0)) 1) := s_iconst dX0_countOfDepth_0 rfl
theorem s_X0_countOfDepth_1 {X : ev_E} {l : Launch} (hG : ev_Good X) (hl : l.stackTraces = false) : ev_Snd X l ev_ms x_X0_countOfDepth tx_X0_countOfDepth 1 (i_is 2 2) := s_istore_n dX0_countOfDepth_1 rfl (Nat.le_of_ble_eq_true rfl)
theorem s_X0_countOfDepth_2 {X : ev_E} {l : Launch} (hG : ev_Good X) (hl : l.stackTraces = false) : ev_Snd X l ev_ms x_X0_countOfDepth tx_X0_countOfDepth 2 (i_psh (.int (0)) 3) := s_iconst dX0_countOfDepth_2 rfl
theorem s_X0_countOfDepth_3 {X : ev_E} {l : Launch} (hG : ev_Good X) (hl : l.stackTraces = false) : ev_Snd X l ev_ms x_X0_countOfDepth tx_X0_countOfDepth 3 (i_is 3 4) := s_istore_n dX0_countOfDepth_3 rfl (Nat.le_of_ble_eq_true rfl)
theorem s_X0_countOfDepth_4 {X : ev_E} {l : Launch} (hG : ev_Good X) (hl : l.stackTraces = false) : ev_Snd X l ev_ms x_X0_countOfDepth tx_X0_countOfDepth 4 (i_il 3 5) := s_iload_n dX0_countOfDepth_4 rfl
theorem s_X0_countOfDepth_5 {X : ev_E} {l : Launch} (hG : ev_Good X) (hl : l.stackTraces = false) : ev_Snd X l ev_ms x_X0_countOfDepth tx_X0_countOfDepth 5 (i_al 0 6) := s_aload_n dX0_countOfDepth_5 rfl
theorem s_X0_countOfDepth_6 {X : ev_E} {l : Launch} (hG : ev_Good X) (hl : l.stackTraces = false) : ev_Snd X l ev_ms x_X0_countOfDepth tx_X0_countOfDepth 6 (i_gf X 5 5 9) := s_getfield hG (ci := 5) (r := (RX0, TX0, 6)) rfl cw_5 (k := 5) (Nat.le_of_ble_eq_true rfl) w_105 rfl (Or.inl rfl) dX0_countOfDepth_6
theorem s_X0_countOfDepth_9 {X : ev_E} {l : Launch} (hG : ev_Good X) (hl : l.stackTraces = false) : ev_Snd X l ev_ms x_X0_countOfDepth tx_X0_countOfDepth 9 (i_icge 31 12) := s_icge dX0_countOfDepth_9 rfl
theorem s_X0_countOfDepth_12 {X : ev_E} {l : Launch} (hG : ev_Good X) (hl : l.stackTraces = false) : ev_Snd X l ev_ms x_X0_countOfDepth tx_X0_countOfDepth 12 (i_al 0 13) := s_aload_n dX0_countOfDepth_12 rfl
theorem s_X0_countOfDepth_13 {X : ev_E} {l : Launch} (hG : ev_Good X) (hl : l.stackTraces = false) : ev_Snd X l ev_ms x_X0_countOfDepth tx_X0_countOfDepth 13 (i_gf X 5 1 16) := s_getfield hG (ci := 5) (r := (RX0, TX0, 6)) rfl cw_5 (k := 1) (Nat.le_of_ble_eq_true rfl) w_100 rfl (Or.inl rfl) dX0_countOfDepth_13
theorem s_X0_countOfDepth_16 {X : ev_E} {l : Launch} (hG : ev_Good X) (hl : l.stackTraces = false) : ev_Snd X l ev_ms x_X0_countOfDepth tx_X0_countOfDepth 16 (i_il 3 17) := s_iload_n dX0_countOfDepth_16 rfl
theorem s_X0_countOfDepth_17 {X : ev_E} {l : Launch} (hG : ev_Good X) (hl : l.stackTraces = false) : ev_Snd X l ev_ms x_X0_countOfDepth tx_X0_countOfDepth 17 (i_ald X ev_tI 18) := s_iaload hG dX0_countOfDepth_17
theorem s_X0_countOfDepth_18 {X : ev_E} {l : Launch} (hG : ev_Good X) (hl : l.stackTraces = false) : ev_Snd X l ev_ms x_X0_countOfDepth tx_X0_countOfDepth 18 (i_il 1 19) := s_iload_n dX0_countOfDepth_18 rfl
theorem s_X0_countOfDepth_19 {X : ev_E} {l : Launch} (hG : ev_Good X) (hl : l.stackTraces = false) : ev_Snd X l ev_ms x_X0_countOfDepth tx_X0_countOfDepth 19 (i_icne 25 22) := s_icne dX0_countOfDepth_19 rfl
theorem s_X0_countOfDepth_22 {X : ev_E} {l : Launch} (hG : ev_Good X) (hl : l.stackTraces = false) : ev_Snd X l ev_ms x_X0_countOfDepth tx_X0_countOfDepth 22 (i_inc 2 (1) 25) := s_iinc dX0_countOfDepth_22 rfl (Nat.le_of_ble_eq_true rfl)
theorem s_X0_countOfDepth_25 {X : ev_E} {l : Launch} (hG : ev_Good X) (hl : l.stackTraces = false) : ev_Snd X l ev_ms x_X0_countOfDepth tx_X0_countOfDepth 25 (i_inc 3 (1) 28) := s_iinc dX0_countOfDepth_25 rfl (Nat.le_of_ble_eq_true rfl)
theorem s_X0_countOfDepth_28 {X : ev_E} {l : Launch} (hG : ev_Good X) (hl : l.stackTraces = false) : ev_Snd X l ev_ms x_X0_countOfDepth tx_X0_countOfDepth 28 (i_goto 4) := s_goto dX0_countOfDepth_28 rfl
theorem s_X0_countOfDepth_31 {X : ev_E} {l : Launch} (hG : ev_Good X) (hl : l.stackTraces = false) : ev_Snd X l ev_ms x_X0_countOfDepth tx_X0_countOfDepth 31 (i_il 2 32) := s_iload_n dX0_countOfDepth_31 rfl
theorem s_X0_countOfDepth_32 {X : ev_E} {l : Launch} (hG : ev_Good X) (hl : l.stackTraces = false) : ev_Snd X l ev_ms x_X0_countOfDepth tx_X0_countOfDepth 32 (i_ir (.int)) := s_ireturn rfl dX0_countOfDepth_32
theorem sa_X0_countOfDepth {X : ev_E} {l : Launch} (hG : ev_Good X) (hl : l.stackTraces = false) : ∀ q ∈ tb_X0_countOfDepth X, ev_Snd X l ev_ms x_X0_countOfDepth tx_X0_countOfDepth q.1 q.2 := by
  intro q hq
  unfold tb_X0_countOfDepth at hq
  simp only [List.mem_cons, List.not_mem_nil, or_false] at hq
  rcases hq with rfl | rfl | rfl | rfl | rfl | rfl | rfl | rfl | rfl | rfl | rfl | rfl | rfl | rfl | rfl | rfl | rfl | rfl | rfl
  · exact s_X0_countOfDepth_0 hG hl
  · exact s_X0_countOfDepth_1 hG hl
  · exact s_X0_countOfDepth_2 hG hl
  · exact s_X0_countOfDepth_3 hG hl
  · exact s_X0_countOfDepth_4 hG hl
  · exact s_X0_countOfDepth_5 hG hl
  · exact s_X0_countOfDepth_6 hG hl
  · exact s_X0_countOfDepth_9 hG hl
  · exact s_X0_countOfDepth_12 hG hl
  · exact s_X0_countOfDepth_13 hG hl
  · exact s_X0_countOfDepth_16 hG hl
  · exact s_X0_countOfDepth_17 hG hl
  · exact s_X0_countOfDepth_18 hG hl
  · exact s_X0_countOfDepth_19 hG hl
  · exact s_X0_countOfDepth_22 hG hl
  · exact s_X0_countOfDepth_25 hG hl
  · exact s_X0_countOfDepth_28 hG hl
  · exact s_X0_countOfDepth_31 hG hl
  · exact s_X0_countOfDepth_32 hG hl
def tx_X0_countOutOfReach : ev_X := fun _ _ => some none
noncomputable def tb_X0_countOutOfReach (X : ev_E) : List (Nat × (ev_S → ev_N)) := [(0, i_psh (.int (0)) 1), (1, i_is 2 2), (2, i_psh (.int (0)) 3), (3, i_is 3 4), (4, i_il 3 5), (5, i_al 0 6), (6, i_gf X 5 5 9), (9, i_icge 40 12), (12, i_al 0 13), (13, i_gf X 5 1 16), (16, i_il 3 17), (17, i_ald X ev_tI 18), (18, i_ifeq 31 21), (21, i_al 0 22), (22, i_gf X 5 1 25), (25, i_il 3 26), (26, i_ald X ev_tI 27), (27, i_il 1 28), (28, i_icle 34 31), (31, i_inc 2 (1) 34), (34, i_inc 3 (1) 37), (37, i_goto 4), (40, i_il 2 41), (41, i_ir (.int))]
theorem s_X0_countOutOfReach_0 {X : ev_E} {l : Launch} (hG : ev_Good X) (hl : l.stackTraces = false) : ev_Snd X l ev_ms x_X0_countOutOfReach tx_X0_countOutOfReach 0 (i_psh (.int (0)) 1) := s_iconst dX0_countOutOfReach_0 rfl
theorem s_X0_countOutOfReach_1 {X : ev_E} {l : Launch} (hG : ev_Good X) (hl : l.stackTraces = false) : ev_Snd X l ev_ms x_X0_countOutOfReach tx_X0_countOutOfReach 1 (i_is 2 2) := s_istore_n dX0_countOutOfReach_1 rfl (Nat.le_of_ble_eq_true rfl)
theorem s_X0_countOutOfReach_2 {X : ev_E} {l : Launch} (hG : ev_Good X) (hl : l.stackTraces = false) : ev_Snd X l ev_ms x_X0_countOutOfReach tx_X0_countOutOfReach 2 (i_psh (.int (0)) 3) := s_iconst dX0_countOutOfReach_2 rfl
theorem s_X0_countOutOfReach_3 {X : ev_E} {l : Launch} (hG : ev_Good X) (hl : l.stackTraces = false) : ev_Snd X l ev_ms x_X0_countOutOfReach tx_X0_countOutOfReach 3 (i_is 3 4) := s_istore_n dX0_countOutOfReach_3 rfl (Nat.le_of_ble_eq_true rfl)
theorem s_X0_countOutOfReach_4 {X : ev_E} {l : Launch} (hG : ev_Good X) (hl : l.stackTraces = false) : ev_Snd X l ev_ms x_X0_countOutOfReach tx_X0_countOutOfReach 4 (i_il 3 5) := s_iload_n dX0_countOutOfReach_4 rfl
theorem s_X0_countOutOfReach_5 {X : ev_E} {l : Launch} (hG : ev_Good X) (hl : l.stackTraces = false) : ev_Snd X l ev_ms x_X0_countOutOfReach tx_X0_countOutOfReach 5 (i_al 0 6) := s_aload_n dX0_countOutOfReach_5 rfl
theorem s_X0_countOutOfReach_6 {X : ev_E} {l : Launch} (hG : ev_Good X) (hl : l.stackTraces = false) : ev_Snd X l ev_ms x_X0_countOutOfReach tx_X0_countOutOfReach 6 (i_gf X 5 5 9) := s_getfield hG (ci := 5) (r := (RX0, TX0, 6)) rfl cw_5 (k := 5) (Nat.le_of_ble_eq_true rfl) w_105 rfl (Or.inl rfl) dX0_countOutOfReach_6
theorem s_X0_countOutOfReach_9 {X : ev_E} {l : Launch} (hG : ev_Good X) (hl : l.stackTraces = false) : ev_Snd X l ev_ms x_X0_countOutOfReach tx_X0_countOutOfReach 9 (i_icge 40 12) := s_icge dX0_countOutOfReach_9 rfl
theorem s_X0_countOutOfReach_12 {X : ev_E} {l : Launch} (hG : ev_Good X) (hl : l.stackTraces = false) : ev_Snd X l ev_ms x_X0_countOutOfReach tx_X0_countOutOfReach 12 (i_al 0 13) := s_aload_n dX0_countOutOfReach_12 rfl
theorem s_X0_countOutOfReach_13 {X : ev_E} {l : Launch} (hG : ev_Good X) (hl : l.stackTraces = false) : ev_Snd X l ev_ms x_X0_countOutOfReach tx_X0_countOutOfReach 13 (i_gf X 5 1 16) := s_getfield hG (ci := 5) (r := (RX0, TX0, 6)) rfl cw_5 (k := 1) (Nat.le_of_ble_eq_true rfl) w_100 rfl (Or.inl rfl) dX0_countOutOfReach_13
theorem s_X0_countOutOfReach_16 {X : ev_E} {l : Launch} (hG : ev_Good X) (hl : l.stackTraces = false) : ev_Snd X l ev_ms x_X0_countOutOfReach tx_X0_countOutOfReach 16 (i_il 3 17) := s_iload_n dX0_countOutOfReach_16 rfl
theorem s_X0_countOutOfReach_17 {X : ev_E} {l : Launch} (hG : ev_Good X) (hl : l.stackTraces = false) : ev_Snd X l ev_ms x_X0_countOutOfReach tx_X0_countOutOfReach 17 (i_ald X ev_tI 18) := s_iaload hG dX0_countOutOfReach_17
theorem s_X0_countOutOfReach_18 {X : ev_E} {l : Launch} (hG : ev_Good X) (hl : l.stackTraces = false) : ev_Snd X l ev_ms x_X0_countOutOfReach tx_X0_countOutOfReach 18 (i_ifeq 31 21) := s_ifeq dX0_countOutOfReach_18 rfl
theorem s_X0_countOutOfReach_21 {X : ev_E} {l : Launch} (hG : ev_Good X) (hl : l.stackTraces = false) : ev_Snd X l ev_ms x_X0_countOutOfReach tx_X0_countOutOfReach 21 (i_al 0 22) := s_aload_n dX0_countOutOfReach_21 rfl
theorem s_X0_countOutOfReach_22 {X : ev_E} {l : Launch} (hG : ev_Good X) (hl : l.stackTraces = false) : ev_Snd X l ev_ms x_X0_countOutOfReach tx_X0_countOutOfReach 22 (i_gf X 5 1 25) := s_getfield hG (ci := 5) (r := (RX0, TX0, 6)) rfl cw_5 (k := 1) (Nat.le_of_ble_eq_true rfl) w_100 rfl (Or.inl rfl) dX0_countOutOfReach_22
theorem s_X0_countOutOfReach_25 {X : ev_E} {l : Launch} (hG : ev_Good X) (hl : l.stackTraces = false) : ev_Snd X l ev_ms x_X0_countOutOfReach tx_X0_countOutOfReach 25 (i_il 3 26) := s_iload_n dX0_countOutOfReach_25 rfl
theorem s_X0_countOutOfReach_26 {X : ev_E} {l : Launch} (hG : ev_Good X) (hl : l.stackTraces = false) : ev_Snd X l ev_ms x_X0_countOutOfReach tx_X0_countOutOfReach 26 (i_ald X ev_tI 27) := s_iaload hG dX0_countOutOfReach_26
theorem s_X0_countOutOfReach_27 {X : ev_E} {l : Launch} (hG : ev_Good X) (hl : l.stackTraces = false) : ev_Snd X l ev_ms x_X0_countOutOfReach tx_X0_countOutOfReach 27 (i_il 1 28) := s_iload_n dX0_countOutOfReach_27 rfl
theorem s_X0_countOutOfReach_28 {X : ev_E} {l : Launch} (hG : ev_Good X) (hl : l.stackTraces = false) : ev_Snd X l ev_ms x_X0_countOutOfReach tx_X0_countOutOfReach 28 (i_icle 34 31) := s_icle dX0_countOutOfReach_28 rfl
theorem s_X0_countOutOfReach_31 {X : ev_E} {l : Launch} (hG : ev_Good X) (hl : l.stackTraces = false) : ev_Snd X l ev_ms x_X0_countOutOfReach tx_X0_countOutOfReach 31 (i_inc 2 (1) 34) := s_iinc dX0_countOutOfReach_31 rfl (Nat.le_of_ble_eq_true rfl)
theorem s_X0_countOutOfReach_34 {X : ev_E} {l : Launch} (hG : ev_Good X) (hl : l.stackTraces = false) : ev_Snd X l ev_ms x_X0_countOutOfReach tx_X0_countOutOfReach 34 (i_inc 3 (1) 37) := s_iinc dX0_countOutOfReach_34 rfl (Nat.le_of_ble_eq_true rfl)
theorem s_X0_countOutOfReach_37 {X : ev_E} {l : Launch} (hG : ev_Good X) (hl : l.stackTraces = false) : ev_Snd X l ev_ms x_X0_countOutOfReach tx_X0_countOutOfReach 37 (i_goto 4) := s_goto dX0_countOutOfReach_37 rfl
theorem s_X0_countOutOfReach_40 {X : ev_E} {l : Launch} (hG : ev_Good X) (hl : l.stackTraces = false) : ev_Snd X l ev_ms x_X0_countOutOfReach tx_X0_countOutOfReach 40 (i_il 2 41) := s_iload_n dX0_countOutOfReach_40 rfl
theorem s_X0_countOutOfReach_41 {X : ev_E} {l : Launch} (hG : ev_Good X) (hl : l.stackTraces = false) : ev_Snd X l ev_ms x_X0_countOutOfReach tx_X0_countOutOfReach 41 (i_ir (.int)) := s_ireturn rfl dX0_countOutOfReach_41
theorem sa_X0_countOutOfReach {X : ev_E} {l : Launch} (hG : ev_Good X) (hl : l.stackTraces = false) : ∀ q ∈ tb_X0_countOutOfReach X, ev_Snd X l ev_ms x_X0_countOutOfReach tx_X0_countOutOfReach q.1 q.2 := by
  intro q hq
  unfold tb_X0_countOutOfReach at hq
  simp only [List.mem_cons, List.not_mem_nil, or_false] at hq
  rcases hq with rfl | rfl | rfl | rfl | rfl | rfl | rfl | rfl | rfl | rfl | rfl | rfl | rfl | rfl | rfl | rfl | rfl | rfl | rfl | rfl | rfl | rfl | rfl | rfl
  · exact s_X0_countOutOfReach_0 hG hl
  · exact s_X0_countOutOfReach_1 hG hl
  · exact s_X0_countOutOfReach_2 hG hl
  · exact s_X0_countOutOfReach_3 hG hl
  · exact s_X0_countOutOfReach_4 hG hl
  · exact s_X0_countOutOfReach_5 hG hl
  · exact s_X0_countOutOfReach_6 hG hl
  · exact s_X0_countOutOfReach_9 hG hl
  · exact s_X0_countOutOfReach_12 hG hl
  · exact s_X0_countOutOfReach_13 hG hl
  · exact s_X0_countOutOfReach_16 hG hl
  · exact s_X0_countOutOfReach_17 hG hl
  · exact s_X0_countOutOfReach_18 hG hl
  · exact s_X0_countOutOfReach_21 hG hl
  · exact s_X0_countOutOfReach_22 hG hl
  · exact s_X0_countOutOfReach_25 hG hl
  · exact s_X0_countOutOfReach_26 hG hl
  · exact s_X0_countOutOfReach_27 hG hl
  · exact s_X0_countOutOfReach_28 hG hl
  · exact s_X0_countOutOfReach_31 hG hl
  · exact s_X0_countOutOfReach_34 hG hl
  · exact s_X0_countOutOfReach_37 hG hl
  · exact s_X0_countOutOfReach_40 hG hl
  · exact s_X0_countOutOfReach_41 hG hl
def tx_X0_farthestPlace : ev_X := fun _ _ => some none
noncomputable def tb_X0_farthestPlace (X : ev_E) : List (Nat × (ev_S → ev_N)) := [(0, i_psh (.int (0)) 1), (1, i_is 2 2), (2, i_psh (.int (1)) 3), (3, i_is 3 4), (4, i_il 3 5), (5, i_il 1 6), (6, i_icge 32 9), (9, i_al 0 10), (10, i_gf X 5 4 13), (13, i_il 3 14), (14, i_ald X ev_tI 15), (15, i_al 0 16), (16, i_gf X 5 4 19), (19, i_il 2 20), (20, i_ald X ev_tI 21), (21, i_icle 26 24), (24, i_il 3 25), (25, i_is 2 26), (26, i_inc 3 (1) 29), (29, i_goto 4), (32, i_il 2 33), (33, i_ir (.int))]
theorem s_X0_farthestPlace_0 {X : ev_E} {l : Launch} (hG : ev_Good X) (hl : l.stackTraces = false) : ev_Snd X l ev_ms x_X0_farthestPlace tx_X0_farthestPlace 0 (i_psh (.int (0)) 1) := s_iconst dX0_farthestPlace_0 rfl
theorem s_X0_farthestPlace_1 {X : ev_E} {l : Launch} (hG : ev_Good X) (hl : l.stackTraces = false) : ev_Snd X l ev_ms x_X0_farthestPlace tx_X0_farthestPlace 1 (i_is 2 2) := s_istore_n dX0_farthestPlace_1 rfl (Nat.le_of_ble_eq_true rfl)
theorem s_X0_farthestPlace_2 {X : ev_E} {l : Launch} (hG : ev_Good X) (hl : l.stackTraces = false) : ev_Snd X l ev_ms x_X0_farthestPlace tx_X0_farthestPlace 2 (i_psh (.int (1)) 3) := s_iconst dX0_farthestPlace_2 rfl
theorem s_X0_farthestPlace_3 {X : ev_E} {l : Launch} (hG : ev_Good X) (hl : l.stackTraces = false) : ev_Snd X l ev_ms x_X0_farthestPlace tx_X0_farthestPlace 3 (i_is 3 4) := s_istore_n dX0_farthestPlace_3 rfl (Nat.le_of_ble_eq_true rfl)
theorem s_X0_farthestPlace_4 {X : ev_E} {l : Launch} (hG : ev_Good X) (hl : l.stackTraces = false) : ev_Snd X l ev_ms x_X0_farthestPlace tx_X0_farthestPlace 4 (i_il 3 5) := s_iload_n dX0_farthestPlace_4 rfl
theorem s_X0_farthestPlace_5 {X : ev_E} {l : Launch} (hG : ev_Good X) (hl : l.stackTraces = false) : ev_Snd X l ev_ms x_X0_farthestPlace tx_X0_farthestPlace 5 (i_il 1 6) := s_iload_n dX0_farthestPlace_5 rfl
theorem s_X0_farthestPlace_6 {X : ev_E} {l : Launch} (hG : ev_Good X) (hl : l.stackTraces = false) : ev_Snd X l ev_ms x_X0_farthestPlace tx_X0_farthestPlace 6 (i_icge 32 9) := s_icge dX0_farthestPlace_6 rfl
theorem s_X0_farthestPlace_9 {X : ev_E} {l : Launch} (hG : ev_Good X) (hl : l.stackTraces = false) : ev_Snd X l ev_ms x_X0_farthestPlace tx_X0_farthestPlace 9 (i_al 0 10) := s_aload_n dX0_farthestPlace_9 rfl
theorem s_X0_farthestPlace_10 {X : ev_E} {l : Launch} (hG : ev_Good X) (hl : l.stackTraces = false) : ev_Snd X l ev_ms x_X0_farthestPlace tx_X0_farthestPlace 10 (i_gf X 5 4 13) := s_getfield hG (ci := 5) (r := (RX0, TX0, 6)) rfl cw_5 (k := 4) (Nat.le_of_ble_eq_true rfl) w_104 rfl (Or.inl rfl) dX0_farthestPlace_10
theorem s_X0_farthestPlace_13 {X : ev_E} {l : Launch} (hG : ev_Good X) (hl : l.stackTraces = false) : ev_Snd X l ev_ms x_X0_farthestPlace tx_X0_farthestPlace 13 (i_il 3 14) := s_iload_n dX0_farthestPlace_13 rfl
theorem s_X0_farthestPlace_14 {X : ev_E} {l : Launch} (hG : ev_Good X) (hl : l.stackTraces = false) : ev_Snd X l ev_ms x_X0_farthestPlace tx_X0_farthestPlace 14 (i_ald X ev_tI 15) := s_iaload hG dX0_farthestPlace_14
theorem s_X0_farthestPlace_15 {X : ev_E} {l : Launch} (hG : ev_Good X) (hl : l.stackTraces = false) : ev_Snd X l ev_ms x_X0_farthestPlace tx_X0_farthestPlace 15 (i_al 0 16) := s_aload_n dX0_farthestPlace_15 rfl
theorem s_X0_farthestPlace_16 {X : ev_E} {l : Launch} (hG : ev_Good X) (hl : l.stackTraces = false) : ev_Snd X l ev_ms x_X0_farthestPlace tx_X0_farthestPlace 16 (i_gf X 5 4 19) := s_getfield hG (ci := 5) (r := (RX0, TX0, 6)) rfl cw_5 (k := 4) (Nat.le_of_ble_eq_true rfl) w_104 rfl (Or.inl rfl) dX0_farthestPlace_16
theorem s_X0_farthestPlace_19 {X : ev_E} {l : Launch} (hG : ev_Good X) (hl : l.stackTraces = false) : ev_Snd X l ev_ms x_X0_farthestPlace tx_X0_farthestPlace 19 (i_il 2 20) := s_iload_n dX0_farthestPlace_19 rfl
theorem s_X0_farthestPlace_20 {X : ev_E} {l : Launch} (hG : ev_Good X) (hl : l.stackTraces = false) : ev_Snd X l ev_ms x_X0_farthestPlace tx_X0_farthestPlace 20 (i_ald X ev_tI 21) := s_iaload hG dX0_farthestPlace_20
theorem s_X0_farthestPlace_21 {X : ev_E} {l : Launch} (hG : ev_Good X) (hl : l.stackTraces = false) : ev_Snd X l ev_ms x_X0_farthestPlace tx_X0_farthestPlace 21 (i_icle 26 24) := s_icle dX0_farthestPlace_21 rfl
theorem s_X0_farthestPlace_24 {X : ev_E} {l : Launch} (hG : ev_Good X) (hl : l.stackTraces = false) : ev_Snd X l ev_ms x_X0_farthestPlace tx_X0_farthestPlace 24 (i_il 3 25) := s_iload_n dX0_farthestPlace_24 rfl
theorem s_X0_farthestPlace_25 {X : ev_E} {l : Launch} (hG : ev_Good X) (hl : l.stackTraces = false) : ev_Snd X l ev_ms x_X0_farthestPlace tx_X0_farthestPlace 25 (i_is 2 26) := s_istore_n dX0_farthestPlace_25 rfl (Nat.le_of_ble_eq_true rfl)
theorem s_X0_farthestPlace_26 {X : ev_E} {l : Launch} (hG : ev_Good X) (hl : l.stackTraces = false) : ev_Snd X l ev_ms x_X0_farthestPlace tx_X0_farthestPlace 26 (i_inc 3 (1) 29) := s_iinc dX0_farthestPlace_26 rfl (Nat.le_of_ble_eq_true rfl)
theorem s_X0_farthestPlace_29 {X : ev_E} {l : Launch} (hG : ev_Good X) (hl : l.stackTraces = false) : ev_Snd X l ev_ms x_X0_farthestPlace tx_X0_farthestPlace 29 (i_goto 4) := s_goto dX0_farthestPlace_29 rfl
theorem s_X0_farthestPlace_32 {X : ev_E} {l : Launch} (hG : ev_Good X) (hl : l.stackTraces = false) : ev_Snd X l ev_ms x_X0_farthestPlace tx_X0_farthestPlace 32 (i_il 2 33) := s_iload_n dX0_farthestPlace_32 rfl
theorem s_X0_farthestPlace_33 {X : ev_E} {l : Launch} (hG : ev_Good X) (hl : l.stackTraces = false) : ev_Snd X l ev_ms x_X0_farthestPlace tx_X0_farthestPlace 33 (i_ir (.int)) := s_ireturn rfl dX0_farthestPlace_33
theorem sa_X0_farthestPlace {X : ev_E} {l : Launch} (hG : ev_Good X) (hl : l.stackTraces = false) : ∀ q ∈ tb_X0_farthestPlace X, ev_Snd X l ev_ms x_X0_farthestPlace tx_X0_farthestPlace q.1 q.2 := by
  intro q hq
  unfold tb_X0_farthestPlace at hq
  simp only [List.mem_cons, List.not_mem_nil, or_false] at hq
  rcases hq with rfl | rfl | rfl | rfl | rfl | rfl | rfl | rfl | rfl | rfl | rfl | rfl | rfl | rfl | rfl | rfl | rfl | rfl | rfl | rfl | rfl | rfl
  · exact s_X0_farthestPlace_0 hG hl
  · exact s_X0_farthestPlace_1 hG hl
  · exact s_X0_farthestPlace_2 hG hl
  · exact s_X0_farthestPlace_3 hG hl
  · exact s_X0_farthestPlace_4 hG hl
  · exact s_X0_farthestPlace_5 hG hl
  · exact s_X0_farthestPlace_6 hG hl
  · exact s_X0_farthestPlace_9 hG hl
  · exact s_X0_farthestPlace_10 hG hl
  · exact s_X0_farthestPlace_13 hG hl
  · exact s_X0_farthestPlace_14 hG hl
  · exact s_X0_farthestPlace_15 hG hl
  · exact s_X0_farthestPlace_16 hG hl
  · exact s_X0_farthestPlace_19 hG hl
  · exact s_X0_farthestPlace_20 hG hl
  · exact s_X0_farthestPlace_21 hG hl
  · exact s_X0_farthestPlace_24 hG hl
  · exact s_X0_farthestPlace_25 hG hl
  · exact s_X0_farthestPlace_26 hG hl
  · exact s_X0_farthestPlace_29 hG hl
  · exact s_X0_farthestPlace_32 hG hl
  · exact s_X0_farthestPlace_33 hG hl
def tx_X0_heldPlace : ev_X := fun _ _ => some none
noncomputable def tb_X0_heldPlace (X : ev_E) : List (Nat × (ev_S → ev_N)) := [(0, i_psh (.int (0)) 1), (1, i_is 3 2), (2, i_il 3 3), (3, i_il 2 4), (4, i_icge 25 7), (7, i_al 0 8), (8, i_gf X 5 3 11), (11, i_il 3 12), (12, i_ald X ev_tI 13), (13, i_il 1 14), (14, i_icne 19 17), (17, i_il 3 18), (18, i_ir (.int)), (19, i_inc 3 (1) 22), (22, i_goto 2), (25, i_psh (.int (-1)) 26), (26, i_ir (.int))]
theorem s_X0_heldPlace_0 {X : ev_E} {l : Launch} (hG : ev_Good X) (hl : l.stackTraces = false) : ev_Snd X l ev_ms x_X0_heldPlace tx_X0_heldPlace 0 (i_psh (.int (0)) 1) := s_iconst dX0_heldPlace_0 rfl
theorem s_X0_heldPlace_1 {X : ev_E} {l : Launch} (hG : ev_Good X) (hl : l.stackTraces = false) : ev_Snd X l ev_ms x_X0_heldPlace tx_X0_heldPlace 1 (i_is 3 2) := s_istore_n dX0_heldPlace_1 rfl (Nat.le_of_ble_eq_true rfl)
theorem s_X0_heldPlace_2 {X : ev_E} {l : Launch} (hG : ev_Good X) (hl : l.stackTraces = false) : ev_Snd X l ev_ms x_X0_heldPlace tx_X0_heldPlace 2 (i_il 3 3) := s_iload_n dX0_heldPlace_2 rfl
theorem s_X0_heldPlace_3 {X : ev_E} {l : Launch} (hG : ev_Good X) (hl : l.stackTraces = false) : ev_Snd X l ev_ms x_X0_heldPlace tx_X0_heldPlace 3 (i_il 2 4) := s_iload_n dX0_heldPlace_3 rfl
theorem s_X0_heldPlace_4 {X : ev_E} {l : Launch} (hG : ev_Good X) (hl : l.stackTraces = false) : ev_Snd X l ev_ms x_X0_heldPlace tx_X0_heldPlace 4 (i_icge 25 7) := s_icge dX0_heldPlace_4 rfl
theorem s_X0_heldPlace_7 {X : ev_E} {l : Launch} (hG : ev_Good X) (hl : l.stackTraces = false) : ev_Snd X l ev_ms x_X0_heldPlace tx_X0_heldPlace 7 (i_al 0 8) := s_aload_n dX0_heldPlace_7 rfl
theorem s_X0_heldPlace_8 {X : ev_E} {l : Launch} (hG : ev_Good X) (hl : l.stackTraces = false) : ev_Snd X l ev_ms x_X0_heldPlace tx_X0_heldPlace 8 (i_gf X 5 3 11) := s_getfield hG (ci := 5) (r := (RX0, TX0, 6)) rfl cw_5 (k := 3) (Nat.le_of_ble_eq_true rfl) w_103 rfl (Or.inl rfl) dX0_heldPlace_8
theorem s_X0_heldPlace_11 {X : ev_E} {l : Launch} (hG : ev_Good X) (hl : l.stackTraces = false) : ev_Snd X l ev_ms x_X0_heldPlace tx_X0_heldPlace 11 (i_il 3 12) := s_iload_n dX0_heldPlace_11 rfl
theorem s_X0_heldPlace_12 {X : ev_E} {l : Launch} (hG : ev_Good X) (hl : l.stackTraces = false) : ev_Snd X l ev_ms x_X0_heldPlace tx_X0_heldPlace 12 (i_ald X ev_tI 13) := s_iaload hG dX0_heldPlace_12
theorem s_X0_heldPlace_13 {X : ev_E} {l : Launch} (hG : ev_Good X) (hl : l.stackTraces = false) : ev_Snd X l ev_ms x_X0_heldPlace tx_X0_heldPlace 13 (i_il 1 14) := s_iload_n dX0_heldPlace_13 rfl
theorem s_X0_heldPlace_14 {X : ev_E} {l : Launch} (hG : ev_Good X) (hl : l.stackTraces = false) : ev_Snd X l ev_ms x_X0_heldPlace tx_X0_heldPlace 14 (i_icne 19 17) := s_icne dX0_heldPlace_14 rfl
theorem s_X0_heldPlace_17 {X : ev_E} {l : Launch} (hG : ev_Good X) (hl : l.stackTraces = false) : ev_Snd X l ev_ms x_X0_heldPlace tx_X0_heldPlace 17 (i_il 3 18) := s_iload_n dX0_heldPlace_17 rfl
theorem s_X0_heldPlace_18 {X : ev_E} {l : Launch} (hG : ev_Good X) (hl : l.stackTraces = false) : ev_Snd X l ev_ms x_X0_heldPlace tx_X0_heldPlace 18 (i_ir (.int)) := s_ireturn rfl dX0_heldPlace_18
theorem s_X0_heldPlace_19 {X : ev_E} {l : Launch} (hG : ev_Good X) (hl : l.stackTraces = false) : ev_Snd X l ev_ms x_X0_heldPlace tx_X0_heldPlace 19 (i_inc 3 (1) 22) := s_iinc dX0_heldPlace_19 rfl (Nat.le_of_ble_eq_true rfl)
theorem s_X0_heldPlace_22 {X : ev_E} {l : Launch} (hG : ev_Good X) (hl : l.stackTraces = false) : ev_Snd X l ev_ms x_X0_heldPlace tx_X0_heldPlace 22 (i_goto 2) := s_goto dX0_heldPlace_22 rfl
theorem s_X0_heldPlace_25 {X : ev_E} {l : Launch} (hG : ev_Good X) (hl : l.stackTraces = false) : ev_Snd X l ev_ms x_X0_heldPlace tx_X0_heldPlace 25 (i_psh (.int (-1)) 26) := s_iconst dX0_heldPlace_25 rfl
theorem s_X0_heldPlace_26 {X : ev_E} {l : Launch} (hG : ev_Good X) (hl : l.stackTraces = false) : ev_Snd X l ev_ms x_X0_heldPlace tx_X0_heldPlace 26 (i_ir (.int)) := s_ireturn rfl dX0_heldPlace_26
theorem sa_X0_heldPlace {X : ev_E} {l : Launch} (hG : ev_Good X) (hl : l.stackTraces = false) : ∀ q ∈ tb_X0_heldPlace X, ev_Snd X l ev_ms x_X0_heldPlace tx_X0_heldPlace q.1 q.2 := by
  intro q hq
  unfold tb_X0_heldPlace at hq
  simp only [List.mem_cons, List.not_mem_nil, or_false] at hq
  rcases hq with rfl | rfl | rfl | rfl | rfl | rfl | rfl | rfl | rfl | rfl | rfl | rfl | rfl | rfl | rfl | rfl | rfl
  · exact s_X0_heldPlace_0 hG hl
  · exact s_X0_heldPlace_1 hG hl
  · exact s_X0_heldPlace_2 hG hl
  · exact s_X0_heldPlace_3 hG hl
  · exact s_X0_heldPlace_4 hG hl
  · exact s_X0_heldPlace_7 hG hl
  · exact s_X0_heldPlace_8 hG hl
  · exact s_X0_heldPlace_11 hG hl
  · exact s_X0_heldPlace_12 hG hl
  · exact s_X0_heldPlace_13 hG hl
  · exact s_X0_heldPlace_14 hG hl
  · exact s_X0_heldPlace_17 hG hl
  · exact s_X0_heldPlace_18 hG hl
  · exact s_X0_heldPlace_19 hG hl
  · exact s_X0_heldPlace_22 hG hl
  · exact s_X0_heldPlace_25 hG hl
  · exact s_X0_heldPlace_26 hG hl
def tx_X0_init : ev_X := fun _ _ => some none
noncomputable def tb_X0_init (X : ev_E) : List (Nat × (ev_S → ev_N)) := [(0, i_al 0 1), (1, i_oi 4), (4, i_al 0 5), (5, i_psh (.int (60)) 7), (7, i_na 0 (.int 0) 9), (9, i_pf 5 0 (.array (.int)) 12), (12, i_al 0 13), (13, i_psh (.int (60)) 15), (15, i_na 0 (.int 0) 17), (17, i_pf 5 1 (.array (.int)) 20), (20, i_al 0 21), (21, i_psh (.int (60)) 23), (23, i_na 0 (.int 0) 25), (25, i_pf 5 2 (.array (.int)) 28), (28, i_al 0 29), (29, i_psh (.int (6)) 31), (31, i_na 0 (.int 0) 33), (33, i_pf 5 3 (.array (.int)) 36), (36, i_al 0 37), (37, i_psh (.int (6)) 39), (39, i_na 0 (.int 0) 41), (41, i_pf 5 4 (.array (.int)) 44), (44, i_al 0 45), (45, i_psh (.int (0)) 46), (46, i_pf 5 5 (.int) 49), (49, i_vr)]
theorem s_X0_init_0 {X : ev_E} {l : Launch} (hG : ev_Good X) (hl : l.stackTraces = false) : ev_Snd X l ev_ms x_X0_init tx_X0_init 0 (i_al 0 1) := s_aload_n dX0_init_0 rfl
theorem s_X0_init_1 {X : ev_E} {l : Launch} (hG : ev_Good X) (hl : l.stackTraces = false) : ev_Snd X l ev_ms x_X0_init tx_X0_init 1 (i_oi 4) := s_objinit hG w_97 w_88 w_89 dX0_init_1
theorem s_X0_init_4 {X : ev_E} {l : Launch} (hG : ev_Good X) (hl : l.stackTraces = false) : ev_Snd X l ev_ms x_X0_init tx_X0_init 4 (i_al 0 5) := s_aload_n dX0_init_4 rfl
theorem s_X0_init_5 {X : ev_E} {l : Launch} (hG : ev_Good X) (hl : l.stackTraces = false) : ev_Snd X l ev_ms x_X0_init tx_X0_init 5 (i_psh (.int (60)) 7) := s_bipush dX0_init_5 rfl
theorem s_X0_init_7 {X : ev_E} {l : Launch} (hG : ev_Good X) (hl : l.stackTraces = false) : ev_Snd X l ev_ms x_X0_init tx_X0_init 7 (i_na 0 (.int 0) 9) := s_newarray hG (kd := 0) (at' := .int) (Nat.le_of_ble_eq_true rfl) rfl (by decide) rfl dX0_init_7 w_120
theorem s_X0_init_9 {X : ev_E} {l : Launch} (hG : ev_Good X) (hl : l.stackTraces = false) : ev_Snd X l ev_ms x_X0_init tx_X0_init 9 (i_pf 5 0 (.array (.int)) 12) := s_putfieldF hG (ci := 5) (r := (RX0, TX0, 6)) rfl cw_5 ap_5 (k := 0) (Nat.le_of_ble_eq_true rfl) rfl rfl rfl (by decide +kernel) w_98 rfl dX0_init_9
theorem s_X0_init_12 {X : ev_E} {l : Launch} (hG : ev_Good X) (hl : l.stackTraces = false) : ev_Snd X l ev_ms x_X0_init tx_X0_init 12 (i_al 0 13) := s_aload_n dX0_init_12 rfl
theorem s_X0_init_13 {X : ev_E} {l : Launch} (hG : ev_Good X) (hl : l.stackTraces = false) : ev_Snd X l ev_ms x_X0_init tx_X0_init 13 (i_psh (.int (60)) 15) := s_bipush dX0_init_13 rfl
theorem s_X0_init_15 {X : ev_E} {l : Launch} (hG : ev_Good X) (hl : l.stackTraces = false) : ev_Snd X l ev_ms x_X0_init tx_X0_init 15 (i_na 0 (.int 0) 17) := s_newarray hG (kd := 0) (at' := .int) (Nat.le_of_ble_eq_true rfl) rfl (by decide) rfl dX0_init_15 w_120
theorem s_X0_init_17 {X : ev_E} {l : Launch} (hG : ev_Good X) (hl : l.stackTraces = false) : ev_Snd X l ev_ms x_X0_init tx_X0_init 17 (i_pf 5 1 (.array (.int)) 20) := s_putfieldF hG (ci := 5) (r := (RX0, TX0, 6)) rfl cw_5 ap_5 (k := 1) (Nat.le_of_ble_eq_true rfl) rfl rfl rfl (by decide +kernel) w_100 rfl dX0_init_17
theorem s_X0_init_20 {X : ev_E} {l : Launch} (hG : ev_Good X) (hl : l.stackTraces = false) : ev_Snd X l ev_ms x_X0_init tx_X0_init 20 (i_al 0 21) := s_aload_n dX0_init_20 rfl
theorem s_X0_init_21 {X : ev_E} {l : Launch} (hG : ev_Good X) (hl : l.stackTraces = false) : ev_Snd X l ev_ms x_X0_init tx_X0_init 21 (i_psh (.int (60)) 23) := s_bipush dX0_init_21 rfl
theorem s_X0_init_23 {X : ev_E} {l : Launch} (hG : ev_Good X) (hl : l.stackTraces = false) : ev_Snd X l ev_ms x_X0_init tx_X0_init 23 (i_na 0 (.int 0) 25) := s_newarray hG (kd := 0) (at' := .int) (Nat.le_of_ble_eq_true rfl) rfl (by decide) rfl dX0_init_23 w_120
theorem s_X0_init_25 {X : ev_E} {l : Launch} (hG : ev_Good X) (hl : l.stackTraces = false) : ev_Snd X l ev_ms x_X0_init tx_X0_init 25 (i_pf 5 2 (.array (.int)) 28) := s_putfieldF hG (ci := 5) (r := (RX0, TX0, 6)) rfl cw_5 ap_5 (k := 2) (Nat.le_of_ble_eq_true rfl) rfl rfl rfl (by decide +kernel) w_102 rfl dX0_init_25
theorem s_X0_init_28 {X : ev_E} {l : Launch} (hG : ev_Good X) (hl : l.stackTraces = false) : ev_Snd X l ev_ms x_X0_init tx_X0_init 28 (i_al 0 29) := s_aload_n dX0_init_28 rfl
theorem s_X0_init_29 {X : ev_E} {l : Launch} (hG : ev_Good X) (hl : l.stackTraces = false) : ev_Snd X l ev_ms x_X0_init tx_X0_init 29 (i_psh (.int (6)) 31) := s_bipush dX0_init_29 rfl
theorem s_X0_init_31 {X : ev_E} {l : Launch} (hG : ev_Good X) (hl : l.stackTraces = false) : ev_Snd X l ev_ms x_X0_init tx_X0_init 31 (i_na 0 (.int 0) 33) := s_newarray hG (kd := 0) (at' := .int) (Nat.le_of_ble_eq_true rfl) rfl (by decide) rfl dX0_init_31 w_120
theorem s_X0_init_33 {X : ev_E} {l : Launch} (hG : ev_Good X) (hl : l.stackTraces = false) : ev_Snd X l ev_ms x_X0_init tx_X0_init 33 (i_pf 5 3 (.array (.int)) 36) := s_putfieldF hG (ci := 5) (r := (RX0, TX0, 6)) rfl cw_5 ap_5 (k := 3) (Nat.le_of_ble_eq_true rfl) rfl rfl rfl (by decide +kernel) w_103 rfl dX0_init_33
theorem s_X0_init_36 {X : ev_E} {l : Launch} (hG : ev_Good X) (hl : l.stackTraces = false) : ev_Snd X l ev_ms x_X0_init tx_X0_init 36 (i_al 0 37) := s_aload_n dX0_init_36 rfl
theorem s_X0_init_37 {X : ev_E} {l : Launch} (hG : ev_Good X) (hl : l.stackTraces = false) : ev_Snd X l ev_ms x_X0_init tx_X0_init 37 (i_psh (.int (6)) 39) := s_bipush dX0_init_37 rfl
theorem s_X0_init_39 {X : ev_E} {l : Launch} (hG : ev_Good X) (hl : l.stackTraces = false) : ev_Snd X l ev_ms x_X0_init tx_X0_init 39 (i_na 0 (.int 0) 41) := s_newarray hG (kd := 0) (at' := .int) (Nat.le_of_ble_eq_true rfl) rfl (by decide) rfl dX0_init_39 w_120
theorem s_X0_init_41 {X : ev_E} {l : Launch} (hG : ev_Good X) (hl : l.stackTraces = false) : ev_Snd X l ev_ms x_X0_init tx_X0_init 41 (i_pf 5 4 (.array (.int)) 44) := s_putfieldF hG (ci := 5) (r := (RX0, TX0, 6)) rfl cw_5 ap_5 (k := 4) (Nat.le_of_ble_eq_true rfl) rfl rfl rfl (by decide +kernel) w_104 rfl dX0_init_41
theorem s_X0_init_44 {X : ev_E} {l : Launch} (hG : ev_Good X) (hl : l.stackTraces = false) : ev_Snd X l ev_ms x_X0_init tx_X0_init 44 (i_al 0 45) := s_aload_n dX0_init_44 rfl
theorem s_X0_init_45 {X : ev_E} {l : Launch} (hG : ev_Good X) (hl : l.stackTraces = false) : ev_Snd X l ev_ms x_X0_init tx_X0_init 45 (i_psh (.int (0)) 46) := s_iconst dX0_init_45 rfl
theorem s_X0_init_46 {X : ev_E} {l : Launch} (hG : ev_Good X) (hl : l.stackTraces = false) : ev_Snd X l ev_ms x_X0_init tx_X0_init 46 (i_pf 5 5 (.int) 49) := s_putfield hG (ci := 5) (r := (RX0, TX0, 6)) rfl cw_5 ap_5 (k := 5) (Nat.le_of_ble_eq_true rfl) rfl (by decide +kernel) w_105 rfl (Or.inl rfl) dX0_init_46
theorem s_X0_init_49 {X : ev_E} {l : Launch} (hG : ev_Good X) (hl : l.stackTraces = false) : ev_Snd X l ev_ms x_X0_init tx_X0_init 49 (i_vr) := s_return rfl dX0_init_49
theorem sa_X0_init {X : ev_E} {l : Launch} (hG : ev_Good X) (hl : l.stackTraces = false) : ∀ q ∈ tb_X0_init X, ev_Snd X l ev_ms x_X0_init tx_X0_init q.1 q.2 := by
  intro q hq
  unfold tb_X0_init at hq
  simp only [List.mem_cons, List.not_mem_nil, or_false] at hq
  rcases hq with rfl | rfl | rfl | rfl | rfl | rfl | rfl | rfl | rfl | rfl | rfl | rfl | rfl | rfl | rfl | rfl | rfl | rfl | rfl | rfl | rfl | rfl | rfl | rfl | rfl | rfl
  · exact s_X0_init_0 hG hl
  · exact s_X0_init_1 hG hl
  · exact s_X0_init_4 hG hl
  · exact s_X0_init_5 hG hl
  · exact s_X0_init_7 hG hl
  · exact s_X0_init_9 hG hl
  · exact s_X0_init_12 hG hl
  · exact s_X0_init_13 hG hl
  · exact s_X0_init_15 hG hl
  · exact s_X0_init_17 hG hl
  · exact s_X0_init_20 hG hl
  · exact s_X0_init_21 hG hl
  · exact s_X0_init_23 hG hl
  · exact s_X0_init_25 hG hl
  · exact s_X0_init_28 hG hl
  · exact s_X0_init_29 hG hl
  · exact s_X0_init_31 hG hl
  · exact s_X0_init_33 hG hl
  · exact s_X0_init_36 hG hl
  · exact s_X0_init_37 hG hl
  · exact s_X0_init_39 hG hl
  · exact s_X0_init_41 hG hl
  · exact s_X0_init_44 hG hl
  · exact s_X0_init_45 hG hl
  · exact s_X0_init_46 hG hl
  · exact s_X0_init_49 hG hl
def tx_X0_isNumber : ev_X := fun _ _ => some none
noncomputable def tb_X0_isNumber (X : ev_E) : List (Nat × (ev_S → ev_N)) := [(0, i_il 1 1), (1, i_iflt 16 4), (4, i_il 1 5), (5, i_al 0 6), (6, i_gf X 5 5 9), (9, i_icge 16 12), (12, i_psh (.int (1)) 13), (13, i_goto 17), (16, i_psh (.int (0)) 17), (17, i_ir (.boolean))]
theorem s_X0_isNumber_0 {X : ev_E} {l : Launch} (hG : ev_Good X) (hl : l.stackTraces = false) : ev_Snd X l ev_ms x_X0_isNumber tx_X0_isNumber 0 (i_il 1 1) := s_iload_n dX0_isNumber_0 rfl
theorem s_X0_isNumber_1 {X : ev_E} {l : Launch} (hG : ev_Good X) (hl : l.stackTraces = false) : ev_Snd X l ev_ms x_X0_isNumber tx_X0_isNumber 1 (i_iflt 16 4) := s_iflt dX0_isNumber_1 rfl
theorem s_X0_isNumber_4 {X : ev_E} {l : Launch} (hG : ev_Good X) (hl : l.stackTraces = false) : ev_Snd X l ev_ms x_X0_isNumber tx_X0_isNumber 4 (i_il 1 5) := s_iload_n dX0_isNumber_4 rfl
theorem s_X0_isNumber_5 {X : ev_E} {l : Launch} (hG : ev_Good X) (hl : l.stackTraces = false) : ev_Snd X l ev_ms x_X0_isNumber tx_X0_isNumber 5 (i_al 0 6) := s_aload_n dX0_isNumber_5 rfl
theorem s_X0_isNumber_6 {X : ev_E} {l : Launch} (hG : ev_Good X) (hl : l.stackTraces = false) : ev_Snd X l ev_ms x_X0_isNumber tx_X0_isNumber 6 (i_gf X 5 5 9) := s_getfield hG (ci := 5) (r := (RX0, TX0, 6)) rfl cw_5 (k := 5) (Nat.le_of_ble_eq_true rfl) w_105 rfl (Or.inl rfl) dX0_isNumber_6
theorem s_X0_isNumber_9 {X : ev_E} {l : Launch} (hG : ev_Good X) (hl : l.stackTraces = false) : ev_Snd X l ev_ms x_X0_isNumber tx_X0_isNumber 9 (i_icge 16 12) := s_icge dX0_isNumber_9 rfl
theorem s_X0_isNumber_12 {X : ev_E} {l : Launch} (hG : ev_Good X) (hl : l.stackTraces = false) : ev_Snd X l ev_ms x_X0_isNumber tx_X0_isNumber 12 (i_psh (.int (1)) 13) := s_iconst dX0_isNumber_12 rfl
theorem s_X0_isNumber_13 {X : ev_E} {l : Launch} (hG : ev_Good X) (hl : l.stackTraces = false) : ev_Snd X l ev_ms x_X0_isNumber tx_X0_isNumber 13 (i_goto 17) := s_goto dX0_isNumber_13 rfl
theorem s_X0_isNumber_16 {X : ev_E} {l : Launch} (hG : ev_Good X) (hl : l.stackTraces = false) : ev_Snd X l ev_ms x_X0_isNumber tx_X0_isNumber 16 (i_psh (.int (0)) 17) := s_iconst dX0_isNumber_16 rfl
theorem s_X0_isNumber_17 {X : ev_E} {l : Launch} (hG : ev_Good X) (hl : l.stackTraces = false) : ev_Snd X l ev_ms x_X0_isNumber tx_X0_isNumber 17 (i_ir (.boolean)) := s_ireturn rfl dX0_isNumber_17
theorem sa_X0_isNumber {X : ev_E} {l : Launch} (hG : ev_Good X) (hl : l.stackTraces = false) : ∀ q ∈ tb_X0_isNumber X, ev_Snd X l ev_ms x_X0_isNumber tx_X0_isNumber q.1 q.2 := by
  intro q hq
  unfold tb_X0_isNumber at hq
  simp only [List.mem_cons, List.not_mem_nil, or_false] at hq
  rcases hq with rfl | rfl | rfl | rfl | rfl | rfl | rfl | rfl | rfl | rfl
  · exact s_X0_isNumber_0 hG hl
  · exact s_X0_isNumber_1 hG hl
  · exact s_X0_isNumber_4 hG hl
  · exact s_X0_isNumber_5 hG hl
  · exact s_X0_isNumber_6 hG hl
  · exact s_X0_isNumber_9 hG hl
  · exact s_X0_isNumber_12 hG hl
  · exact s_X0_isNumber_13 hG hl
  · exact s_X0_isNumber_16 hG hl
  · exact s_X0_isNumber_17 hG hl
def tx_X0_noteNext : ev_X := fun _ _ => some none
noncomputable def tb_X0_noteNext (X : ev_E) : List (Nat × (ev_S → ev_N)) := [(0, i_al 0 1), (1, i_gf X 5 5 4), (4, i_psh (.int (1)) 5), (5, i_ii (fun a b => a - b) 6), (6, i_is 2 7), (7, i_il 2 8), (8, i_iflt 38 11), (11, i_al 0 12), (12, i_gf X 5 0 15), (15, i_il 2 16), (16, i_ald X ev_tI 17), (17, i_il 1 18), (18, i_icne 32 21), (21, i_al 0 22), (22, i_gf X 5 2 25), (25, i_il 2 26), (26, i_al 0 27), (27, i_gf X 5 5 30), (30, i_ast ev_tI (fun v => v) 31), (31, i_vr), (32, i_inc 2 (-1) 35), (35, i_goto 7), (38, i_vr)]
theorem s_X0_noteNext_0 {X : ev_E} {l : Launch} (hG : ev_Good X) (hl : l.stackTraces = false) : ev_Snd X l ev_ms x_X0_noteNext tx_X0_noteNext 0 (i_al 0 1) := s_aload_n dX0_noteNext_0 rfl
theorem s_X0_noteNext_1 {X : ev_E} {l : Launch} (hG : ev_Good X) (hl : l.stackTraces = false) : ev_Snd X l ev_ms x_X0_noteNext tx_X0_noteNext 1 (i_gf X 5 5 4) := s_getfield hG (ci := 5) (r := (RX0, TX0, 6)) rfl cw_5 (k := 5) (Nat.le_of_ble_eq_true rfl) w_105 rfl (Or.inl rfl) dX0_noteNext_1
theorem s_X0_noteNext_4 {X : ev_E} {l : Launch} (hG : ev_Good X) (hl : l.stackTraces = false) : ev_Snd X l ev_ms x_X0_noteNext tx_X0_noteNext 4 (i_psh (.int (1)) 5) := s_iconst dX0_noteNext_4 rfl
theorem s_X0_noteNext_5 {X : ev_E} {l : Launch} (hG : ev_Good X) (hl : l.stackTraces = false) : ev_Snd X l ev_ms x_X0_noteNext tx_X0_noteNext 5 (i_ii (fun a b => a - b) 6) := s_isub dX0_noteNext_5
theorem s_X0_noteNext_6 {X : ev_E} {l : Launch} (hG : ev_Good X) (hl : l.stackTraces = false) : ev_Snd X l ev_ms x_X0_noteNext tx_X0_noteNext 6 (i_is 2 7) := s_istore_n dX0_noteNext_6 rfl (Nat.le_of_ble_eq_true rfl)
theorem s_X0_noteNext_7 {X : ev_E} {l : Launch} (hG : ev_Good X) (hl : l.stackTraces = false) : ev_Snd X l ev_ms x_X0_noteNext tx_X0_noteNext 7 (i_il 2 8) := s_iload_n dX0_noteNext_7 rfl
theorem s_X0_noteNext_8 {X : ev_E} {l : Launch} (hG : ev_Good X) (hl : l.stackTraces = false) : ev_Snd X l ev_ms x_X0_noteNext tx_X0_noteNext 8 (i_iflt 38 11) := s_iflt dX0_noteNext_8 rfl
theorem s_X0_noteNext_11 {X : ev_E} {l : Launch} (hG : ev_Good X) (hl : l.stackTraces = false) : ev_Snd X l ev_ms x_X0_noteNext tx_X0_noteNext 11 (i_al 0 12) := s_aload_n dX0_noteNext_11 rfl
theorem s_X0_noteNext_12 {X : ev_E} {l : Launch} (hG : ev_Good X) (hl : l.stackTraces = false) : ev_Snd X l ev_ms x_X0_noteNext tx_X0_noteNext 12 (i_gf X 5 0 15) := s_getfield hG (ci := 5) (r := (RX0, TX0, 6)) rfl cw_5 (k := 0) (Nat.le_of_ble_eq_true rfl) w_98 rfl (Or.inl rfl) dX0_noteNext_12
theorem s_X0_noteNext_15 {X : ev_E} {l : Launch} (hG : ev_Good X) (hl : l.stackTraces = false) : ev_Snd X l ev_ms x_X0_noteNext tx_X0_noteNext 15 (i_il 2 16) := s_iload_n dX0_noteNext_15 rfl
theorem s_X0_noteNext_16 {X : ev_E} {l : Launch} (hG : ev_Good X) (hl : l.stackTraces = false) : ev_Snd X l ev_ms x_X0_noteNext tx_X0_noteNext 16 (i_ald X ev_tI 17) := s_iaload hG dX0_noteNext_16
theorem s_X0_noteNext_17 {X : ev_E} {l : Launch} (hG : ev_Good X) (hl : l.stackTraces = false) : ev_Snd X l ev_ms x_X0_noteNext tx_X0_noteNext 17 (i_il 1 18) := s_iload_n dX0_noteNext_17 rfl
theorem s_X0_noteNext_18 {X : ev_E} {l : Launch} (hG : ev_Good X) (hl : l.stackTraces = false) : ev_Snd X l ev_ms x_X0_noteNext tx_X0_noteNext 18 (i_icne 32 21) := s_icne dX0_noteNext_18 rfl
theorem s_X0_noteNext_21 {X : ev_E} {l : Launch} (hG : ev_Good X) (hl : l.stackTraces = false) : ev_Snd X l ev_ms x_X0_noteNext tx_X0_noteNext 21 (i_al 0 22) := s_aload_n dX0_noteNext_21 rfl
theorem s_X0_noteNext_22 {X : ev_E} {l : Launch} (hG : ev_Good X) (hl : l.stackTraces = false) : ev_Snd X l ev_ms x_X0_noteNext tx_X0_noteNext 22 (i_gf X 5 2 25) := s_getfield hG (ci := 5) (r := (RX0, TX0, 6)) rfl cw_5 (k := 2) (Nat.le_of_ble_eq_true rfl) w_102 rfl (Or.inl rfl) dX0_noteNext_22
theorem s_X0_noteNext_25 {X : ev_E} {l : Launch} (hG : ev_Good X) (hl : l.stackTraces = false) : ev_Snd X l ev_ms x_X0_noteNext tx_X0_noteNext 25 (i_il 2 26) := s_iload_n dX0_noteNext_25 rfl
theorem s_X0_noteNext_26 {X : ev_E} {l : Launch} (hG : ev_Good X) (hl : l.stackTraces = false) : ev_Snd X l ev_ms x_X0_noteNext tx_X0_noteNext 26 (i_al 0 27) := s_aload_n dX0_noteNext_26 rfl
theorem s_X0_noteNext_27 {X : ev_E} {l : Launch} (hG : ev_Good X) (hl : l.stackTraces = false) : ev_Snd X l ev_ms x_X0_noteNext tx_X0_noteNext 27 (i_gf X 5 5 30) := s_getfield hG (ci := 5) (r := (RX0, TX0, 6)) rfl cw_5 (k := 5) (Nat.le_of_ble_eq_true rfl) w_105 rfl (Or.inl rfl) dX0_noteNext_27
theorem s_X0_noteNext_30 {X : ev_E} {l : Launch} (hG : ev_Good X) (hl : l.stackTraces = false) : ev_Snd X l ev_ms x_X0_noteNext tx_X0_noteNext 30 (i_ast ev_tI (fun v => v) 31) := s_iastore hG dX0_noteNext_30
theorem s_X0_noteNext_31 {X : ev_E} {l : Launch} (hG : ev_Good X) (hl : l.stackTraces = false) : ev_Snd X l ev_ms x_X0_noteNext tx_X0_noteNext 31 (i_vr) := s_return rfl dX0_noteNext_31
theorem s_X0_noteNext_32 {X : ev_E} {l : Launch} (hG : ev_Good X) (hl : l.stackTraces = false) : ev_Snd X l ev_ms x_X0_noteNext tx_X0_noteNext 32 (i_inc 2 (-1) 35) := s_iinc dX0_noteNext_32 rfl (Nat.le_of_ble_eq_true rfl)
theorem s_X0_noteNext_35 {X : ev_E} {l : Launch} (hG : ev_Good X) (hl : l.stackTraces = false) : ev_Snd X l ev_ms x_X0_noteNext tx_X0_noteNext 35 (i_goto 7) := s_goto dX0_noteNext_35 rfl
theorem s_X0_noteNext_38 {X : ev_E} {l : Launch} (hG : ev_Good X) (hl : l.stackTraces = false) : ev_Snd X l ev_ms x_X0_noteNext tx_X0_noteNext 38 (i_vr) := s_return rfl dX0_noteNext_38
theorem sa_X0_noteNext {X : ev_E} {l : Launch} (hG : ev_Good X) (hl : l.stackTraces = false) : ∀ q ∈ tb_X0_noteNext X, ev_Snd X l ev_ms x_X0_noteNext tx_X0_noteNext q.1 q.2 := by
  intro q hq
  unfold tb_X0_noteNext at hq
  simp only [List.mem_cons, List.not_mem_nil, or_false] at hq
  rcases hq with rfl | rfl | rfl | rfl | rfl | rfl | rfl | rfl | rfl | rfl | rfl | rfl | rfl | rfl | rfl | rfl | rfl | rfl | rfl | rfl | rfl | rfl | rfl
  · exact s_X0_noteNext_0 hG hl
  · exact s_X0_noteNext_1 hG hl
  · exact s_X0_noteNext_4 hG hl
  · exact s_X0_noteNext_5 hG hl
  · exact s_X0_noteNext_6 hG hl
  · exact s_X0_noteNext_7 hG hl
  · exact s_X0_noteNext_8 hG hl
  · exact s_X0_noteNext_11 hG hl
  · exact s_X0_noteNext_12 hG hl
  · exact s_X0_noteNext_15 hG hl
  · exact s_X0_noteNext_16 hG hl
  · exact s_X0_noteNext_17 hG hl
  · exact s_X0_noteNext_18 hG hl
  · exact s_X0_noteNext_21 hG hl
  · exact s_X0_noteNext_22 hG hl
  · exact s_X0_noteNext_25 hG hl
  · exact s_X0_noteNext_26 hG hl
  · exact s_X0_noteNext_27 hG hl
  · exact s_X0_noteNext_30 hG hl
  · exact s_X0_noteNext_31 hG hl
  · exact s_X0_noteNext_32 hG hl
  · exact s_X0_noteNext_35 hG hl
  · exact s_X0_noteNext_38 hG hl
def tx_X2_append : ev_X := fun _ _ => some none
noncomputable def tb_X2_append (X : ev_E) : List (Nat × (ev_S → ev_N)) := [(0, i_al 0 1), (1, i_gf X 7 2 4), (4, i_psh (.int (20)) 6), (6, i_icge 39 9), (9, i_al 0 10), (10, i_gf X 7 0 13), (13, i_al 0 14), (14, i_gf X 7 2 17), (17, i_il 1 18), (18, i_ast ev_tI (fun v => v) 19), (19, i_al 0 20), (20, i_gf X 7 1 23), (23, i_al 0 24), (24, i_gf X 7 2 27), (27, i_il 2 28), (28, i_ast ev_tI (fun v => v) 29), (29, i_al 0 30), (30, i_dup 31), (31, i_gf X 7 2 34), (34, i_psh (.int (1)) 35), (35, i_ii (fun a b => a + b) 36), (36, i_pf 7 2 (.int) 39), (39, i_vr)]
theorem s_X2_append_0 {X : ev_E} {l : Launch} (hG : ev_Good X) (hl : l.stackTraces = false) : ev_Snd X l ev_ms x_X2_append tx_X2_append 0 (i_al 0 1) := s_aload_n dX2_append_0 rfl
theorem s_X2_append_1 {X : ev_E} {l : Launch} (hG : ev_Good X) (hl : l.stackTraces = false) : ev_Snd X l ev_ms x_X2_append tx_X2_append 1 (i_gf X 7 2 4) := s_getfield hG (ci := 7) (r := (RX2, TX2, 7)) rfl cw_7 (k := 2) (Nat.le_of_ble_eq_true rfl) w_129 rfl (Or.inl rfl) dX2_append_1
theorem s_X2_append_4 {X : ev_E} {l : Launch} (hG : ev_Good X) (hl : l.stackTraces = false) : ev_Snd X l ev_ms x_X2_append tx_X2_append 4 (i_psh (.int (20)) 6) := s_bipush dX2_append_4 rfl
theorem s_X2_append_6 {X : ev_E} {l : Launch} (hG : ev_Good X) (hl : l.stackTraces = false) : ev_Snd X l ev_ms x_X2_append tx_X2_append 6 (i_icge 39 9) := s_icge dX2_append_6 rfl
theorem s_X2_append_9 {X : ev_E} {l : Launch} (hG : ev_Good X) (hl : l.stackTraces = false) : ev_Snd X l ev_ms x_X2_append tx_X2_append 9 (i_al 0 10) := s_aload_n dX2_append_9 rfl
theorem s_X2_append_10 {X : ev_E} {l : Launch} (hG : ev_Good X) (hl : l.stackTraces = false) : ev_Snd X l ev_ms x_X2_append tx_X2_append 10 (i_gf X 7 0 13) := s_getfield hG (ci := 7) (r := (RX2, TX2, 7)) rfl cw_7 (k := 0) (Nat.le_of_ble_eq_true rfl) w_127 rfl (Or.inl rfl) dX2_append_10
theorem s_X2_append_13 {X : ev_E} {l : Launch} (hG : ev_Good X) (hl : l.stackTraces = false) : ev_Snd X l ev_ms x_X2_append tx_X2_append 13 (i_al 0 14) := s_aload_n dX2_append_13 rfl
theorem s_X2_append_14 {X : ev_E} {l : Launch} (hG : ev_Good X) (hl : l.stackTraces = false) : ev_Snd X l ev_ms x_X2_append tx_X2_append 14 (i_gf X 7 2 17) := s_getfield hG (ci := 7) (r := (RX2, TX2, 7)) rfl cw_7 (k := 2) (Nat.le_of_ble_eq_true rfl) w_129 rfl (Or.inl rfl) dX2_append_14
theorem s_X2_append_17 {X : ev_E} {l : Launch} (hG : ev_Good X) (hl : l.stackTraces = false) : ev_Snd X l ev_ms x_X2_append tx_X2_append 17 (i_il 1 18) := s_iload_n dX2_append_17 rfl
theorem s_X2_append_18 {X : ev_E} {l : Launch} (hG : ev_Good X) (hl : l.stackTraces = false) : ev_Snd X l ev_ms x_X2_append tx_X2_append 18 (i_ast ev_tI (fun v => v) 19) := s_iastore hG dX2_append_18
theorem s_X2_append_19 {X : ev_E} {l : Launch} (hG : ev_Good X) (hl : l.stackTraces = false) : ev_Snd X l ev_ms x_X2_append tx_X2_append 19 (i_al 0 20) := s_aload_n dX2_append_19 rfl
theorem s_X2_append_20 {X : ev_E} {l : Launch} (hG : ev_Good X) (hl : l.stackTraces = false) : ev_Snd X l ev_ms x_X2_append tx_X2_append 20 (i_gf X 7 1 23) := s_getfield hG (ci := 7) (r := (RX2, TX2, 7)) rfl cw_7 (k := 1) (Nat.le_of_ble_eq_true rfl) w_128 rfl (Or.inl rfl) dX2_append_20
theorem s_X2_append_23 {X : ev_E} {l : Launch} (hG : ev_Good X) (hl : l.stackTraces = false) : ev_Snd X l ev_ms x_X2_append tx_X2_append 23 (i_al 0 24) := s_aload_n dX2_append_23 rfl
theorem s_X2_append_24 {X : ev_E} {l : Launch} (hG : ev_Good X) (hl : l.stackTraces = false) : ev_Snd X l ev_ms x_X2_append tx_X2_append 24 (i_gf X 7 2 27) := s_getfield hG (ci := 7) (r := (RX2, TX2, 7)) rfl cw_7 (k := 2) (Nat.le_of_ble_eq_true rfl) w_129 rfl (Or.inl rfl) dX2_append_24
theorem s_X2_append_27 {X : ev_E} {l : Launch} (hG : ev_Good X) (hl : l.stackTraces = false) : ev_Snd X l ev_ms x_X2_append tx_X2_append 27 (i_il 2 28) := s_iload_n dX2_append_27 rfl
theorem s_X2_append_28 {X : ev_E} {l : Launch} (hG : ev_Good X) (hl : l.stackTraces = false) : ev_Snd X l ev_ms x_X2_append tx_X2_append 28 (i_ast ev_tI (fun v => v) 29) := s_iastore hG dX2_append_28
theorem s_X2_append_29 {X : ev_E} {l : Launch} (hG : ev_Good X) (hl : l.stackTraces = false) : ev_Snd X l ev_ms x_X2_append tx_X2_append 29 (i_al 0 30) := s_aload_n dX2_append_29 rfl
theorem s_X2_append_30 {X : ev_E} {l : Launch} (hG : ev_Good X) (hl : l.stackTraces = false) : ev_Snd X l ev_ms x_X2_append tx_X2_append 30 (i_dup 31) := s_dup dX2_append_30
theorem s_X2_append_31 {X : ev_E} {l : Launch} (hG : ev_Good X) (hl : l.stackTraces = false) : ev_Snd X l ev_ms x_X2_append tx_X2_append 31 (i_gf X 7 2 34) := s_getfield hG (ci := 7) (r := (RX2, TX2, 7)) rfl cw_7 (k := 2) (Nat.le_of_ble_eq_true rfl) w_129 rfl (Or.inl rfl) dX2_append_31
theorem s_X2_append_34 {X : ev_E} {l : Launch} (hG : ev_Good X) (hl : l.stackTraces = false) : ev_Snd X l ev_ms x_X2_append tx_X2_append 34 (i_psh (.int (1)) 35) := s_iconst dX2_append_34 rfl
theorem s_X2_append_35 {X : ev_E} {l : Launch} (hG : ev_Good X) (hl : l.stackTraces = false) : ev_Snd X l ev_ms x_X2_append tx_X2_append 35 (i_ii (fun a b => a + b) 36) := s_iadd dX2_append_35
theorem s_X2_append_36 {X : ev_E} {l : Launch} (hG : ev_Good X) (hl : l.stackTraces = false) : ev_Snd X l ev_ms x_X2_append tx_X2_append 36 (i_pf 7 2 (.int) 39) := s_putfield hG (ci := 7) (r := (RX2, TX2, 7)) rfl cw_7 ap_7 (k := 2) (Nat.le_of_ble_eq_true rfl) rfl (by decide +kernel) w_129 rfl (Or.inl rfl) dX2_append_36
theorem s_X2_append_39 {X : ev_E} {l : Launch} (hG : ev_Good X) (hl : l.stackTraces = false) : ev_Snd X l ev_ms x_X2_append tx_X2_append 39 (i_vr) := s_return rfl dX2_append_39
theorem sa_X2_append {X : ev_E} {l : Launch} (hG : ev_Good X) (hl : l.stackTraces = false) : ∀ q ∈ tb_X2_append X, ev_Snd X l ev_ms x_X2_append tx_X2_append q.1 q.2 := by
  intro q hq
  unfold tb_X2_append at hq
  simp only [List.mem_cons, List.not_mem_nil, or_false] at hq
  rcases hq with rfl | rfl | rfl | rfl | rfl | rfl | rfl | rfl | rfl | rfl | rfl | rfl | rfl | rfl | rfl | rfl | rfl | rfl | rfl | rfl | rfl | rfl | rfl
  · exact s_X2_append_0 hG hl
  · exact s_X2_append_1 hG hl
  · exact s_X2_append_4 hG hl
  · exact s_X2_append_6 hG hl
  · exact s_X2_append_9 hG hl
  · exact s_X2_append_10 hG hl
  · exact s_X2_append_13 hG hl
  · exact s_X2_append_14 hG hl
  · exact s_X2_append_17 hG hl
  · exact s_X2_append_18 hG hl
  · exact s_X2_append_19 hG hl
  · exact s_X2_append_20 hG hl
  · exact s_X2_append_23 hG hl
  · exact s_X2_append_24 hG hl
  · exact s_X2_append_27 hG hl
  · exact s_X2_append_28 hG hl
  · exact s_X2_append_29 hG hl
  · exact s_X2_append_30 hG hl
  · exact s_X2_append_31 hG hl
  · exact s_X2_append_34 hG hl
  · exact s_X2_append_35 hG hl
  · exact s_X2_append_36 hG hl
  · exact s_X2_append_39 hG hl
def tx_X2_dropAll : ev_X := fun _ _ => some none
noncomputable def tb_X2_dropAll (X : ev_E) : List (Nat × (ev_S → ev_N)) := [(0, i_al 0 1), (1, i_gf X 7 2 4), (4, i_is 1 5), (5, i_al 0 6), (6, i_psh (.int (0)) 7), (7, i_pf 7 2 (.int) 10), (10, i_il 1 11), (11, i_ir (.int))]
theorem s_X2_dropAll_0 {X : ev_E} {l : Launch} (hG : ev_Good X) (hl : l.stackTraces = false) : ev_Snd X l ev_ms x_X2_dropAll tx_X2_dropAll 0 (i_al 0 1) := s_aload_n dX2_dropAll_0 rfl
theorem s_X2_dropAll_1 {X : ev_E} {l : Launch} (hG : ev_Good X) (hl : l.stackTraces = false) : ev_Snd X l ev_ms x_X2_dropAll tx_X2_dropAll 1 (i_gf X 7 2 4) := s_getfield hG (ci := 7) (r := (RX2, TX2, 7)) rfl cw_7 (k := 2) (Nat.le_of_ble_eq_true rfl) w_129 rfl (Or.inl rfl) dX2_dropAll_1
theorem s_X2_dropAll_4 {X : ev_E} {l : Launch} (hG : ev_Good X) (hl : l.stackTraces = false) : ev_Snd X l ev_ms x_X2_dropAll tx_X2_dropAll 4 (i_is 1 5) := s_istore_n dX2_dropAll_4 rfl (Nat.le_of_ble_eq_true rfl)
theorem s_X2_dropAll_5 {X : ev_E} {l : Launch} (hG : ev_Good X) (hl : l.stackTraces = false) : ev_Snd X l ev_ms x_X2_dropAll tx_X2_dropAll 5 (i_al 0 6) := s_aload_n dX2_dropAll_5 rfl
theorem s_X2_dropAll_6 {X : ev_E} {l : Launch} (hG : ev_Good X) (hl : l.stackTraces = false) : ev_Snd X l ev_ms x_X2_dropAll tx_X2_dropAll 6 (i_psh (.int (0)) 7) := s_iconst dX2_dropAll_6 rfl
theorem s_X2_dropAll_7 {X : ev_E} {l : Launch} (hG : ev_Good X) (hl : l.stackTraces = false) : ev_Snd X l ev_ms x_X2_dropAll tx_X2_dropAll 7 (i_pf 7 2 (.int) 10) := s_putfield hG (ci := 7) (r := (RX2, TX2, 7)) rfl cw_7 ap_7 (k := 2) (Nat.le_of_ble_eq_true rfl) rfl (by decide +kernel) w_129 rfl (Or.inl rfl) dX2_dropAll_7
theorem s_X2_dropAll_10 {X : ev_E} {l : Launch} (hG : ev_Good X) (hl : l.stackTraces = false) : ev_Snd X l ev_ms x_X2_dropAll tx_X2_dropAll 10 (i_il 1 11) := s_iload_n dX2_dropAll_10 rfl
theorem s_X2_dropAll_11 {X : ev_E} {l : Launch} (hG : ev_Good X) (hl : l.stackTraces = false) : ev_Snd X l ev_ms x_X2_dropAll tx_X2_dropAll 11 (i_ir (.int)) := s_ireturn rfl dX2_dropAll_11
theorem sa_X2_dropAll {X : ev_E} {l : Launch} (hG : ev_Good X) (hl : l.stackTraces = false) : ∀ q ∈ tb_X2_dropAll X, ev_Snd X l ev_ms x_X2_dropAll tx_X2_dropAll q.1 q.2 := by
  intro q hq
  unfold tb_X2_dropAll at hq
  simp only [List.mem_cons, List.not_mem_nil, or_false] at hq
  rcases hq with rfl | rfl | rfl | rfl | rfl | rfl | rfl | rfl
  · exact s_X2_dropAll_0 hG hl
  · exact s_X2_dropAll_1 hG hl
  · exact s_X2_dropAll_4 hG hl
  · exact s_X2_dropAll_5 hG hl
  · exact s_X2_dropAll_6 hG hl
  · exact s_X2_dropAll_7 hG hl
  · exact s_X2_dropAll_10 hG hl
  · exact s_X2_dropAll_11 hG hl
def tx_X2_find : ev_X := fun _ _ => some none
noncomputable def tb_X2_find (X : ev_E) : List (Nat × (ev_S → ev_N)) := [(0, i_psh (.int (0)) 1), (1, i_is 2 2), (2, i_il 2 3), (3, i_al 0 4), (4, i_gf X 7 2 7), (7, i_icge 28 10), (10, i_al 0 11), (11, i_gf X 7 0 14), (14, i_il 2 15), (15, i_ald X ev_tI 16), (16, i_il 1 17), (17, i_icne 22 20), (20, i_il 2 21), (21, i_ir (.int)), (22, i_inc 2 (1) 25), (25, i_goto 2), (28, i_psh (.int (-1)) 29), (29, i_ir (.int))]
theorem s_X2_find_0 {X : ev_E} {l : Launch} (hG : ev_Good X) (hl : l.stackTraces = false) : ev_Snd X l ev_ms x_X2_find tx_X2_find 0 (i_psh (.int (0)) 1) := s_iconst dX2_find_0 rfl
theorem s_X2_find_1 {X : ev_E} {l : Launch} (hG : ev_Good X) (hl : l.stackTraces = false) : ev_Snd X l ev_ms x_X2_find tx_X2_find 1 (i_is 2 2) := s_istore_n dX2_find_1 rfl (Nat.le_of_ble_eq_true rfl)
theorem s_X2_find_2 {X : ev_E} {l : Launch} (hG : ev_Good X) (hl : l.stackTraces = false) : ev_Snd X l ev_ms x_X2_find tx_X2_find 2 (i_il 2 3) := s_iload_n dX2_find_2 rfl
theorem s_X2_find_3 {X : ev_E} {l : Launch} (hG : ev_Good X) (hl : l.stackTraces = false) : ev_Snd X l ev_ms x_X2_find tx_X2_find 3 (i_al 0 4) := s_aload_n dX2_find_3 rfl
theorem s_X2_find_4 {X : ev_E} {l : Launch} (hG : ev_Good X) (hl : l.stackTraces = false) : ev_Snd X l ev_ms x_X2_find tx_X2_find 4 (i_gf X 7 2 7) := s_getfield hG (ci := 7) (r := (RX2, TX2, 7)) rfl cw_7 (k := 2) (Nat.le_of_ble_eq_true rfl) w_129 rfl (Or.inl rfl) dX2_find_4
theorem s_X2_find_7 {X : ev_E} {l : Launch} (hG : ev_Good X) (hl : l.stackTraces = false) : ev_Snd X l ev_ms x_X2_find tx_X2_find 7 (i_icge 28 10) := s_icge dX2_find_7 rfl
theorem s_X2_find_10 {X : ev_E} {l : Launch} (hG : ev_Good X) (hl : l.stackTraces = false) : ev_Snd X l ev_ms x_X2_find tx_X2_find 10 (i_al 0 11) := s_aload_n dX2_find_10 rfl
theorem s_X2_find_11 {X : ev_E} {l : Launch} (hG : ev_Good X) (hl : l.stackTraces = false) : ev_Snd X l ev_ms x_X2_find tx_X2_find 11 (i_gf X 7 0 14) := s_getfield hG (ci := 7) (r := (RX2, TX2, 7)) rfl cw_7 (k := 0) (Nat.le_of_ble_eq_true rfl) w_127 rfl (Or.inl rfl) dX2_find_11
theorem s_X2_find_14 {X : ev_E} {l : Launch} (hG : ev_Good X) (hl : l.stackTraces = false) : ev_Snd X l ev_ms x_X2_find tx_X2_find 14 (i_il 2 15) := s_iload_n dX2_find_14 rfl
theorem s_X2_find_15 {X : ev_E} {l : Launch} (hG : ev_Good X) (hl : l.stackTraces = false) : ev_Snd X l ev_ms x_X2_find tx_X2_find 15 (i_ald X ev_tI 16) := s_iaload hG dX2_find_15
theorem s_X2_find_16 {X : ev_E} {l : Launch} (hG : ev_Good X) (hl : l.stackTraces = false) : ev_Snd X l ev_ms x_X2_find tx_X2_find 16 (i_il 1 17) := s_iload_n dX2_find_16 rfl
theorem s_X2_find_17 {X : ev_E} {l : Launch} (hG : ev_Good X) (hl : l.stackTraces = false) : ev_Snd X l ev_ms x_X2_find tx_X2_find 17 (i_icne 22 20) := s_icne dX2_find_17 rfl
theorem s_X2_find_20 {X : ev_E} {l : Launch} (hG : ev_Good X) (hl : l.stackTraces = false) : ev_Snd X l ev_ms x_X2_find tx_X2_find 20 (i_il 2 21) := s_iload_n dX2_find_20 rfl
theorem s_X2_find_21 {X : ev_E} {l : Launch} (hG : ev_Good X) (hl : l.stackTraces = false) : ev_Snd X l ev_ms x_X2_find tx_X2_find 21 (i_ir (.int)) := s_ireturn rfl dX2_find_21
theorem s_X2_find_22 {X : ev_E} {l : Launch} (hG : ev_Good X) (hl : l.stackTraces = false) : ev_Snd X l ev_ms x_X2_find tx_X2_find 22 (i_inc 2 (1) 25) := s_iinc dX2_find_22 rfl (Nat.le_of_ble_eq_true rfl)
theorem s_X2_find_25 {X : ev_E} {l : Launch} (hG : ev_Good X) (hl : l.stackTraces = false) : ev_Snd X l ev_ms x_X2_find tx_X2_find 25 (i_goto 2) := s_goto dX2_find_25 rfl
theorem s_X2_find_28 {X : ev_E} {l : Launch} (hG : ev_Good X) (hl : l.stackTraces = false) : ev_Snd X l ev_ms x_X2_find tx_X2_find 28 (i_psh (.int (-1)) 29) := s_iconst dX2_find_28 rfl
theorem s_X2_find_29 {X : ev_E} {l : Launch} (hG : ev_Good X) (hl : l.stackTraces = false) : ev_Snd X l ev_ms x_X2_find tx_X2_find 29 (i_ir (.int)) := s_ireturn rfl dX2_find_29
theorem sa_X2_find {X : ev_E} {l : Launch} (hG : ev_Good X) (hl : l.stackTraces = false) : ∀ q ∈ tb_X2_find X, ev_Snd X l ev_ms x_X2_find tx_X2_find q.1 q.2 := by
  intro q hq
  unfold tb_X2_find at hq
  simp only [List.mem_cons, List.not_mem_nil, or_false] at hq
  rcases hq with rfl | rfl | rfl | rfl | rfl | rfl | rfl | rfl | rfl | rfl | rfl | rfl | rfl | rfl | rfl | rfl | rfl | rfl
  · exact s_X2_find_0 hG hl
  · exact s_X2_find_1 hG hl
  · exact s_X2_find_2 hG hl
  · exact s_X2_find_3 hG hl
  · exact s_X2_find_4 hG hl
  · exact s_X2_find_7 hG hl
  · exact s_X2_find_10 hG hl
  · exact s_X2_find_11 hG hl
  · exact s_X2_find_14 hG hl
  · exact s_X2_find_15 hG hl
  · exact s_X2_find_16 hG hl
  · exact s_X2_find_17 hG hl
  · exact s_X2_find_20 hG hl
  · exact s_X2_find_21 hG hl
  · exact s_X2_find_22 hG hl
  · exact s_X2_find_25 hG hl
  · exact s_X2_find_28 hG hl
  · exact s_X2_find_29 hG hl
def tx_X2_init : ev_X := fun _ _ => some none
noncomputable def tb_X2_init (X : ev_E) : List (Nat × (ev_S → ev_N)) := [(0, i_al 0 1), (1, i_oi 4), (4, i_al 0 5), (5, i_psh (.int (20)) 7), (7, i_na 0 (.int 0) 9), (9, i_pf 7 0 (.array (.int)) 12), (12, i_al 0 13), (13, i_psh (.int (20)) 15), (15, i_na 0 (.int 0) 17), (17, i_pf 7 1 (.array (.int)) 20), (20, i_al 0 21), (21, i_psh (.int (0)) 22), (22, i_pf 7 2 (.int) 25), (25, i_al 0 26), (26, i_psh (.int (0)) 27), (27, i_pf 7 5 (.int) 30), (30, i_al 0 31), (31, i_psh (.int (-1)) 32), (32, i_pf 7 6 (.int) 35), (35, i_al 0 36), (36, i_il 1 37), (37, i_pf 7 3 (.boolean) 40), (40, i_al 0 41), (41, i_il 2 42), (42, i_pf 7 4 (.int) 45), (45, i_vr)]
theorem s_X2_init_0 {X : ev_E} {l : Launch} (hG : ev_Good X) (hl : l.stackTraces = false) : ev_Snd X l ev_ms x_X2_init tx_X2_init 0 (i_al 0 1) := s_aload_n dX2_init_0 rfl
theorem s_X2_init_1 {X : ev_E} {l : Launch} (hG : ev_Good X) (hl : l.stackTraces = false) : ev_Snd X l ev_ms x_X2_init tx_X2_init 1 (i_oi 4) := s_objinit hG w_126 w_88 w_89 dX2_init_1
theorem s_X2_init_4 {X : ev_E} {l : Launch} (hG : ev_Good X) (hl : l.stackTraces = false) : ev_Snd X l ev_ms x_X2_init tx_X2_init 4 (i_al 0 5) := s_aload_n dX2_init_4 rfl
theorem s_X2_init_5 {X : ev_E} {l : Launch} (hG : ev_Good X) (hl : l.stackTraces = false) : ev_Snd X l ev_ms x_X2_init tx_X2_init 5 (i_psh (.int (20)) 7) := s_bipush dX2_init_5 rfl
theorem s_X2_init_7 {X : ev_E} {l : Launch} (hG : ev_Good X) (hl : l.stackTraces = false) : ev_Snd X l ev_ms x_X2_init tx_X2_init 7 (i_na 0 (.int 0) 9) := s_newarray hG (kd := 0) (at' := .int) (Nat.le_of_ble_eq_true rfl) rfl (by decide) rfl dX2_init_7 w_120
theorem s_X2_init_9 {X : ev_E} {l : Launch} (hG : ev_Good X) (hl : l.stackTraces = false) : ev_Snd X l ev_ms x_X2_init tx_X2_init 9 (i_pf 7 0 (.array (.int)) 12) := s_putfieldF hG (ci := 7) (r := (RX2, TX2, 7)) rfl cw_7 ap_7 (k := 0) (Nat.le_of_ble_eq_true rfl) rfl rfl rfl (by decide +kernel) w_127 rfl dX2_init_9
theorem s_X2_init_12 {X : ev_E} {l : Launch} (hG : ev_Good X) (hl : l.stackTraces = false) : ev_Snd X l ev_ms x_X2_init tx_X2_init 12 (i_al 0 13) := s_aload_n dX2_init_12 rfl
theorem s_X2_init_13 {X : ev_E} {l : Launch} (hG : ev_Good X) (hl : l.stackTraces = false) : ev_Snd X l ev_ms x_X2_init tx_X2_init 13 (i_psh (.int (20)) 15) := s_bipush dX2_init_13 rfl
theorem s_X2_init_15 {X : ev_E} {l : Launch} (hG : ev_Good X) (hl : l.stackTraces = false) : ev_Snd X l ev_ms x_X2_init tx_X2_init 15 (i_na 0 (.int 0) 17) := s_newarray hG (kd := 0) (at' := .int) (Nat.le_of_ble_eq_true rfl) rfl (by decide) rfl dX2_init_15 w_120
theorem s_X2_init_17 {X : ev_E} {l : Launch} (hG : ev_Good X) (hl : l.stackTraces = false) : ev_Snd X l ev_ms x_X2_init tx_X2_init 17 (i_pf 7 1 (.array (.int)) 20) := s_putfieldF hG (ci := 7) (r := (RX2, TX2, 7)) rfl cw_7 ap_7 (k := 1) (Nat.le_of_ble_eq_true rfl) rfl rfl rfl (by decide +kernel) w_128 rfl dX2_init_17
theorem s_X2_init_20 {X : ev_E} {l : Launch} (hG : ev_Good X) (hl : l.stackTraces = false) : ev_Snd X l ev_ms x_X2_init tx_X2_init 20 (i_al 0 21) := s_aload_n dX2_init_20 rfl
theorem s_X2_init_21 {X : ev_E} {l : Launch} (hG : ev_Good X) (hl : l.stackTraces = false) : ev_Snd X l ev_ms x_X2_init tx_X2_init 21 (i_psh (.int (0)) 22) := s_iconst dX2_init_21 rfl
theorem s_X2_init_22 {X : ev_E} {l : Launch} (hG : ev_Good X) (hl : l.stackTraces = false) : ev_Snd X l ev_ms x_X2_init tx_X2_init 22 (i_pf 7 2 (.int) 25) := s_putfield hG (ci := 7) (r := (RX2, TX2, 7)) rfl cw_7 ap_7 (k := 2) (Nat.le_of_ble_eq_true rfl) rfl (by decide +kernel) w_129 rfl (Or.inl rfl) dX2_init_22
theorem s_X2_init_25 {X : ev_E} {l : Launch} (hG : ev_Good X) (hl : l.stackTraces = false) : ev_Snd X l ev_ms x_X2_init tx_X2_init 25 (i_al 0 26) := s_aload_n dX2_init_25 rfl
theorem s_X2_init_26 {X : ev_E} {l : Launch} (hG : ev_Good X) (hl : l.stackTraces = false) : ev_Snd X l ev_ms x_X2_init tx_X2_init 26 (i_psh (.int (0)) 27) := s_iconst dX2_init_26 rfl
theorem s_X2_init_27 {X : ev_E} {l : Launch} (hG : ev_Good X) (hl : l.stackTraces = false) : ev_Snd X l ev_ms x_X2_init tx_X2_init 27 (i_pf 7 5 (.int) 30) := s_putfield hG (ci := 7) (r := (RX2, TX2, 7)) rfl cw_7 ap_7 (k := 5) (Nat.le_of_ble_eq_true rfl) rfl (by decide +kernel) w_137 rfl (Or.inl rfl) dX2_init_27
theorem s_X2_init_30 {X : ev_E} {l : Launch} (hG : ev_Good X) (hl : l.stackTraces = false) : ev_Snd X l ev_ms x_X2_init tx_X2_init 30 (i_al 0 31) := s_aload_n dX2_init_30 rfl
theorem s_X2_init_31 {X : ev_E} {l : Launch} (hG : ev_Good X) (hl : l.stackTraces = false) : ev_Snd X l ev_ms x_X2_init tx_X2_init 31 (i_psh (.int (-1)) 32) := s_iconst dX2_init_31 rfl
theorem s_X2_init_32 {X : ev_E} {l : Launch} (hG : ev_Good X) (hl : l.stackTraces = false) : ev_Snd X l ev_ms x_X2_init tx_X2_init 32 (i_pf 7 6 (.int) 35) := s_putfield hG (ci := 7) (r := (RX2, TX2, 7)) rfl cw_7 ap_7 (k := 6) (Nat.le_of_ble_eq_true rfl) rfl (by decide +kernel) w_139 rfl (Or.inl rfl) dX2_init_32
theorem s_X2_init_35 {X : ev_E} {l : Launch} (hG : ev_Good X) (hl : l.stackTraces = false) : ev_Snd X l ev_ms x_X2_init tx_X2_init 35 (i_al 0 36) := s_aload_n dX2_init_35 rfl
theorem s_X2_init_36 {X : ev_E} {l : Launch} (hG : ev_Good X) (hl : l.stackTraces = false) : ev_Snd X l ev_ms x_X2_init tx_X2_init 36 (i_il 1 37) := s_iload_n dX2_init_36 rfl
theorem s_X2_init_37 {X : ev_E} {l : Launch} (hG : ev_Good X) (hl : l.stackTraces = false) : ev_Snd X l ev_ms x_X2_init tx_X2_init 37 (i_pf 7 3 (.boolean) 40) := s_putfield hG (ci := 7) (r := (RX2, TX2, 7)) rfl cw_7 ap_7 (k := 3) (Nat.le_of_ble_eq_true rfl) rfl (by decide +kernel) w_132 rfl (Or.inl rfl) dX2_init_37
theorem s_X2_init_40 {X : ev_E} {l : Launch} (hG : ev_Good X) (hl : l.stackTraces = false) : ev_Snd X l ev_ms x_X2_init tx_X2_init 40 (i_al 0 41) := s_aload_n dX2_init_40 rfl
theorem s_X2_init_41 {X : ev_E} {l : Launch} (hG : ev_Good X) (hl : l.stackTraces = false) : ev_Snd X l ev_ms x_X2_init tx_X2_init 41 (i_il 2 42) := s_iload_n dX2_init_41 rfl
theorem s_X2_init_42 {X : ev_E} {l : Launch} (hG : ev_Good X) (hl : l.stackTraces = false) : ev_Snd X l ev_ms x_X2_init tx_X2_init 42 (i_pf 7 4 (.int) 45) := s_putfield hG (ci := 7) (r := (RX2, TX2, 7)) rfl cw_7 ap_7 (k := 4) (Nat.le_of_ble_eq_true rfl) rfl (by decide +kernel) w_134 rfl (Or.inl rfl) dX2_init_42
theorem s_X2_init_45 {X : ev_E} {l : Launch} (hG : ev_Good X) (hl : l.stackTraces = false) : ev_Snd X l ev_ms x_X2_init tx_X2_init 45 (i_vr) := s_return rfl dX2_init_45
theorem sa_X2_init {X : ev_E} {l : Launch} (hG : ev_Good X) (hl : l.stackTraces = false) : ∀ q ∈ tb_X2_init X, ev_Snd X l ev_ms x_X2_init tx_X2_init q.1 q.2 := by
  intro q hq
  unfold tb_X2_init at hq
  simp only [List.mem_cons, List.not_mem_nil, or_false] at hq
  rcases hq with rfl | rfl | rfl | rfl | rfl | rfl | rfl | rfl | rfl | rfl | rfl | rfl | rfl | rfl | rfl | rfl | rfl | rfl | rfl | rfl | rfl | rfl | rfl | rfl | rfl | rfl
  · exact s_X2_init_0 hG hl
  · exact s_X2_init_1 hG hl
  · exact s_X2_init_4 hG hl
  · exact s_X2_init_5 hG hl
  · exact s_X2_init_7 hG hl
  · exact s_X2_init_9 hG hl
  · exact s_X2_init_12 hG hl
  · exact s_X2_init_13 hG hl
  · exact s_X2_init_15 hG hl
  · exact s_X2_init_17 hG hl
  · exact s_X2_init_20 hG hl
  · exact s_X2_init_21 hG hl
  · exact s_X2_init_22 hG hl
  · exact s_X2_init_25 hG hl
  · exact s_X2_init_26 hG hl
  · exact s_X2_init_27 hG hl
  · exact s_X2_init_30 hG hl
  · exact s_X2_init_31 hG hl
  · exact s_X2_init_32 hG hl
  · exact s_X2_init_35 hG hl
  · exact s_X2_init_36 hG hl
  · exact s_X2_init_37 hG hl
  · exact s_X2_init_40 hG hl
  · exact s_X2_init_41 hG hl
  · exact s_X2_init_42 hG hl
  · exact s_X2_init_45 hG hl
def tx_X2_isAboveMost : ev_X := fun _ _ => some none
noncomputable def tb_X2_isAboveMost (X : ev_E) : List (Nat × (ev_S → ev_N)) := [(0, i_al 0 1), (1, i_gf X 7 4 4), (4, i_psh (.int (-1)) 5), (5, i_iceq 23 8), (8, i_al 0 9), (9, i_gf X 7 2 12), (12, i_al 0 13), (13, i_gf X 7 4 16), (16, i_icle 23 19), (19, i_psh (.int (1)) 20), (20, i_goto 24), (23, i_psh (.int (0)) 24), (24, i_ir (.boolean))]
theorem s_X2_isAboveMost_0 {X : ev_E} {l : Launch} (hG : ev_Good X) (hl : l.stackTraces = false) : ev_Snd X l ev_ms x_X2_isAboveMost tx_X2_isAboveMost 0 (i_al 0 1) := s_aload_n dX2_isAboveMost_0 rfl
theorem s_X2_isAboveMost_1 {X : ev_E} {l : Launch} (hG : ev_Good X) (hl : l.stackTraces = false) : ev_Snd X l ev_ms x_X2_isAboveMost tx_X2_isAboveMost 1 (i_gf X 7 4 4) := s_getfield hG (ci := 7) (r := (RX2, TX2, 7)) rfl cw_7 (k := 4) (Nat.le_of_ble_eq_true rfl) w_134 rfl (Or.inl rfl) dX2_isAboveMost_1
theorem s_X2_isAboveMost_4 {X : ev_E} {l : Launch} (hG : ev_Good X) (hl : l.stackTraces = false) : ev_Snd X l ev_ms x_X2_isAboveMost tx_X2_isAboveMost 4 (i_psh (.int (-1)) 5) := s_iconst dX2_isAboveMost_4 rfl
theorem s_X2_isAboveMost_5 {X : ev_E} {l : Launch} (hG : ev_Good X) (hl : l.stackTraces = false) : ev_Snd X l ev_ms x_X2_isAboveMost tx_X2_isAboveMost 5 (i_iceq 23 8) := s_iceq dX2_isAboveMost_5 rfl
theorem s_X2_isAboveMost_8 {X : ev_E} {l : Launch} (hG : ev_Good X) (hl : l.stackTraces = false) : ev_Snd X l ev_ms x_X2_isAboveMost tx_X2_isAboveMost 8 (i_al 0 9) := s_aload_n dX2_isAboveMost_8 rfl
theorem s_X2_isAboveMost_9 {X : ev_E} {l : Launch} (hG : ev_Good X) (hl : l.stackTraces = false) : ev_Snd X l ev_ms x_X2_isAboveMost tx_X2_isAboveMost 9 (i_gf X 7 2 12) := s_getfield hG (ci := 7) (r := (RX2, TX2, 7)) rfl cw_7 (k := 2) (Nat.le_of_ble_eq_true rfl) w_129 rfl (Or.inl rfl) dX2_isAboveMost_9
theorem s_X2_isAboveMost_12 {X : ev_E} {l : Launch} (hG : ev_Good X) (hl : l.stackTraces = false) : ev_Snd X l ev_ms x_X2_isAboveMost tx_X2_isAboveMost 12 (i_al 0 13) := s_aload_n dX2_isAboveMost_12 rfl
theorem s_X2_isAboveMost_13 {X : ev_E} {l : Launch} (hG : ev_Good X) (hl : l.stackTraces = false) : ev_Snd X l ev_ms x_X2_isAboveMost tx_X2_isAboveMost 13 (i_gf X 7 4 16) := s_getfield hG (ci := 7) (r := (RX2, TX2, 7)) rfl cw_7 (k := 4) (Nat.le_of_ble_eq_true rfl) w_134 rfl (Or.inl rfl) dX2_isAboveMost_13
theorem s_X2_isAboveMost_16 {X : ev_E} {l : Launch} (hG : ev_Good X) (hl : l.stackTraces = false) : ev_Snd X l ev_ms x_X2_isAboveMost tx_X2_isAboveMost 16 (i_icle 23 19) := s_icle dX2_isAboveMost_16 rfl
theorem s_X2_isAboveMost_19 {X : ev_E} {l : Launch} (hG : ev_Good X) (hl : l.stackTraces = false) : ev_Snd X l ev_ms x_X2_isAboveMost tx_X2_isAboveMost 19 (i_psh (.int (1)) 20) := s_iconst dX2_isAboveMost_19 rfl
theorem s_X2_isAboveMost_20 {X : ev_E} {l : Launch} (hG : ev_Good X) (hl : l.stackTraces = false) : ev_Snd X l ev_ms x_X2_isAboveMost tx_X2_isAboveMost 20 (i_goto 24) := s_goto dX2_isAboveMost_20 rfl
theorem s_X2_isAboveMost_23 {X : ev_E} {l : Launch} (hG : ev_Good X) (hl : l.stackTraces = false) : ev_Snd X l ev_ms x_X2_isAboveMost tx_X2_isAboveMost 23 (i_psh (.int (0)) 24) := s_iconst dX2_isAboveMost_23 rfl
theorem s_X2_isAboveMost_24 {X : ev_E} {l : Launch} (hG : ev_Good X) (hl : l.stackTraces = false) : ev_Snd X l ev_ms x_X2_isAboveMost tx_X2_isAboveMost 24 (i_ir (.boolean)) := s_ireturn rfl dX2_isAboveMost_24
theorem sa_X2_isAboveMost {X : ev_E} {l : Launch} (hG : ev_Good X) (hl : l.stackTraces = false) : ∀ q ∈ tb_X2_isAboveMost X, ev_Snd X l ev_ms x_X2_isAboveMost tx_X2_isAboveMost q.1 q.2 := by
  intro q hq
  unfold tb_X2_isAboveMost at hq
  simp only [List.mem_cons, List.not_mem_nil, or_false] at hq
  rcases hq with rfl | rfl | rfl | rfl | rfl | rfl | rfl | rfl | rfl | rfl | rfl | rfl | rfl
  · exact s_X2_isAboveMost_0 hG hl
  · exact s_X2_isAboveMost_1 hG hl
  · exact s_X2_isAboveMost_4 hG hl
  · exact s_X2_isAboveMost_5 hG hl
  · exact s_X2_isAboveMost_8 hG hl
  · exact s_X2_isAboveMost_9 hG hl
  · exact s_X2_isAboveMost_12 hG hl
  · exact s_X2_isAboveMost_13 hG hl
  · exact s_X2_isAboveMost_16 hG hl
  · exact s_X2_isAboveMost_19 hG hl
  · exact s_X2_isAboveMost_20 hG hl
  · exact s_X2_isAboveMost_23 hG hl
  · exact s_X2_isAboveMost_24 hG hl
def tx_X2_isPlace : ev_X := fun _ _ => some none
noncomputable def tb_X2_isPlace (X : ev_E) : List (Nat × (ev_S → ev_N)) := [(0, i_il 1 1), (1, i_iflt 16 4), (4, i_il 1 5), (5, i_al 0 6), (6, i_gf X 7 2 9), (9, i_icge 16 12), (12, i_psh (.int (1)) 13), (13, i_goto 17), (16, i_psh (.int (0)) 17), (17, i_ir (.boolean))]
theorem s_X2_isPlace_0 {X : ev_E} {l : Launch} (hG : ev_Good X) (hl : l.stackTraces = false) : ev_Snd X l ev_ms x_X2_isPlace tx_X2_isPlace 0 (i_il 1 1) := s_iload_n dX2_isPlace_0 rfl
theorem s_X2_isPlace_1 {X : ev_E} {l : Launch} (hG : ev_Good X) (hl : l.stackTraces = false) : ev_Snd X l ev_ms x_X2_isPlace tx_X2_isPlace 1 (i_iflt 16 4) := s_iflt dX2_isPlace_1 rfl
theorem s_X2_isPlace_4 {X : ev_E} {l : Launch} (hG : ev_Good X) (hl : l.stackTraces = false) : ev_Snd X l ev_ms x_X2_isPlace tx_X2_isPlace 4 (i_il 1 5) := s_iload_n dX2_isPlace_4 rfl
theorem s_X2_isPlace_5 {X : ev_E} {l : Launch} (hG : ev_Good X) (hl : l.stackTraces = false) : ev_Snd X l ev_ms x_X2_isPlace tx_X2_isPlace 5 (i_al 0 6) := s_aload_n dX2_isPlace_5 rfl
theorem s_X2_isPlace_6 {X : ev_E} {l : Launch} (hG : ev_Good X) (hl : l.stackTraces = false) : ev_Snd X l ev_ms x_X2_isPlace tx_X2_isPlace 6 (i_gf X 7 2 9) := s_getfield hG (ci := 7) (r := (RX2, TX2, 7)) rfl cw_7 (k := 2) (Nat.le_of_ble_eq_true rfl) w_129 rfl (Or.inl rfl) dX2_isPlace_6
theorem s_X2_isPlace_9 {X : ev_E} {l : Launch} (hG : ev_Good X) (hl : l.stackTraces = false) : ev_Snd X l ev_ms x_X2_isPlace tx_X2_isPlace 9 (i_icge 16 12) := s_icge dX2_isPlace_9 rfl
theorem s_X2_isPlace_12 {X : ev_E} {l : Launch} (hG : ev_Good X) (hl : l.stackTraces = false) : ev_Snd X l ev_ms x_X2_isPlace tx_X2_isPlace 12 (i_psh (.int (1)) 13) := s_iconst dX2_isPlace_12 rfl
theorem s_X2_isPlace_13 {X : ev_E} {l : Launch} (hG : ev_Good X) (hl : l.stackTraces = false) : ev_Snd X l ev_ms x_X2_isPlace tx_X2_isPlace 13 (i_goto 17) := s_goto dX2_isPlace_13 rfl
theorem s_X2_isPlace_16 {X : ev_E} {l : Launch} (hG : ev_Good X) (hl : l.stackTraces = false) : ev_Snd X l ev_ms x_X2_isPlace tx_X2_isPlace 16 (i_psh (.int (0)) 17) := s_iconst dX2_isPlace_16 rfl
theorem s_X2_isPlace_17 {X : ev_E} {l : Launch} (hG : ev_Good X) (hl : l.stackTraces = false) : ev_Snd X l ev_ms x_X2_isPlace tx_X2_isPlace 17 (i_ir (.boolean)) := s_ireturn rfl dX2_isPlace_17
theorem sa_X2_isPlace {X : ev_E} {l : Launch} (hG : ev_Good X) (hl : l.stackTraces = false) : ∀ q ∈ tb_X2_isPlace X, ev_Snd X l ev_ms x_X2_isPlace tx_X2_isPlace q.1 q.2 := by
  intro q hq
  unfold tb_X2_isPlace at hq
  simp only [List.mem_cons, List.not_mem_nil, or_false] at hq
  rcases hq with rfl | rfl | rfl | rfl | rfl | rfl | rfl | rfl | rfl | rfl
  · exact s_X2_isPlace_0 hG hl
  · exact s_X2_isPlace_1 hG hl
  · exact s_X2_isPlace_4 hG hl
  · exact s_X2_isPlace_5 hG hl
  · exact s_X2_isPlace_6 hG hl
  · exact s_X2_isPlace_9 hG hl
  · exact s_X2_isPlace_12 hG hl
  · exact s_X2_isPlace_13 hG hl
  · exact s_X2_isPlace_16 hG hl
  · exact s_X2_isPlace_17 hG hl
def tx_X2_sumOfValues : ev_X := fun _ _ => some none
noncomputable def tb_X2_sumOfValues (X : ev_E) : List (Nat × (ev_S → ev_N)) := [(0, i_psh (.int (0)) 1), (1, i_is 1 2), (2, i_psh (.int (0)) 3), (3, i_is 2 4), (4, i_il 2 5), (5, i_al 0 6), (6, i_gf X 7 2 9), (9, i_icge 27 12), (12, i_il 1 13), (13, i_al 0 14), (14, i_gf X 7 1 17), (17, i_il 2 18), (18, i_ald X ev_tI 19), (19, i_ii (fun a b => a + b) 20), (20, i_is 1 21), (21, i_inc 2 (1) 24), (24, i_goto 4), (27, i_il 1 28), (28, i_ir (.int))]
theorem s_X2_sumOfValues_0 {X : ev_E} {l : Launch} (hG : ev_Good X) (hl : l.stackTraces = false) : ev_Snd X l ev_ms x_X2_sumOfValues tx_X2_sumOfValues 0 (i_psh (.int (0)) 1) := s_iconst dX2_sumOfValues_0 rfl
theorem s_X2_sumOfValues_1 {X : ev_E} {l : Launch} (hG : ev_Good X) (hl : l.stackTraces = false) : ev_Snd X l ev_ms x_X2_sumOfValues tx_X2_sumOfValues 1 (i_is 1 2) := s_istore_n dX2_sumOfValues_1 rfl (Nat.le_of_ble_eq_true rfl)
theorem s_X2_sumOfValues_2 {X : ev_E} {l : Launch} (hG : ev_Good X) (hl : l.stackTraces = false) : ev_Snd X l ev_ms x_X2_sumOfValues tx_X2_sumOfValues 2 (i_psh (.int (0)) 3) := s_iconst dX2_sumOfValues_2 rfl
theorem s_X2_sumOfValues_3 {X : ev_E} {l : Launch} (hG : ev_Good X) (hl : l.stackTraces = false) : ev_Snd X l ev_ms x_X2_sumOfValues tx_X2_sumOfValues 3 (i_is 2 4) := s_istore_n dX2_sumOfValues_3 rfl (Nat.le_of_ble_eq_true rfl)
theorem s_X2_sumOfValues_4 {X : ev_E} {l : Launch} (hG : ev_Good X) (hl : l.stackTraces = false) : ev_Snd X l ev_ms x_X2_sumOfValues tx_X2_sumOfValues 4 (i_il 2 5) := s_iload_n dX2_sumOfValues_4 rfl
theorem s_X2_sumOfValues_5 {X : ev_E} {l : Launch} (hG : ev_Good X) (hl : l.stackTraces = false) : ev_Snd X l ev_ms x_X2_sumOfValues tx_X2_sumOfValues 5 (i_al 0 6) := s_aload_n dX2_sumOfValues_5 rfl
theorem s_X2_sumOfValues_6 {X : ev_E} {l : Launch} (hG : ev_Good X) (hl : l.stackTraces = false) : ev_Snd X l ev_ms x_X2_sumOfValues tx_X2_sumOfValues 6 (i_gf X 7 2 9) := s_getfield hG (ci := 7) (r := (RX2, TX2, 7)) rfl cw_7 (k := 2) (Nat.le_of_ble_eq_true rfl) w_129 rfl (Or.inl rfl) dX2_sumOfValues_6
theorem s_X2_sumOfValues_9 {X : ev_E} {l : Launch} (hG : ev_Good X) (hl : l.stackTraces = false) : ev_Snd X l ev_ms x_X2_sumOfValues tx_X2_sumOfValues 9 (i_icge 27 12) := s_icge dX2_sumOfValues_9 rfl
theorem s_X2_sumOfValues_12 {X : ev_E} {l : Launch} (hG : ev_Good X) (hl : l.stackTraces = false) : ev_Snd X l ev_ms x_X2_sumOfValues tx_X2_sumOfValues 12 (i_il 1 13) := s_iload_n dX2_sumOfValues_12 rfl
theorem s_X2_sumOfValues_13 {X : ev_E} {l : Launch} (hG : ev_Good X) (hl : l.stackTraces = false) : ev_Snd X l ev_ms x_X2_sumOfValues tx_X2_sumOfValues 13 (i_al 0 14) := s_aload_n dX2_sumOfValues_13 rfl
theorem s_X2_sumOfValues_14 {X : ev_E} {l : Launch} (hG : ev_Good X) (hl : l.stackTraces = false) : ev_Snd X l ev_ms x_X2_sumOfValues tx_X2_sumOfValues 14 (i_gf X 7 1 17) := s_getfield hG (ci := 7) (r := (RX2, TX2, 7)) rfl cw_7 (k := 1) (Nat.le_of_ble_eq_true rfl) w_128 rfl (Or.inl rfl) dX2_sumOfValues_14
theorem s_X2_sumOfValues_17 {X : ev_E} {l : Launch} (hG : ev_Good X) (hl : l.stackTraces = false) : ev_Snd X l ev_ms x_X2_sumOfValues tx_X2_sumOfValues 17 (i_il 2 18) := s_iload_n dX2_sumOfValues_17 rfl
theorem s_X2_sumOfValues_18 {X : ev_E} {l : Launch} (hG : ev_Good X) (hl : l.stackTraces = false) : ev_Snd X l ev_ms x_X2_sumOfValues tx_X2_sumOfValues 18 (i_ald X ev_tI 19) := s_iaload hG dX2_sumOfValues_18
theorem s_X2_sumOfValues_19 {X : ev_E} {l : Launch} (hG : ev_Good X) (hl : l.stackTraces = false) : ev_Snd X l ev_ms x_X2_sumOfValues tx_X2_sumOfValues 19 (i_ii (fun a b => a + b) 20) := s_iadd dX2_sumOfValues_19
theorem s_X2_sumOfValues_20 {X : ev_E} {l : Launch} (hG : ev_Good X) (hl : l.stackTraces = false) : ev_Snd X l ev_ms x_X2_sumOfValues tx_X2_sumOfValues 20 (i_is 1 21) := s_istore_n dX2_sumOfValues_20 rfl (Nat.le_of_ble_eq_true rfl)
theorem s_X2_sumOfValues_21 {X : ev_E} {l : Launch} (hG : ev_Good X) (hl : l.stackTraces = false) : ev_Snd X l ev_ms x_X2_sumOfValues tx_X2_sumOfValues 21 (i_inc 2 (1) 24) := s_iinc dX2_sumOfValues_21 rfl (Nat.le_of_ble_eq_true rfl)
theorem s_X2_sumOfValues_24 {X : ev_E} {l : Launch} (hG : ev_Good X) (hl : l.stackTraces = false) : ev_Snd X l ev_ms x_X2_sumOfValues tx_X2_sumOfValues 24 (i_goto 4) := s_goto dX2_sumOfValues_24 rfl
theorem s_X2_sumOfValues_27 {X : ev_E} {l : Launch} (hG : ev_Good X) (hl : l.stackTraces = false) : ev_Snd X l ev_ms x_X2_sumOfValues tx_X2_sumOfValues 27 (i_il 1 28) := s_iload_n dX2_sumOfValues_27 rfl
theorem s_X2_sumOfValues_28 {X : ev_E} {l : Launch} (hG : ev_Good X) (hl : l.stackTraces = false) : ev_Snd X l ev_ms x_X2_sumOfValues tx_X2_sumOfValues 28 (i_ir (.int)) := s_ireturn rfl dX2_sumOfValues_28
theorem sa_X2_sumOfValues {X : ev_E} {l : Launch} (hG : ev_Good X) (hl : l.stackTraces = false) : ∀ q ∈ tb_X2_sumOfValues X, ev_Snd X l ev_ms x_X2_sumOfValues tx_X2_sumOfValues q.1 q.2 := by
  intro q hq
  unfold tb_X2_sumOfValues at hq
  simp only [List.mem_cons, List.not_mem_nil, or_false] at hq
  rcases hq with rfl | rfl | rfl | rfl | rfl | rfl | rfl | rfl | rfl | rfl | rfl | rfl | rfl | rfl | rfl | rfl | rfl | rfl | rfl
  · exact s_X2_sumOfValues_0 hG hl
  · exact s_X2_sumOfValues_1 hG hl
  · exact s_X2_sumOfValues_2 hG hl
  · exact s_X2_sumOfValues_3 hG hl
  · exact s_X2_sumOfValues_4 hG hl
  · exact s_X2_sumOfValues_5 hG hl
  · exact s_X2_sumOfValues_6 hG hl
  · exact s_X2_sumOfValues_9 hG hl
  · exact s_X2_sumOfValues_12 hG hl
  · exact s_X2_sumOfValues_13 hG hl
  · exact s_X2_sumOfValues_14 hG hl
  · exact s_X2_sumOfValues_17 hG hl
  · exact s_X2_sumOfValues_18 hG hl
  · exact s_X2_sumOfValues_19 hG hl
  · exact s_X2_sumOfValues_20 hG hl
  · exact s_X2_sumOfValues_21 hG hl
  · exact s_X2_sumOfValues_24 hG hl
  · exact s_X2_sumOfValues_27 hG hl
  · exact s_X2_sumOfValues_28 hG hl
def tx_X4_begin : ev_X := fun _ _ => some none
noncomputable def tb_X4_begin (X : ev_E) : List (Nat × (ev_S → ev_N)) := [(0, i_al 0 1), (1, i_psh (.int (1)) 2), (2, i_pf 9 1 (.boolean) 5), (5, i_al 0 6), (6, i_psh (.int (0)) 7), (7, i_pf 9 2 (.boolean) 10), (10, i_al 0 11), (11, i_psh (.int (0)) 12), (12, i_pf 9 3 (.boolean) 15), (15, i_al 0 16), (16, i_il 1 17), (17, i_pf 9 4 (.int) 20), (20, i_al 0 21), (21, i_psh (.int (0)) 22), (22, i_pf 9 5 (.int) 25), (25, i_vr)]
theorem s_X4_begin_0 {X : ev_E} {l : Launch} (hG : ev_Good X) (hl : l.stackTraces = false) : ev_Snd X l ev_ms x_X4_begin tx_X4_begin 0 (i_al 0 1) := s_aload_n dX4_begin_0 rfl
theorem s_X4_begin_1 {X : ev_E} {l : Launch} (hG : ev_Good X) (hl : l.stackTraces = false) : ev_Snd X l ev_ms x_X4_begin tx_X4_begin 1 (i_psh (.int (1)) 2) := s_iconst dX4_begin_1 rfl
theorem s_X4_begin_2 {X : ev_E} {l : Launch} (hG : ev_Good X) (hl : l.stackTraces = false) : ev_Snd X l ev_ms x_X4_begin tx_X4_begin 2 (i_pf 9 1 (.boolean) 5) := s_putfield hG (ci := 9) (r := (RX4, TX4, 6)) rfl cw_9 ap_9 (k := 1) (Nat.le_of_ble_eq_true rfl) rfl (by decide +kernel) w_170 rfl (Or.inl rfl) dX4_begin_2
theorem s_X4_begin_5 {X : ev_E} {l : Launch} (hG : ev_Good X) (hl : l.stackTraces = false) : ev_Snd X l ev_ms x_X4_begin tx_X4_begin 5 (i_al 0 6) := s_aload_n dX4_begin_5 rfl
theorem s_X4_begin_6 {X : ev_E} {l : Launch} (hG : ev_Good X) (hl : l.stackTraces = false) : ev_Snd X l ev_ms x_X4_begin tx_X4_begin 6 (i_psh (.int (0)) 7) := s_iconst dX4_begin_6 rfl
theorem s_X4_begin_7 {X : ev_E} {l : Launch} (hG : ev_Good X) (hl : l.stackTraces = false) : ev_Snd X l ev_ms x_X4_begin tx_X4_begin 7 (i_pf 9 2 (.boolean) 10) := s_putfield hG (ci := 9) (r := (RX4, TX4, 6)) rfl cw_9 ap_9 (k := 2) (Nat.le_of_ble_eq_true rfl) rfl (by decide +kernel) w_171 rfl (Or.inl rfl) dX4_begin_7
theorem s_X4_begin_10 {X : ev_E} {l : Launch} (hG : ev_Good X) (hl : l.stackTraces = false) : ev_Snd X l ev_ms x_X4_begin tx_X4_begin 10 (i_al 0 11) := s_aload_n dX4_begin_10 rfl
theorem s_X4_begin_11 {X : ev_E} {l : Launch} (hG : ev_Good X) (hl : l.stackTraces = false) : ev_Snd X l ev_ms x_X4_begin tx_X4_begin 11 (i_psh (.int (0)) 12) := s_iconst dX4_begin_11 rfl
theorem s_X4_begin_12 {X : ev_E} {l : Launch} (hG : ev_Good X) (hl : l.stackTraces = false) : ev_Snd X l ev_ms x_X4_begin tx_X4_begin 12 (i_pf 9 3 (.boolean) 15) := s_putfield hG (ci := 9) (r := (RX4, TX4, 6)) rfl cw_9 ap_9 (k := 3) (Nat.le_of_ble_eq_true rfl) rfl (by decide +kernel) w_172 rfl (Or.inl rfl) dX4_begin_12
theorem s_X4_begin_15 {X : ev_E} {l : Launch} (hG : ev_Good X) (hl : l.stackTraces = false) : ev_Snd X l ev_ms x_X4_begin tx_X4_begin 15 (i_al 0 16) := s_aload_n dX4_begin_15 rfl
theorem s_X4_begin_16 {X : ev_E} {l : Launch} (hG : ev_Good X) (hl : l.stackTraces = false) : ev_Snd X l ev_ms x_X4_begin tx_X4_begin 16 (i_il 1 17) := s_iload_n dX4_begin_16 rfl
theorem s_X4_begin_17 {X : ev_E} {l : Launch} (hG : ev_Good X) (hl : l.stackTraces = false) : ev_Snd X l ev_ms x_X4_begin tx_X4_begin 17 (i_pf 9 4 (.int) 20) := s_putfield hG (ci := 9) (r := (RX4, TX4, 6)) rfl cw_9 ap_9 (k := 4) (Nat.le_of_ble_eq_true rfl) rfl (by decide +kernel) w_173 rfl (Or.inl rfl) dX4_begin_17
theorem s_X4_begin_20 {X : ev_E} {l : Launch} (hG : ev_Good X) (hl : l.stackTraces = false) : ev_Snd X l ev_ms x_X4_begin tx_X4_begin 20 (i_al 0 21) := s_aload_n dX4_begin_20 rfl
theorem s_X4_begin_21 {X : ev_E} {l : Launch} (hG : ev_Good X) (hl : l.stackTraces = false) : ev_Snd X l ev_ms x_X4_begin tx_X4_begin 21 (i_psh (.int (0)) 22) := s_iconst dX4_begin_21 rfl
theorem s_X4_begin_22 {X : ev_E} {l : Launch} (hG : ev_Good X) (hl : l.stackTraces = false) : ev_Snd X l ev_ms x_X4_begin tx_X4_begin 22 (i_pf 9 5 (.int) 25) := s_putfield hG (ci := 9) (r := (RX4, TX4, 6)) rfl cw_9 ap_9 (k := 5) (Nat.le_of_ble_eq_true rfl) rfl (by decide +kernel) w_174 rfl (Or.inl rfl) dX4_begin_22
theorem s_X4_begin_25 {X : ev_E} {l : Launch} (hG : ev_Good X) (hl : l.stackTraces = false) : ev_Snd X l ev_ms x_X4_begin tx_X4_begin 25 (i_vr) := s_return rfl dX4_begin_25
theorem sa_X4_begin {X : ev_E} {l : Launch} (hG : ev_Good X) (hl : l.stackTraces = false) : ∀ q ∈ tb_X4_begin X, ev_Snd X l ev_ms x_X4_begin tx_X4_begin q.1 q.2 := by
  intro q hq
  unfold tb_X4_begin at hq
  simp only [List.mem_cons, List.not_mem_nil, or_false] at hq
  rcases hq with rfl | rfl | rfl | rfl | rfl | rfl | rfl | rfl | rfl | rfl | rfl | rfl | rfl | rfl | rfl | rfl
  · exact s_X4_begin_0 hG hl
  · exact s_X4_begin_1 hG hl
  · exact s_X4_begin_2 hG hl
  · exact s_X4_begin_5 hG hl
  · exact s_X4_begin_6 hG hl
  · exact s_X4_begin_7 hG hl
  · exact s_X4_begin_10 hG hl
  · exact s_X4_begin_11 hG hl
  · exact s_X4_begin_12 hG hl
  · exact s_X4_begin_15 hG hl
  · exact s_X4_begin_16 hG hl
  · exact s_X4_begin_17 hG hl
  · exact s_X4_begin_20 hG hl
  · exact s_X4_begin_21 hG hl
  · exact s_X4_begin_22 hG hl
  · exact s_X4_begin_25 hG hl
def tx_X4_init : ev_X := fun _ _ => some none
noncomputable def tb_X4_init (X : ev_E) : List (Nat × (ev_S → ev_N)) := [(0, i_al 0 1), (1, i_oi 4), (4, i_al 0 5), (5, i_psh (.int (0)) 6), (6, i_pf 9 1 (.boolean) 9), (9, i_al 0 10), (10, i_psh (.int (0)) 11), (11, i_pf 9 2 (.boolean) 14), (14, i_al 0 15), (15, i_psh (.int (0)) 16), (16, i_pf 9 3 (.boolean) 19), (19, i_al 0 20), (20, i_psh (.int (0)) 21), (21, i_pf 9 4 (.int) 24), (24, i_al 0 25), (25, i_psh (.int (0)) 26), (26, i_pf 9 5 (.int) 29), (29, i_al 0 30), (30, i_al 1 31), (31, i_pf 9 0 (.object "Lastasked$Row") 34), (34, i_vr)]
theorem s_X4_init_0 {X : ev_E} {l : Launch} (hG : ev_Good X) (hl : l.stackTraces = false) : ev_Snd X l ev_ms x_X4_init tx_X4_init 0 (i_al 0 1) := s_aload_n dX4_init_0 rfl
theorem s_X4_init_1 {X : ev_E} {l : Launch} (hG : ev_Good X) (hl : l.stackTraces = false) : ev_Snd X l ev_ms x_X4_init tx_X4_init 1 (i_oi 4) := s_objinit hG w_168 w_88 w_89 dX4_init_1
theorem s_X4_init_4 {X : ev_E} {l : Launch} (hG : ev_Good X) (hl : l.stackTraces = false) : ev_Snd X l ev_ms x_X4_init tx_X4_init 4 (i_al 0 5) := s_aload_n dX4_init_4 rfl
theorem s_X4_init_5 {X : ev_E} {l : Launch} (hG : ev_Good X) (hl : l.stackTraces = false) : ev_Snd X l ev_ms x_X4_init tx_X4_init 5 (i_psh (.int (0)) 6) := s_iconst dX4_init_5 rfl
theorem s_X4_init_6 {X : ev_E} {l : Launch} (hG : ev_Good X) (hl : l.stackTraces = false) : ev_Snd X l ev_ms x_X4_init tx_X4_init 6 (i_pf 9 1 (.boolean) 9) := s_putfield hG (ci := 9) (r := (RX4, TX4, 6)) rfl cw_9 ap_9 (k := 1) (Nat.le_of_ble_eq_true rfl) rfl (by decide +kernel) w_170 rfl (Or.inl rfl) dX4_init_6
theorem s_X4_init_9 {X : ev_E} {l : Launch} (hG : ev_Good X) (hl : l.stackTraces = false) : ev_Snd X l ev_ms x_X4_init tx_X4_init 9 (i_al 0 10) := s_aload_n dX4_init_9 rfl
theorem s_X4_init_10 {X : ev_E} {l : Launch} (hG : ev_Good X) (hl : l.stackTraces = false) : ev_Snd X l ev_ms x_X4_init tx_X4_init 10 (i_psh (.int (0)) 11) := s_iconst dX4_init_10 rfl
theorem s_X4_init_11 {X : ev_E} {l : Launch} (hG : ev_Good X) (hl : l.stackTraces = false) : ev_Snd X l ev_ms x_X4_init tx_X4_init 11 (i_pf 9 2 (.boolean) 14) := s_putfield hG (ci := 9) (r := (RX4, TX4, 6)) rfl cw_9 ap_9 (k := 2) (Nat.le_of_ble_eq_true rfl) rfl (by decide +kernel) w_171 rfl (Or.inl rfl) dX4_init_11
theorem s_X4_init_14 {X : ev_E} {l : Launch} (hG : ev_Good X) (hl : l.stackTraces = false) : ev_Snd X l ev_ms x_X4_init tx_X4_init 14 (i_al 0 15) := s_aload_n dX4_init_14 rfl
theorem s_X4_init_15 {X : ev_E} {l : Launch} (hG : ev_Good X) (hl : l.stackTraces = false) : ev_Snd X l ev_ms x_X4_init tx_X4_init 15 (i_psh (.int (0)) 16) := s_iconst dX4_init_15 rfl
theorem s_X4_init_16 {X : ev_E} {l : Launch} (hG : ev_Good X) (hl : l.stackTraces = false) : ev_Snd X l ev_ms x_X4_init tx_X4_init 16 (i_pf 9 3 (.boolean) 19) := s_putfield hG (ci := 9) (r := (RX4, TX4, 6)) rfl cw_9 ap_9 (k := 3) (Nat.le_of_ble_eq_true rfl) rfl (by decide +kernel) w_172 rfl (Or.inl rfl) dX4_init_16
theorem s_X4_init_19 {X : ev_E} {l : Launch} (hG : ev_Good X) (hl : l.stackTraces = false) : ev_Snd X l ev_ms x_X4_init tx_X4_init 19 (i_al 0 20) := s_aload_n dX4_init_19 rfl
theorem s_X4_init_20 {X : ev_E} {l : Launch} (hG : ev_Good X) (hl : l.stackTraces = false) : ev_Snd X l ev_ms x_X4_init tx_X4_init 20 (i_psh (.int (0)) 21) := s_iconst dX4_init_20 rfl
theorem s_X4_init_21 {X : ev_E} {l : Launch} (hG : ev_Good X) (hl : l.stackTraces = false) : ev_Snd X l ev_ms x_X4_init tx_X4_init 21 (i_pf 9 4 (.int) 24) := s_putfield hG (ci := 9) (r := (RX4, TX4, 6)) rfl cw_9 ap_9 (k := 4) (Nat.le_of_ble_eq_true rfl) rfl (by decide +kernel) w_173 rfl (Or.inl rfl) dX4_init_21
theorem s_X4_init_24 {X : ev_E} {l : Launch} (hG : ev_Good X) (hl : l.stackTraces = false) : ev_Snd X l ev_ms x_X4_init tx_X4_init 24 (i_al 0 25) := s_aload_n dX4_init_24 rfl
theorem s_X4_init_25 {X : ev_E} {l : Launch} (hG : ev_Good X) (hl : l.stackTraces = false) : ev_Snd X l ev_ms x_X4_init tx_X4_init 25 (i_psh (.int (0)) 26) := s_iconst dX4_init_25 rfl
theorem s_X4_init_26 {X : ev_E} {l : Launch} (hG : ev_Good X) (hl : l.stackTraces = false) : ev_Snd X l ev_ms x_X4_init tx_X4_init 26 (i_pf 9 5 (.int) 29) := s_putfield hG (ci := 9) (r := (RX4, TX4, 6)) rfl cw_9 ap_9 (k := 5) (Nat.le_of_ble_eq_true rfl) rfl (by decide +kernel) w_174 rfl (Or.inl rfl) dX4_init_26
theorem s_X4_init_29 {X : ev_E} {l : Launch} (hG : ev_Good X) (hl : l.stackTraces = false) : ev_Snd X l ev_ms x_X4_init tx_X4_init 29 (i_al 0 30) := s_aload_n dX4_init_29 rfl
theorem s_X4_init_30 {X : ev_E} {l : Launch} (hG : ev_Good X) (hl : l.stackTraces = false) : ev_Snd X l ev_ms x_X4_init tx_X4_init 30 (i_al 1 31) := s_aload_n dX4_init_30 rfl
theorem s_X4_init_31 {X : ev_E} {l : Launch} (hG : ev_Good X) (hl : l.stackTraces = false) : ev_Snd X l ev_ms x_X4_init tx_X4_init 31 (i_pf 9 0 (.object "Lastasked$Row") 34) := s_putfieldF hG (ci := 9) (r := (RX4, TX4, 6)) rfl cw_9 ap_9 (k := 0) (Nat.le_of_ble_eq_true rfl) rfl rfl rfl (by decide +kernel) w_169 rfl dX4_init_31
theorem s_X4_init_34 {X : ev_E} {l : Launch} (hG : ev_Good X) (hl : l.stackTraces = false) : ev_Snd X l ev_ms x_X4_init tx_X4_init 34 (i_vr) := s_return rfl dX4_init_34
theorem sa_X4_init {X : ev_E} {l : Launch} (hG : ev_Good X) (hl : l.stackTraces = false) : ∀ q ∈ tb_X4_init X, ev_Snd X l ev_ms x_X4_init tx_X4_init q.1 q.2 := by
  intro q hq
  unfold tb_X4_init at hq
  simp only [List.mem_cons, List.not_mem_nil, or_false] at hq
  rcases hq with rfl | rfl | rfl | rfl | rfl | rfl | rfl | rfl | rfl | rfl | rfl | rfl | rfl | rfl | rfl | rfl | rfl | rfl | rfl | rfl | rfl
  · exact s_X4_init_0 hG hl
  · exact s_X4_init_1 hG hl
  · exact s_X4_init_4 hG hl
  · exact s_X4_init_5 hG hl
  · exact s_X4_init_6 hG hl
  · exact s_X4_init_9 hG hl
  · exact s_X4_init_10 hG hl
  · exact s_X4_init_11 hG hl
  · exact s_X4_init_14 hG hl
  · exact s_X4_init_15 hG hl
  · exact s_X4_init_16 hG hl
  · exact s_X4_init_19 hG hl
  · exact s_X4_init_20 hG hl
  · exact s_X4_init_21 hG hl
  · exact s_X4_init_24 hG hl
  · exact s_X4_init_25 hG hl
  · exact s_X4_init_26 hG hl
  · exact s_X4_init_29 hG hl
  · exact s_X4_init_30 hG hl
  · exact s_X4_init_31 hG hl
  · exact s_X4_init_34 hG hl
def tx_X4_isOutdated : ev_X := fun _ _ => some none
noncomputable def tb_X4_isOutdated (X : ev_E) : List (Nat × (ev_S → ev_N)) := [(0, i_al 0 1), (1, i_gf X 9 1 4), (4, i_ifeq 18 7), (7, i_al 0 8), (8, i_gf X 9 2 11), (11, i_ifeq 18 14), (14, i_psh (.int (1)) 15), (15, i_goto 19), (18, i_psh (.int (0)) 19), (19, i_ir (.boolean))]
theorem s_X4_isOutdated_0 {X : ev_E} {l : Launch} (hG : ev_Good X) (hl : l.stackTraces = false) : ev_Snd X l ev_ms x_X4_isOutdated tx_X4_isOutdated 0 (i_al 0 1) := s_aload_n dX4_isOutdated_0 rfl
theorem s_X4_isOutdated_1 {X : ev_E} {l : Launch} (hG : ev_Good X) (hl : l.stackTraces = false) : ev_Snd X l ev_ms x_X4_isOutdated tx_X4_isOutdated 1 (i_gf X 9 1 4) := s_getfield hG (ci := 9) (r := (RX4, TX4, 6)) rfl cw_9 (k := 1) (Nat.le_of_ble_eq_true rfl) w_170 rfl (Or.inl rfl) dX4_isOutdated_1
theorem s_X4_isOutdated_4 {X : ev_E} {l : Launch} (hG : ev_Good X) (hl : l.stackTraces = false) : ev_Snd X l ev_ms x_X4_isOutdated tx_X4_isOutdated 4 (i_ifeq 18 7) := s_ifeq dX4_isOutdated_4 rfl
theorem s_X4_isOutdated_7 {X : ev_E} {l : Launch} (hG : ev_Good X) (hl : l.stackTraces = false) : ev_Snd X l ev_ms x_X4_isOutdated tx_X4_isOutdated 7 (i_al 0 8) := s_aload_n dX4_isOutdated_7 rfl
theorem s_X4_isOutdated_8 {X : ev_E} {l : Launch} (hG : ev_Good X) (hl : l.stackTraces = false) : ev_Snd X l ev_ms x_X4_isOutdated tx_X4_isOutdated 8 (i_gf X 9 2 11) := s_getfield hG (ci := 9) (r := (RX4, TX4, 6)) rfl cw_9 (k := 2) (Nat.le_of_ble_eq_true rfl) w_171 rfl (Or.inl rfl) dX4_isOutdated_8
theorem s_X4_isOutdated_11 {X : ev_E} {l : Launch} (hG : ev_Good X) (hl : l.stackTraces = false) : ev_Snd X l ev_ms x_X4_isOutdated tx_X4_isOutdated 11 (i_ifeq 18 14) := s_ifeq dX4_isOutdated_11 rfl
theorem s_X4_isOutdated_14 {X : ev_E} {l : Launch} (hG : ev_Good X) (hl : l.stackTraces = false) : ev_Snd X l ev_ms x_X4_isOutdated tx_X4_isOutdated 14 (i_psh (.int (1)) 15) := s_iconst dX4_isOutdated_14 rfl
theorem s_X4_isOutdated_15 {X : ev_E} {l : Launch} (hG : ev_Good X) (hl : l.stackTraces = false) : ev_Snd X l ev_ms x_X4_isOutdated tx_X4_isOutdated 15 (i_goto 19) := s_goto dX4_isOutdated_15 rfl
theorem s_X4_isOutdated_18 {X : ev_E} {l : Launch} (hG : ev_Good X) (hl : l.stackTraces = false) : ev_Snd X l ev_ms x_X4_isOutdated tx_X4_isOutdated 18 (i_psh (.int (0)) 19) := s_iconst dX4_isOutdated_18 rfl
theorem s_X4_isOutdated_19 {X : ev_E} {l : Launch} (hG : ev_Good X) (hl : l.stackTraces = false) : ev_Snd X l ev_ms x_X4_isOutdated tx_X4_isOutdated 19 (i_ir (.boolean)) := s_ireturn rfl dX4_isOutdated_19
theorem sa_X4_isOutdated {X : ev_E} {l : Launch} (hG : ev_Good X) (hl : l.stackTraces = false) : ∀ q ∈ tb_X4_isOutdated X, ev_Snd X l ev_ms x_X4_isOutdated tx_X4_isOutdated q.1 q.2 := by
  intro q hq
  unfold tb_X4_isOutdated at hq
  simp only [List.mem_cons, List.not_mem_nil, or_false] at hq
  rcases hq with rfl | rfl | rfl | rfl | rfl | rfl | rfl | rfl | rfl | rfl
  · exact s_X4_isOutdated_0 hG hl
  · exact s_X4_isOutdated_1 hG hl
  · exact s_X4_isOutdated_4 hG hl
  · exact s_X4_isOutdated_7 hG hl
  · exact s_X4_isOutdated_8 hG hl
  · exact s_X4_isOutdated_11 hG hl
  · exact s_X4_isOutdated_14 hG hl
  · exact s_X4_isOutdated_15 hG hl
  · exact s_X4_isOutdated_18 hG hl
  · exact s_X4_isOutdated_19 hG hl
def tx_X4_isUsable : ev_X := fun _ _ => some none
noncomputable def tb_X4_isUsable (X : ev_E) : List (Nat × (ev_S → ev_N)) := [(0, i_al 0 1), (1, i_gf X 9 1 4), (4, i_ifeq 18 7), (7, i_al 0 8), (8, i_gf X 9 2 11), (11, i_ifne 18 14), (14, i_psh (.int (1)) 15), (15, i_goto 19), (18, i_psh (.int (0)) 19), (19, i_ir (.boolean))]
theorem s_X4_isUsable_0 {X : ev_E} {l : Launch} (hG : ev_Good X) (hl : l.stackTraces = false) : ev_Snd X l ev_ms x_X4_isUsable tx_X4_isUsable 0 (i_al 0 1) := s_aload_n dX4_isUsable_0 rfl
theorem s_X4_isUsable_1 {X : ev_E} {l : Launch} (hG : ev_Good X) (hl : l.stackTraces = false) : ev_Snd X l ev_ms x_X4_isUsable tx_X4_isUsable 1 (i_gf X 9 1 4) := s_getfield hG (ci := 9) (r := (RX4, TX4, 6)) rfl cw_9 (k := 1) (Nat.le_of_ble_eq_true rfl) w_170 rfl (Or.inl rfl) dX4_isUsable_1
theorem s_X4_isUsable_4 {X : ev_E} {l : Launch} (hG : ev_Good X) (hl : l.stackTraces = false) : ev_Snd X l ev_ms x_X4_isUsable tx_X4_isUsable 4 (i_ifeq 18 7) := s_ifeq dX4_isUsable_4 rfl
theorem s_X4_isUsable_7 {X : ev_E} {l : Launch} (hG : ev_Good X) (hl : l.stackTraces = false) : ev_Snd X l ev_ms x_X4_isUsable tx_X4_isUsable 7 (i_al 0 8) := s_aload_n dX4_isUsable_7 rfl
theorem s_X4_isUsable_8 {X : ev_E} {l : Launch} (hG : ev_Good X) (hl : l.stackTraces = false) : ev_Snd X l ev_ms x_X4_isUsable tx_X4_isUsable 8 (i_gf X 9 2 11) := s_getfield hG (ci := 9) (r := (RX4, TX4, 6)) rfl cw_9 (k := 2) (Nat.le_of_ble_eq_true rfl) w_171 rfl (Or.inl rfl) dX4_isUsable_8
theorem s_X4_isUsable_11 {X : ev_E} {l : Launch} (hG : ev_Good X) (hl : l.stackTraces = false) : ev_Snd X l ev_ms x_X4_isUsable tx_X4_isUsable 11 (i_ifne 18 14) := s_ifne dX4_isUsable_11 rfl
theorem s_X4_isUsable_14 {X : ev_E} {l : Launch} (hG : ev_Good X) (hl : l.stackTraces = false) : ev_Snd X l ev_ms x_X4_isUsable tx_X4_isUsable 14 (i_psh (.int (1)) 15) := s_iconst dX4_isUsable_14 rfl
theorem s_X4_isUsable_15 {X : ev_E} {l : Launch} (hG : ev_Good X) (hl : l.stackTraces = false) : ev_Snd X l ev_ms x_X4_isUsable tx_X4_isUsable 15 (i_goto 19) := s_goto dX4_isUsable_15 rfl
theorem s_X4_isUsable_18 {X : ev_E} {l : Launch} (hG : ev_Good X) (hl : l.stackTraces = false) : ev_Snd X l ev_ms x_X4_isUsable tx_X4_isUsable 18 (i_psh (.int (0)) 19) := s_iconst dX4_isUsable_18 rfl
theorem s_X4_isUsable_19 {X : ev_E} {l : Launch} (hG : ev_Good X) (hl : l.stackTraces = false) : ev_Snd X l ev_ms x_X4_isUsable tx_X4_isUsable 19 (i_ir (.boolean)) := s_ireturn rfl dX4_isUsable_19
theorem sa_X4_isUsable {X : ev_E} {l : Launch} (hG : ev_Good X) (hl : l.stackTraces = false) : ∀ q ∈ tb_X4_isUsable X, ev_Snd X l ev_ms x_X4_isUsable tx_X4_isUsable q.1 q.2 := by
  intro q hq
  unfold tb_X4_isUsable at hq
  simp only [List.mem_cons, List.not_mem_nil, or_false] at hq
  rcases hq with rfl | rfl | rfl | rfl | rfl | rfl | rfl | rfl | rfl | rfl
  · exact s_X4_isUsable_0 hG hl
  · exact s_X4_isUsable_1 hG hl
  · exact s_X4_isUsable_4 hG hl
  · exact s_X4_isUsable_7 hG hl
  · exact s_X4_isUsable_8 hG hl
  · exact s_X4_isUsable_11 hG hl
  · exact s_X4_isUsable_14 hG hl
  · exact s_X4_isUsable_15 hG hl
  · exact s_X4_isUsable_18 hG hl
  · exact s_X4_isUsable_19 hG hl
def tx_X4_outdate : ev_X := fun _ _ => some none
noncomputable def tb_X4_outdate (X : ev_E) : List (Nat × (ev_S → ev_N)) := [(0, i_al 0 1), (1, i_psh (.int (1)) 2), (2, i_pf 9 2 (.boolean) 5), (5, i_vr)]
theorem s_X4_outdate_0 {X : ev_E} {l : Launch} (hG : ev_Good X) (hl : l.stackTraces = false) : ev_Snd X l ev_ms x_X4_outdate tx_X4_outdate 0 (i_al 0 1) := s_aload_n dX4_outdate_0 rfl
theorem s_X4_outdate_1 {X : ev_E} {l : Launch} (hG : ev_Good X) (hl : l.stackTraces = false) : ev_Snd X l ev_ms x_X4_outdate tx_X4_outdate 1 (i_psh (.int (1)) 2) := s_iconst dX4_outdate_1 rfl
theorem s_X4_outdate_2 {X : ev_E} {l : Launch} (hG : ev_Good X) (hl : l.stackTraces = false) : ev_Snd X l ev_ms x_X4_outdate tx_X4_outdate 2 (i_pf 9 2 (.boolean) 5) := s_putfield hG (ci := 9) (r := (RX4, TX4, 6)) rfl cw_9 ap_9 (k := 2) (Nat.le_of_ble_eq_true rfl) rfl (by decide +kernel) w_171 rfl (Or.inl rfl) dX4_outdate_2
theorem s_X4_outdate_5 {X : ev_E} {l : Launch} (hG : ev_Good X) (hl : l.stackTraces = false) : ev_Snd X l ev_ms x_X4_outdate tx_X4_outdate 5 (i_vr) := s_return rfl dX4_outdate_5
theorem sa_X4_outdate {X : ev_E} {l : Launch} (hG : ev_Good X) (hl : l.stackTraces = false) : ∀ q ∈ tb_X4_outdate X, ev_Snd X l ev_ms x_X4_outdate tx_X4_outdate q.1 q.2 := by
  intro q hq
  unfold tb_X4_outdate at hq
  simp only [List.mem_cons, List.not_mem_nil, or_false] at hq
  rcases hq with rfl | rfl | rfl | rfl
  · exact s_X4_outdate_0 hG hl
  · exact s_X4_outdate_1 hG hl
  · exact s_X4_outdate_2 hG hl
  · exact s_X4_outdate_5 hG hl
def tx_X5_areBestsWithinMisses : ev_X := fun _ _ => some none
noncomputable def tb_X5_areBestsWithinMisses (X : ev_E) : List (Nat × (ev_S → ev_N)) := [(0, i_psh (.int (0)) 1), (1, i_is 1 2), (2, i_il 1 3), (3, i_psh (.int (6)) 5), (5, i_icge 34 8), (8, i_al 0 9), (9, i_gf X 10 4 12), (12, i_il 1 13), (13, i_ald X ev_tI 14), (14, i_al 0 15), (15, i_gf X 10 3 18), (18, i_il 1 19), (19, i_ald X FieldType.isReference 20), (20, i_gf X 6 1 23), (23, i_icle 28 26), (26, i_psh (.int (0)) 27), (27, i_ir (.boolean)), (28, i_inc 1 (1) 31), (31, i_goto 2), (34, i_psh (.int (1)) 35), (35, i_ir (.boolean))]
theorem s_X5_areBestsWithinMisses_0 {X : ev_E} {l : Launch} (hG : ev_Good X) (hl : l.stackTraces = false) : ev_Snd X l ev_ms x_X5_areBestsWithinMisses tx_X5_areBestsWithinMisses 0 (i_psh (.int (0)) 1) := s_iconst dX5_areBestsWithinMisses_0 rfl
theorem s_X5_areBestsWithinMisses_1 {X : ev_E} {l : Launch} (hG : ev_Good X) (hl : l.stackTraces = false) : ev_Snd X l ev_ms x_X5_areBestsWithinMisses tx_X5_areBestsWithinMisses 1 (i_is 1 2) := s_istore_n dX5_areBestsWithinMisses_1 rfl (Nat.le_of_ble_eq_true rfl)
theorem s_X5_areBestsWithinMisses_2 {X : ev_E} {l : Launch} (hG : ev_Good X) (hl : l.stackTraces = false) : ev_Snd X l ev_ms x_X5_areBestsWithinMisses tx_X5_areBestsWithinMisses 2 (i_il 1 3) := s_iload_n dX5_areBestsWithinMisses_2 rfl
theorem s_X5_areBestsWithinMisses_3 {X : ev_E} {l : Launch} (hG : ev_Good X) (hl : l.stackTraces = false) : ev_Snd X l ev_ms x_X5_areBestsWithinMisses tx_X5_areBestsWithinMisses 3 (i_psh (.int (6)) 5) := s_bipush dX5_areBestsWithinMisses_3 rfl
theorem s_X5_areBestsWithinMisses_5 {X : ev_E} {l : Launch} (hG : ev_Good X) (hl : l.stackTraces = false) : ev_Snd X l ev_ms x_X5_areBestsWithinMisses tx_X5_areBestsWithinMisses 5 (i_icge 34 8) := s_icge dX5_areBestsWithinMisses_5 rfl
theorem s_X5_areBestsWithinMisses_8 {X : ev_E} {l : Launch} (hG : ev_Good X) (hl : l.stackTraces = false) : ev_Snd X l ev_ms x_X5_areBestsWithinMisses tx_X5_areBestsWithinMisses 8 (i_al 0 9) := s_aload_n dX5_areBestsWithinMisses_8 rfl
theorem s_X5_areBestsWithinMisses_9 {X : ev_E} {l : Launch} (hG : ev_Good X) (hl : l.stackTraces = false) : ev_Snd X l ev_ms x_X5_areBestsWithinMisses tx_X5_areBestsWithinMisses 9 (i_gf X 10 4 12) := s_getfield hG (ci := 10) (r := (RX5, TX5, 7)) rfl cw_10 (k := 4) (Nat.le_of_ble_eq_true rfl) w_221 rfl (Or.inl rfl) dX5_areBestsWithinMisses_9
theorem s_X5_areBestsWithinMisses_12 {X : ev_E} {l : Launch} (hG : ev_Good X) (hl : l.stackTraces = false) : ev_Snd X l ev_ms x_X5_areBestsWithinMisses tx_X5_areBestsWithinMisses 12 (i_il 1 13) := s_iload_n dX5_areBestsWithinMisses_12 rfl
theorem s_X5_areBestsWithinMisses_13 {X : ev_E} {l : Launch} (hG : ev_Good X) (hl : l.stackTraces = false) : ev_Snd X l ev_ms x_X5_areBestsWithinMisses tx_X5_areBestsWithinMisses 13 (i_ald X ev_tI 14) := s_iaload hG dX5_areBestsWithinMisses_13
theorem s_X5_areBestsWithinMisses_14 {X : ev_E} {l : Launch} (hG : ev_Good X) (hl : l.stackTraces = false) : ev_Snd X l ev_ms x_X5_areBestsWithinMisses tx_X5_areBestsWithinMisses 14 (i_al 0 15) := s_aload_n dX5_areBestsWithinMisses_14 rfl
theorem s_X5_areBestsWithinMisses_15 {X : ev_E} {l : Launch} (hG : ev_Good X) (hl : l.stackTraces = false) : ev_Snd X l ev_ms x_X5_areBestsWithinMisses tx_X5_areBestsWithinMisses 15 (i_gf X 10 3 18) := s_getfield hG (ci := 10) (r := (RX5, TX5, 7)) rfl cw_10 (k := 3) (Nat.le_of_ble_eq_true rfl) w_220 rfl (Or.inl rfl) dX5_areBestsWithinMisses_15
theorem s_X5_areBestsWithinMisses_18 {X : ev_E} {l : Launch} (hG : ev_Good X) (hl : l.stackTraces = false) : ev_Snd X l ev_ms x_X5_areBestsWithinMisses tx_X5_areBestsWithinMisses 18 (i_il 1 19) := s_iload_n dX5_areBestsWithinMisses_18 rfl
theorem s_X5_areBestsWithinMisses_19 {X : ev_E} {l : Launch} (hG : ev_Good X) (hl : l.stackTraces = false) : ev_Snd X l ev_ms x_X5_areBestsWithinMisses tx_X5_areBestsWithinMisses 19 (i_ald X FieldType.isReference 20) := s_aaload hG dX5_areBestsWithinMisses_19
theorem s_X5_areBestsWithinMisses_20 {X : ev_E} {l : Launch} (hG : ev_Good X) (hl : l.stackTraces = false) : ev_Snd X l ev_ms x_X5_areBestsWithinMisses tx_X5_areBestsWithinMisses 20 (i_gf X 6 1 23) := s_getfieldN hG (ci := 6) (r := (RX1, TX1, 3)) rfl cw_6 (k := 1) (Nat.le_of_ble_eq_true rfl) w_207 rfl dX5_areBestsWithinMisses_20
theorem s_X5_areBestsWithinMisses_23 {X : ev_E} {l : Launch} (hG : ev_Good X) (hl : l.stackTraces = false) : ev_Snd X l ev_ms x_X5_areBestsWithinMisses tx_X5_areBestsWithinMisses 23 (i_icle 28 26) := s_icle dX5_areBestsWithinMisses_23 rfl
theorem s_X5_areBestsWithinMisses_26 {X : ev_E} {l : Launch} (hG : ev_Good X) (hl : l.stackTraces = false) : ev_Snd X l ev_ms x_X5_areBestsWithinMisses tx_X5_areBestsWithinMisses 26 (i_psh (.int (0)) 27) := s_iconst dX5_areBestsWithinMisses_26 rfl
theorem s_X5_areBestsWithinMisses_27 {X : ev_E} {l : Launch} (hG : ev_Good X) (hl : l.stackTraces = false) : ev_Snd X l ev_ms x_X5_areBestsWithinMisses tx_X5_areBestsWithinMisses 27 (i_ir (.boolean)) := s_ireturn rfl dX5_areBestsWithinMisses_27
theorem s_X5_areBestsWithinMisses_28 {X : ev_E} {l : Launch} (hG : ev_Good X) (hl : l.stackTraces = false) : ev_Snd X l ev_ms x_X5_areBestsWithinMisses tx_X5_areBestsWithinMisses 28 (i_inc 1 (1) 31) := s_iinc dX5_areBestsWithinMisses_28 rfl (Nat.le_of_ble_eq_true rfl)
theorem s_X5_areBestsWithinMisses_31 {X : ev_E} {l : Launch} (hG : ev_Good X) (hl : l.stackTraces = false) : ev_Snd X l ev_ms x_X5_areBestsWithinMisses tx_X5_areBestsWithinMisses 31 (i_goto 2) := s_goto dX5_areBestsWithinMisses_31 rfl
theorem s_X5_areBestsWithinMisses_34 {X : ev_E} {l : Launch} (hG : ev_Good X) (hl : l.stackTraces = false) : ev_Snd X l ev_ms x_X5_areBestsWithinMisses tx_X5_areBestsWithinMisses 34 (i_psh (.int (1)) 35) := s_iconst dX5_areBestsWithinMisses_34 rfl
theorem s_X5_areBestsWithinMisses_35 {X : ev_E} {l : Launch} (hG : ev_Good X) (hl : l.stackTraces = false) : ev_Snd X l ev_ms x_X5_areBestsWithinMisses tx_X5_areBestsWithinMisses 35 (i_ir (.boolean)) := s_ireturn rfl dX5_areBestsWithinMisses_35
theorem sa_X5_areBestsWithinMisses {X : ev_E} {l : Launch} (hG : ev_Good X) (hl : l.stackTraces = false) : ∀ q ∈ tb_X5_areBestsWithinMisses X, ev_Snd X l ev_ms x_X5_areBestsWithinMisses tx_X5_areBestsWithinMisses q.1 q.2 := by
  intro q hq
  unfold tb_X5_areBestsWithinMisses at hq
  simp only [List.mem_cons, List.not_mem_nil, or_false] at hq
  rcases hq with rfl | rfl | rfl | rfl | rfl | rfl | rfl | rfl | rfl | rfl | rfl | rfl | rfl | rfl | rfl | rfl | rfl | rfl | rfl | rfl | rfl
  · exact s_X5_areBestsWithinMisses_0 hG hl
  · exact s_X5_areBestsWithinMisses_1 hG hl
  · exact s_X5_areBestsWithinMisses_2 hG hl
  · exact s_X5_areBestsWithinMisses_3 hG hl
  · exact s_X5_areBestsWithinMisses_5 hG hl
  · exact s_X5_areBestsWithinMisses_8 hG hl
  · exact s_X5_areBestsWithinMisses_9 hG hl
  · exact s_X5_areBestsWithinMisses_12 hG hl
  · exact s_X5_areBestsWithinMisses_13 hG hl
  · exact s_X5_areBestsWithinMisses_14 hG hl
  · exact s_X5_areBestsWithinMisses_15 hG hl
  · exact s_X5_areBestsWithinMisses_18 hG hl
  · exact s_X5_areBestsWithinMisses_19 hG hl
  · exact s_X5_areBestsWithinMisses_20 hG hl
  · exact s_X5_areBestsWithinMisses_23 hG hl
  · exact s_X5_areBestsWithinMisses_26 hG hl
  · exact s_X5_areBestsWithinMisses_27 hG hl
  · exact s_X5_areBestsWithinMisses_28 hG hl
  · exact s_X5_areBestsWithinMisses_31 hG hl
  · exact s_X5_areBestsWithinMisses_34 hG hl
  · exact s_X5_areBestsWithinMisses_35 hG hl
def tx_X5_asked : ev_X := fun _ _ => some none
noncomputable def tb_X5_asked (X : ev_E) : List (Nat × (ev_S → ev_N)) := [(0, i_al 0 1), (1, i_gf X 10 1 4), (4, i_gf X 5 5 7), (7, i_ir (.int))]
theorem s_X5_asked_0 {X : ev_E} {l : Launch} (hG : ev_Good X) (hl : l.stackTraces = false) : ev_Snd X l ev_ms x_X5_asked tx_X5_asked 0 (i_al 0 1) := s_aload_n dX5_asked_0 rfl
theorem s_X5_asked_1 {X : ev_E} {l : Launch} (hG : ev_Good X) (hl : l.stackTraces = false) : ev_Snd X l ev_ms x_X5_asked tx_X5_asked 1 (i_gf X 10 1 4) := s_getfield hG (ci := 10) (r := (RX5, TX5, 7)) rfl cw_10 (k := 1) (Nat.le_of_ble_eq_true rfl) w_218 rfl (Or.inl rfl) dX5_asked_1
theorem s_X5_asked_4 {X : ev_E} {l : Launch} (hG : ev_Good X) (hl : l.stackTraces = false) : ev_Snd X l ev_ms x_X5_asked tx_X5_asked 4 (i_gf X 5 5 7) := s_getfieldN hG (ci := 5) (r := (RX0, TX0, 6)) rfl cw_5 (k := 5) (Nat.le_of_ble_eq_true rfl) w_106 rfl dX5_asked_4
theorem s_X5_asked_7 {X : ev_E} {l : Launch} (hG : ev_Good X) (hl : l.stackTraces = false) : ev_Snd X l ev_ms x_X5_asked tx_X5_asked 7 (i_ir (.int)) := s_ireturn rfl dX5_asked_7
theorem sa_X5_asked {X : ev_E} {l : Launch} (hG : ev_Good X) (hl : l.stackTraces = false) : ∀ q ∈ tb_X5_asked X, ev_Snd X l ev_ms x_X5_asked tx_X5_asked q.1 q.2 := by
  intro q hq
  unfold tb_X5_asked at hq
  simp only [List.mem_cons, List.not_mem_nil, or_false] at hq
  rcases hq with rfl | rfl | rfl | rfl
  · exact s_X5_asked_0 hG hl
  · exact s_X5_asked_1 hG hl
  · exact s_X5_asked_4 hG hl
  · exact s_X5_asked_7 hG hl
def tx_X5_demandKey : ev_X := fun _ _ => some none
noncomputable def tb_X5_demandKey (X : ev_E) : List (Nat × (ev_S → ev_N)) := [(0, i_il 0 1), (1, i_iflt 10 4), (4, i_il 0 5), (5, i_psh (.int (20)) 7), (7, i_iclt 21 10), (10, i_thr 1), (21, i_vr)]
theorem s_X5_demandKey_0 {X : ev_E} {l : Launch} (hG : ev_Good X) (hl : l.stackTraces = false) : ev_Snd X l ev_ms x_X5_demandKey tx_X5_demandKey 0 (i_il 0 1) := s_iload_n dX5_demandKey_0 rfl
theorem s_X5_demandKey_1 {X : ev_E} {l : Launch} (hG : ev_Good X) (hl : l.stackTraces = false) : ev_Snd X l ev_ms x_X5_demandKey tx_X5_demandKey 1 (i_iflt 10 4) := s_iflt dX5_demandKey_1 rfl
theorem s_X5_demandKey_4 {X : ev_E} {l : Launch} (hG : ev_Good X) (hl : l.stackTraces = false) : ev_Snd X l ev_ms x_X5_demandKey tx_X5_demandKey 4 (i_il 0 5) := s_iload_n dX5_demandKey_4 rfl
theorem s_X5_demandKey_5 {X : ev_E} {l : Launch} (hG : ev_Good X) (hl : l.stackTraces = false) : ev_Snd X l ev_ms x_X5_demandKey tx_X5_demandKey 5 (i_psh (.int (20)) 7) := s_bipush dX5_demandKey_5 rfl
theorem s_X5_demandKey_7 {X : ev_E} {l : Launch} (hG : ev_Good X) (hl : l.stackTraces = false) : ev_Snd X l ev_ms x_X5_demandKey tx_X5_demandKey 7 (i_iclt 21 10) := s_iclt dX5_demandKey_7 rfl
theorem s_X5_demandKey_10 {X : ev_E} {l : Launch} (hG : ev_Good X) (hl : l.stackTraces = false) : ev_Snd X l ev_ms x_X5_demandKey tx_X5_demandKey 10 (i_thr 1) := s_throwW hG hl (E := 1) (text := "key is not 0 to 19") (names := ["java/lang/RuntimeException", "java/lang/Exception"]) (by decide +kernel) (by decide +kernel) (by decide) rfl w_690 w_65 (ta_RX5_62_1 (i := 58)).1 (ta_RX5_62_1 (i := 58)).2 (str_RX5_309 hG) dX5_demandKey_10 dX5_demandKey_13 dX5_demandKey_14 dX5_demandKey_17 dX5_demandKey_20
theorem s_X5_demandKey_21 {X : ev_E} {l : Launch} (hG : ev_Good X) (hl : l.stackTraces = false) : ev_Snd X l ev_ms x_X5_demandKey tx_X5_demandKey 21 (i_vr) := s_return rfl dX5_demandKey_21
theorem sa_X5_demandKey {X : ev_E} {l : Launch} (hG : ev_Good X) (hl : l.stackTraces = false) : ∀ q ∈ tb_X5_demandKey X, ev_Snd X l ev_ms x_X5_demandKey tx_X5_demandKey q.1 q.2 := by
  intro q hq
  unfold tb_X5_demandKey at hq
  simp only [List.mem_cons, List.not_mem_nil, or_false] at hq
  rcases hq with rfl | rfl | rfl | rfl | rfl | rfl | rfl
  · exact s_X5_demandKey_0 hG hl
  · exact s_X5_demandKey_1 hG hl
  · exact s_X5_demandKey_4 hG hl
  · exact s_X5_demandKey_5 hG hl
  · exact s_X5_demandKey_7 hG hl
  · exact s_X5_demandKey_10 hG hl
  · exact s_X5_demandKey_21 hG hl
def tx_X5_demandKindOfWalk : ev_X := fun _ _ => some none
noncomputable def tb_X5_demandKindOfWalk (X : ev_E) : List (Nat × (ev_S → ev_N)) := [(0, i_il 0 1), (1, i_iflt 9 4), (4, i_il 0 5), (5, i_psh (.int (2)) 6), (6, i_icle 20 9), (9, i_thr 1), (20, i_vr)]
theorem s_X5_demandKindOfWalk_0 {X : ev_E} {l : Launch} (hG : ev_Good X) (hl : l.stackTraces = false) : ev_Snd X l ev_ms x_X5_demandKindOfWalk tx_X5_demandKindOfWalk 0 (i_il 0 1) := s_iload_n dX5_demandKindOfWalk_0 rfl
theorem s_X5_demandKindOfWalk_1 {X : ev_E} {l : Launch} (hG : ev_Good X) (hl : l.stackTraces = false) : ev_Snd X l ev_ms x_X5_demandKindOfWalk tx_X5_demandKindOfWalk 1 (i_iflt 9 4) := s_iflt dX5_demandKindOfWalk_1 rfl
theorem s_X5_demandKindOfWalk_4 {X : ev_E} {l : Launch} (hG : ev_Good X) (hl : l.stackTraces = false) : ev_Snd X l ev_ms x_X5_demandKindOfWalk tx_X5_demandKindOfWalk 4 (i_il 0 5) := s_iload_n dX5_demandKindOfWalk_4 rfl
theorem s_X5_demandKindOfWalk_5 {X : ev_E} {l : Launch} (hG : ev_Good X) (hl : l.stackTraces = false) : ev_Snd X l ev_ms x_X5_demandKindOfWalk tx_X5_demandKindOfWalk 5 (i_psh (.int (2)) 6) := s_iconst dX5_demandKindOfWalk_5 rfl
theorem s_X5_demandKindOfWalk_6 {X : ev_E} {l : Launch} (hG : ev_Good X) (hl : l.stackTraces = false) : ev_Snd X l ev_ms x_X5_demandKindOfWalk tx_X5_demandKindOfWalk 6 (i_icle 20 9) := s_icle dX5_demandKindOfWalk_6 rfl
theorem s_X5_demandKindOfWalk_9 {X : ev_E} {l : Launch} (hG : ev_Good X) (hl : l.stackTraces = false) : ev_Snd X l ev_ms x_X5_demandKindOfWalk tx_X5_demandKindOfWalk 9 (i_thr 1) := s_throwW hG hl (E := 1) (text := "what is not 0 to 2") (names := ["java/lang/RuntimeException", "java/lang/Exception"]) (by decide +kernel) (by decide +kernel) (by decide) rfl w_690 w_65 (ta_RX5_62_1 (i := 58)).1 (ta_RX5_62_1 (i := 58)).2 (str_RX5_313 hG) dX5_demandKindOfWalk_9 dX5_demandKindOfWalk_12 dX5_demandKindOfWalk_13 dX5_demandKindOfWalk_16 dX5_demandKindOfWalk_19
theorem s_X5_demandKindOfWalk_20 {X : ev_E} {l : Launch} (hG : ev_Good X) (hl : l.stackTraces = false) : ev_Snd X l ev_ms x_X5_demandKindOfWalk tx_X5_demandKindOfWalk 20 (i_vr) := s_return rfl dX5_demandKindOfWalk_20
theorem sa_X5_demandKindOfWalk {X : ev_E} {l : Launch} (hG : ev_Good X) (hl : l.stackTraces = false) : ∀ q ∈ tb_X5_demandKindOfWalk X, ev_Snd X l ev_ms x_X5_demandKindOfWalk tx_X5_demandKindOfWalk q.1 q.2 := by
  intro q hq
  unfold tb_X5_demandKindOfWalk at hq
  simp only [List.mem_cons, List.not_mem_nil, or_false] at hq
  rcases hq with rfl | rfl | rfl | rfl | rfl | rfl | rfl
  · exact s_X5_demandKindOfWalk_0 hG hl
  · exact s_X5_demandKindOfWalk_1 hG hl
  · exact s_X5_demandKindOfWalk_4 hG hl
  · exact s_X5_demandKindOfWalk_5 hG hl
  · exact s_X5_demandKindOfWalk_6 hG hl
  · exact s_X5_demandKindOfWalk_9 hG hl
  · exact s_X5_demandKindOfWalk_20 hG hl
def tx_X5_demandRoomFor : ev_X := fun _ _ => some none
noncomputable def tb_X5_demandRoomFor (X : ev_E) : List (Nat × (ev_S → ev_N)) := [(0, i_al 0 1), (1, i_gf X 10 1 4), (4, i_gf X 5 5 7), (7, i_il 1 8), (8, i_ii (fun a b => a + b) 9), (9, i_psh (.int (60)) 11), (11, i_icle 25 14), (14, i_thr 2), (25, i_vr)]
theorem s_X5_demandRoomFor_0 {X : ev_E} {l : Launch} (hG : ev_Good X) (hl : l.stackTraces = false) : ev_Snd X l ev_ms x_X5_demandRoomFor tx_X5_demandRoomFor 0 (i_al 0 1) := s_aload_n dX5_demandRoomFor_0 rfl
theorem s_X5_demandRoomFor_1 {X : ev_E} {l : Launch} (hG : ev_Good X) (hl : l.stackTraces = false) : ev_Snd X l ev_ms x_X5_demandRoomFor tx_X5_demandRoomFor 1 (i_gf X 10 1 4) := s_getfield hG (ci := 10) (r := (RX5, TX5, 7)) rfl cw_10 (k := 1) (Nat.le_of_ble_eq_true rfl) w_218 rfl (Or.inl rfl) dX5_demandRoomFor_1
theorem s_X5_demandRoomFor_4 {X : ev_E} {l : Launch} (hG : ev_Good X) (hl : l.stackTraces = false) : ev_Snd X l ev_ms x_X5_demandRoomFor tx_X5_demandRoomFor 4 (i_gf X 5 5 7) := s_getfieldN hG (ci := 5) (r := (RX0, TX0, 6)) rfl cw_5 (k := 5) (Nat.le_of_ble_eq_true rfl) w_106 rfl dX5_demandRoomFor_4
theorem s_X5_demandRoomFor_7 {X : ev_E} {l : Launch} (hG : ev_Good X) (hl : l.stackTraces = false) : ev_Snd X l ev_ms x_X5_demandRoomFor tx_X5_demandRoomFor 7 (i_il 1 8) := s_iload_n dX5_demandRoomFor_7 rfl
theorem s_X5_demandRoomFor_8 {X : ev_E} {l : Launch} (hG : ev_Good X) (hl : l.stackTraces = false) : ev_Snd X l ev_ms x_X5_demandRoomFor tx_X5_demandRoomFor 8 (i_ii (fun a b => a + b) 9) := s_iadd dX5_demandRoomFor_8
theorem s_X5_demandRoomFor_9 {X : ev_E} {l : Launch} (hG : ev_Good X) (hl : l.stackTraces = false) : ev_Snd X l ev_ms x_X5_demandRoomFor tx_X5_demandRoomFor 9 (i_psh (.int (60)) 11) := s_bipush dX5_demandRoomFor_9 rfl
theorem s_X5_demandRoomFor_11 {X : ev_E} {l : Launch} (hG : ev_Good X) (hl : l.stackTraces = false) : ev_Snd X l ev_ms x_X5_demandRoomFor tx_X5_demandRoomFor 11 (i_icle 25 14) := s_icle dX5_demandRoomFor_11 rfl
theorem s_X5_demandRoomFor_14 {X : ev_E} {l : Launch} (hG : ev_Good X) (hl : l.stackTraces = false) : ev_Snd X l ev_ms x_X5_demandRoomFor tx_X5_demandRoomFor 14 (i_thr 2) := s_throwW hG hl (E := 2) (text := "there would be more than 60 askings") (names := ["java/lang/RuntimeException", "java/lang/Exception"]) (by decide +kernel) (by decide +kernel) (by decide) rfl w_877 w_72 (ta_RX5_98_2 (i := 94)).1 (ta_RX5_98_2 (i := 94)).2 (str_RX5_315 hG) dX5_demandRoomFor_14 dX5_demandRoomFor_17 dX5_demandRoomFor_18 dX5_demandRoomFor_21 dX5_demandRoomFor_24
theorem s_X5_demandRoomFor_25 {X : ev_E} {l : Launch} (hG : ev_Good X) (hl : l.stackTraces = false) : ev_Snd X l ev_ms x_X5_demandRoomFor tx_X5_demandRoomFor 25 (i_vr) := s_return rfl dX5_demandRoomFor_25
theorem sa_X5_demandRoomFor {X : ev_E} {l : Launch} (hG : ev_Good X) (hl : l.stackTraces = false) : ∀ q ∈ tb_X5_demandRoomFor X, ev_Snd X l ev_ms x_X5_demandRoomFor tx_X5_demandRoomFor q.1 q.2 := by
  intro q hq
  unfold tb_X5_demandRoomFor at hq
  simp only [List.mem_cons, List.not_mem_nil, or_false] at hq
  rcases hq with rfl | rfl | rfl | rfl | rfl | rfl | rfl | rfl | rfl
  · exact s_X5_demandRoomFor_0 hG hl
  · exact s_X5_demandRoomFor_1 hG hl
  · exact s_X5_demandRoomFor_4 hG hl
  · exact s_X5_demandRoomFor_7 hG hl
  · exact s_X5_demandRoomFor_8 hG hl
  · exact s_X5_demandRoomFor_9 hG hl
  · exact s_X5_demandRoomFor_11 hG hl
  · exact s_X5_demandRoomFor_14 hG hl
  · exact s_X5_demandRoomFor_25 hG hl
def tx_X5_demandSize : ev_X := fun _ _ => some none
noncomputable def tb_X5_demandSize (X : ev_E) : List (Nat × (ev_S → ev_N)) := [(0, i_il 0 1), (1, i_psh (.int (1)) 2), (2, i_iclt 11 5), (5, i_il 0 6), (6, i_psh (.int (6)) 8), (8, i_icle 22 11), (11, i_thr 1), (22, i_vr)]
theorem s_X5_demandSize_0 {X : ev_E} {l : Launch} (hG : ev_Good X) (hl : l.stackTraces = false) : ev_Snd X l ev_ms x_X5_demandSize tx_X5_demandSize 0 (i_il 0 1) := s_iload_n dX5_demandSize_0 rfl
theorem s_X5_demandSize_1 {X : ev_E} {l : Launch} (hG : ev_Good X) (hl : l.stackTraces = false) : ev_Snd X l ev_ms x_X5_demandSize tx_X5_demandSize 1 (i_psh (.int (1)) 2) := s_iconst dX5_demandSize_1 rfl
theorem s_X5_demandSize_2 {X : ev_E} {l : Launch} (hG : ev_Good X) (hl : l.stackTraces = false) : ev_Snd X l ev_ms x_X5_demandSize tx_X5_demandSize 2 (i_iclt 11 5) := s_iclt dX5_demandSize_2 rfl
theorem s_X5_demandSize_5 {X : ev_E} {l : Launch} (hG : ev_Good X) (hl : l.stackTraces = false) : ev_Snd X l ev_ms x_X5_demandSize tx_X5_demandSize 5 (i_il 0 6) := s_iload_n dX5_demandSize_5 rfl
theorem s_X5_demandSize_6 {X : ev_E} {l : Launch} (hG : ev_Good X) (hl : l.stackTraces = false) : ev_Snd X l ev_ms x_X5_demandSize tx_X5_demandSize 6 (i_psh (.int (6)) 8) := s_bipush dX5_demandSize_6 rfl
theorem s_X5_demandSize_8 {X : ev_E} {l : Launch} (hG : ev_Good X) (hl : l.stackTraces = false) : ev_Snd X l ev_ms x_X5_demandSize tx_X5_demandSize 8 (i_icle 22 11) := s_icle dX5_demandSize_8 rfl
theorem s_X5_demandSize_11 {X : ev_E} {l : Launch} (hG : ev_Good X) (hl : l.stackTraces = false) : ev_Snd X l ev_ms x_X5_demandSize tx_X5_demandSize 11 (i_thr 1) := s_throwW hG hl (E := 1) (text := "size is not 1 to 6") (names := ["java/lang/RuntimeException", "java/lang/Exception"]) (by decide +kernel) (by decide +kernel) (by decide) rfl w_690 w_65 (ta_RX5_62_1 (i := 58)).1 (ta_RX5_62_1 (i := 58)).2 (str_RX5_307 hG) dX5_demandSize_11 dX5_demandSize_14 dX5_demandSize_15 dX5_demandSize_18 dX5_demandSize_21
theorem s_X5_demandSize_22 {X : ev_E} {l : Launch} (hG : ev_Good X) (hl : l.stackTraces = false) : ev_Snd X l ev_ms x_X5_demandSize tx_X5_demandSize 22 (i_vr) := s_return rfl dX5_demandSize_22
theorem sa_X5_demandSize {X : ev_E} {l : Launch} (hG : ev_Good X) (hl : l.stackTraces = false) : ∀ q ∈ tb_X5_demandSize X, ev_Snd X l ev_ms x_X5_demandSize tx_X5_demandSize q.1 q.2 := by
  intro q hq
  unfold tb_X5_demandSize at hq
  simp only [List.mem_cons, List.not_mem_nil, or_false] at hq
  rcases hq with rfl | rfl | rfl | rfl | rfl | rfl | rfl | rfl
  · exact s_X5_demandSize_0 hG hl
  · exact s_X5_demandSize_1 hG hl
  · exact s_X5_demandSize_2 hG hl
  · exact s_X5_demandSize_5 hG hl
  · exact s_X5_demandSize_6 hG hl
  · exact s_X5_demandSize_8 hG hl
  · exact s_X5_demandSize_11 hG hl
  · exact s_X5_demandSize_22 hG hl
def tx_X5_demandValue : ev_X := fun _ _ => some none
noncomputable def tb_X5_demandValue (X : ev_E) : List (Nat × (ev_S → ev_N)) := [(0, i_il 0 1), (1, i_iflt 10 4), (4, i_il 0 5), (5, i_psh (.int (100)) 7), (7, i_iclt 21 10), (10, i_thr 1), (21, i_vr)]
theorem s_X5_demandValue_0 {X : ev_E} {l : Launch} (hG : ev_Good X) (hl : l.stackTraces = false) : ev_Snd X l ev_ms x_X5_demandValue tx_X5_demandValue 0 (i_il 0 1) := s_iload_n dX5_demandValue_0 rfl
theorem s_X5_demandValue_1 {X : ev_E} {l : Launch} (hG : ev_Good X) (hl : l.stackTraces = false) : ev_Snd X l ev_ms x_X5_demandValue tx_X5_demandValue 1 (i_iflt 10 4) := s_iflt dX5_demandValue_1 rfl
theorem s_X5_demandValue_4 {X : ev_E} {l : Launch} (hG : ev_Good X) (hl : l.stackTraces = false) : ev_Snd X l ev_ms x_X5_demandValue tx_X5_demandValue 4 (i_il 0 5) := s_iload_n dX5_demandValue_4 rfl
theorem s_X5_demandValue_5 {X : ev_E} {l : Launch} (hG : ev_Good X) (hl : l.stackTraces = false) : ev_Snd X l ev_ms x_X5_demandValue tx_X5_demandValue 5 (i_psh (.int (100)) 7) := s_bipush dX5_demandValue_5 rfl
theorem s_X5_demandValue_7 {X : ev_E} {l : Launch} (hG : ev_Good X) (hl : l.stackTraces = false) : ev_Snd X l ev_ms x_X5_demandValue tx_X5_demandValue 7 (i_iclt 21 10) := s_iclt dX5_demandValue_7 rfl
theorem s_X5_demandValue_10 {X : ev_E} {l : Launch} (hG : ev_Good X) (hl : l.stackTraces = false) : ev_Snd X l ev_ms x_X5_demandValue tx_X5_demandValue 10 (i_thr 1) := s_throwW hG hl (E := 1) (text := "value is not 0 to 99") (names := ["java/lang/RuntimeException", "java/lang/Exception"]) (by decide +kernel) (by decide +kernel) (by decide) rfl w_690 w_65 (ta_RX5_62_1 (i := 58)).1 (ta_RX5_62_1 (i := 58)).2 (str_RX5_311 hG) dX5_demandValue_10 dX5_demandValue_13 dX5_demandValue_14 dX5_demandValue_17 dX5_demandValue_20
theorem s_X5_demandValue_21 {X : ev_E} {l : Launch} (hG : ev_Good X) (hl : l.stackTraces = false) : ev_Snd X l ev_ms x_X5_demandValue tx_X5_demandValue 21 (i_vr) := s_return rfl dX5_demandValue_21
theorem sa_X5_demandValue {X : ev_E} {l : Launch} (hG : ev_Good X) (hl : l.stackTraces = false) : ∀ q ∈ tb_X5_demandValue X, ev_Snd X l ev_ms x_X5_demandValue tx_X5_demandValue q.1 q.2 := by
  intro q hq
  unfold tb_X5_demandValue at hq
  simp only [List.mem_cons, List.not_mem_nil, or_false] at hq
  rcases hq with rfl | rfl | rfl | rfl | rfl | rfl | rfl
  · exact s_X5_demandValue_0 hG hl
  · exact s_X5_demandValue_1 hG hl
  · exact s_X5_demandValue_4 hG hl
  · exact s_X5_demandValue_5 hG hl
  · exact s_X5_demandValue_7 hG hl
  · exact s_X5_demandValue_10 hG hl
  · exact s_X5_demandValue_21 hG hl
def tx_X5_isNoneGrowingWithSize : ev_X := fun _ _ => some none
noncomputable def tb_X5_isNoneGrowingWithSize (X : ev_E) : List (Nat × (ev_S → ev_N)) := [(0, i_psh (.int (1)) 1), (1, i_is 1 2), (2, i_il 1 3), (3, i_psh (.int (6)) 5), (5, i_icge 56 8), (8, i_al 0 9), (9, i_gf X 10 3 12), (12, i_il 1 13), (13, i_ald X FieldType.isReference 14), (14, i_gf X 6 1 17), (17, i_al 0 18), (18, i_gf X 10 3 21), (21, i_il 1 22), (22, i_psh (.int (1)) 23), (23, i_ii (fun a b => a - b) 24), (24, i_ald X FieldType.isReference 25), (25, i_gf X 6 1 28), (28, i_icgt 48 31), (31, i_al 0 32), (32, i_gf X 10 4 35), (35, i_il 1 36), (36, i_ald X ev_tI 37), (37, i_al 0 38), (38, i_gf X 10 4 41), (41, i_il 1 42), (42, i_psh (.int (1)) 43), (43, i_ii (fun a b => a - b) 44), (44, i_ald X ev_tI 45), (45, i_icle 50 48), (48, i_psh (.int (0)) 49), (49, i_ir (.boolean)), (50, i_inc 1 (1) 53), (53, i_goto 2), (56, i_psh (.int (1)) 57), (57, i_ir (.boolean))]
theorem s_X5_isNoneGrowingWithSize_0 {X : ev_E} {l : Launch} (hG : ev_Good X) (hl : l.stackTraces = false) : ev_Snd X l ev_ms x_X5_isNoneGrowingWithSize tx_X5_isNoneGrowingWithSize 0 (i_psh (.int (1)) 1) := s_iconst dX5_isNoneGrowingWithSize_0 rfl
theorem s_X5_isNoneGrowingWithSize_1 {X : ev_E} {l : Launch} (hG : ev_Good X) (hl : l.stackTraces = false) : ev_Snd X l ev_ms x_X5_isNoneGrowingWithSize tx_X5_isNoneGrowingWithSize 1 (i_is 1 2) := s_istore_n dX5_isNoneGrowingWithSize_1 rfl (Nat.le_of_ble_eq_true rfl)
theorem s_X5_isNoneGrowingWithSize_2 {X : ev_E} {l : Launch} (hG : ev_Good X) (hl : l.stackTraces = false) : ev_Snd X l ev_ms x_X5_isNoneGrowingWithSize tx_X5_isNoneGrowingWithSize 2 (i_il 1 3) := s_iload_n dX5_isNoneGrowingWithSize_2 rfl
theorem s_X5_isNoneGrowingWithSize_3 {X : ev_E} {l : Launch} (hG : ev_Good X) (hl : l.stackTraces = false) : ev_Snd X l ev_ms x_X5_isNoneGrowingWithSize tx_X5_isNoneGrowingWithSize 3 (i_psh (.int (6)) 5) := s_bipush dX5_isNoneGrowingWithSize_3 rfl
theorem s_X5_isNoneGrowingWithSize_5 {X : ev_E} {l : Launch} (hG : ev_Good X) (hl : l.stackTraces = false) : ev_Snd X l ev_ms x_X5_isNoneGrowingWithSize tx_X5_isNoneGrowingWithSize 5 (i_icge 56 8) := s_icge dX5_isNoneGrowingWithSize_5 rfl
theorem s_X5_isNoneGrowingWithSize_8 {X : ev_E} {l : Launch} (hG : ev_Good X) (hl : l.stackTraces = false) : ev_Snd X l ev_ms x_X5_isNoneGrowingWithSize tx_X5_isNoneGrowingWithSize 8 (i_al 0 9) := s_aload_n dX5_isNoneGrowingWithSize_8 rfl
theorem s_X5_isNoneGrowingWithSize_9 {X : ev_E} {l : Launch} (hG : ev_Good X) (hl : l.stackTraces = false) : ev_Snd X l ev_ms x_X5_isNoneGrowingWithSize tx_X5_isNoneGrowingWithSize 9 (i_gf X 10 3 12) := s_getfield hG (ci := 10) (r := (RX5, TX5, 7)) rfl cw_10 (k := 3) (Nat.le_of_ble_eq_true rfl) w_220 rfl (Or.inl rfl) dX5_isNoneGrowingWithSize_9
theorem s_X5_isNoneGrowingWithSize_12 {X : ev_E} {l : Launch} (hG : ev_Good X) (hl : l.stackTraces = false) : ev_Snd X l ev_ms x_X5_isNoneGrowingWithSize tx_X5_isNoneGrowingWithSize 12 (i_il 1 13) := s_iload_n dX5_isNoneGrowingWithSize_12 rfl
theorem s_X5_isNoneGrowingWithSize_13 {X : ev_E} {l : Launch} (hG : ev_Good X) (hl : l.stackTraces = false) : ev_Snd X l ev_ms x_X5_isNoneGrowingWithSize tx_X5_isNoneGrowingWithSize 13 (i_ald X FieldType.isReference 14) := s_aaload hG dX5_isNoneGrowingWithSize_13
theorem s_X5_isNoneGrowingWithSize_14 {X : ev_E} {l : Launch} (hG : ev_Good X) (hl : l.stackTraces = false) : ev_Snd X l ev_ms x_X5_isNoneGrowingWithSize tx_X5_isNoneGrowingWithSize 14 (i_gf X 6 1 17) := s_getfieldN hG (ci := 6) (r := (RX1, TX1, 3)) rfl cw_6 (k := 1) (Nat.le_of_ble_eq_true rfl) w_207 rfl dX5_isNoneGrowingWithSize_14
theorem s_X5_isNoneGrowingWithSize_17 {X : ev_E} {l : Launch} (hG : ev_Good X) (hl : l.stackTraces = false) : ev_Snd X l ev_ms x_X5_isNoneGrowingWithSize tx_X5_isNoneGrowingWithSize 17 (i_al 0 18) := s_aload_n dX5_isNoneGrowingWithSize_17 rfl
theorem s_X5_isNoneGrowingWithSize_18 {X : ev_E} {l : Launch} (hG : ev_Good X) (hl : l.stackTraces = false) : ev_Snd X l ev_ms x_X5_isNoneGrowingWithSize tx_X5_isNoneGrowingWithSize 18 (i_gf X 10 3 21) := s_getfield hG (ci := 10) (r := (RX5, TX5, 7)) rfl cw_10 (k := 3) (Nat.le_of_ble_eq_true rfl) w_220 rfl (Or.inl rfl) dX5_isNoneGrowingWithSize_18
theorem s_X5_isNoneGrowingWithSize_21 {X : ev_E} {l : Launch} (hG : ev_Good X) (hl : l.stackTraces = false) : ev_Snd X l ev_ms x_X5_isNoneGrowingWithSize tx_X5_isNoneGrowingWithSize 21 (i_il 1 22) := s_iload_n dX5_isNoneGrowingWithSize_21 rfl
theorem s_X5_isNoneGrowingWithSize_22 {X : ev_E} {l : Launch} (hG : ev_Good X) (hl : l.stackTraces = false) : ev_Snd X l ev_ms x_X5_isNoneGrowingWithSize tx_X5_isNoneGrowingWithSize 22 (i_psh (.int (1)) 23) := s_iconst dX5_isNoneGrowingWithSize_22 rfl
theorem s_X5_isNoneGrowingWithSize_23 {X : ev_E} {l : Launch} (hG : ev_Good X) (hl : l.stackTraces = false) : ev_Snd X l ev_ms x_X5_isNoneGrowingWithSize tx_X5_isNoneGrowingWithSize 23 (i_ii (fun a b => a - b) 24) := s_isub dX5_isNoneGrowingWithSize_23
theorem s_X5_isNoneGrowingWithSize_24 {X : ev_E} {l : Launch} (hG : ev_Good X) (hl : l.stackTraces = false) : ev_Snd X l ev_ms x_X5_isNoneGrowingWithSize tx_X5_isNoneGrowingWithSize 24 (i_ald X FieldType.isReference 25) := s_aaload hG dX5_isNoneGrowingWithSize_24
theorem s_X5_isNoneGrowingWithSize_25 {X : ev_E} {l : Launch} (hG : ev_Good X) (hl : l.stackTraces = false) : ev_Snd X l ev_ms x_X5_isNoneGrowingWithSize tx_X5_isNoneGrowingWithSize 25 (i_gf X 6 1 28) := s_getfieldN hG (ci := 6) (r := (RX1, TX1, 3)) rfl cw_6 (k := 1) (Nat.le_of_ble_eq_true rfl) w_207 rfl dX5_isNoneGrowingWithSize_25
theorem s_X5_isNoneGrowingWithSize_28 {X : ev_E} {l : Launch} (hG : ev_Good X) (hl : l.stackTraces = false) : ev_Snd X l ev_ms x_X5_isNoneGrowingWithSize tx_X5_isNoneGrowingWithSize 28 (i_icgt 48 31) := s_icgt dX5_isNoneGrowingWithSize_28 rfl
theorem s_X5_isNoneGrowingWithSize_31 {X : ev_E} {l : Launch} (hG : ev_Good X) (hl : l.stackTraces = false) : ev_Snd X l ev_ms x_X5_isNoneGrowingWithSize tx_X5_isNoneGrowingWithSize 31 (i_al 0 32) := s_aload_n dX5_isNoneGrowingWithSize_31 rfl
theorem s_X5_isNoneGrowingWithSize_32 {X : ev_E} {l : Launch} (hG : ev_Good X) (hl : l.stackTraces = false) : ev_Snd X l ev_ms x_X5_isNoneGrowingWithSize tx_X5_isNoneGrowingWithSize 32 (i_gf X 10 4 35) := s_getfield hG (ci := 10) (r := (RX5, TX5, 7)) rfl cw_10 (k := 4) (Nat.le_of_ble_eq_true rfl) w_221 rfl (Or.inl rfl) dX5_isNoneGrowingWithSize_32
theorem s_X5_isNoneGrowingWithSize_35 {X : ev_E} {l : Launch} (hG : ev_Good X) (hl : l.stackTraces = false) : ev_Snd X l ev_ms x_X5_isNoneGrowingWithSize tx_X5_isNoneGrowingWithSize 35 (i_il 1 36) := s_iload_n dX5_isNoneGrowingWithSize_35 rfl
theorem s_X5_isNoneGrowingWithSize_36 {X : ev_E} {l : Launch} (hG : ev_Good X) (hl : l.stackTraces = false) : ev_Snd X l ev_ms x_X5_isNoneGrowingWithSize tx_X5_isNoneGrowingWithSize 36 (i_ald X ev_tI 37) := s_iaload hG dX5_isNoneGrowingWithSize_36
theorem s_X5_isNoneGrowingWithSize_37 {X : ev_E} {l : Launch} (hG : ev_Good X) (hl : l.stackTraces = false) : ev_Snd X l ev_ms x_X5_isNoneGrowingWithSize tx_X5_isNoneGrowingWithSize 37 (i_al 0 38) := s_aload_n dX5_isNoneGrowingWithSize_37 rfl
theorem s_X5_isNoneGrowingWithSize_38 {X : ev_E} {l : Launch} (hG : ev_Good X) (hl : l.stackTraces = false) : ev_Snd X l ev_ms x_X5_isNoneGrowingWithSize tx_X5_isNoneGrowingWithSize 38 (i_gf X 10 4 41) := s_getfield hG (ci := 10) (r := (RX5, TX5, 7)) rfl cw_10 (k := 4) (Nat.le_of_ble_eq_true rfl) w_221 rfl (Or.inl rfl) dX5_isNoneGrowingWithSize_38
theorem s_X5_isNoneGrowingWithSize_41 {X : ev_E} {l : Launch} (hG : ev_Good X) (hl : l.stackTraces = false) : ev_Snd X l ev_ms x_X5_isNoneGrowingWithSize tx_X5_isNoneGrowingWithSize 41 (i_il 1 42) := s_iload_n dX5_isNoneGrowingWithSize_41 rfl
theorem s_X5_isNoneGrowingWithSize_42 {X : ev_E} {l : Launch} (hG : ev_Good X) (hl : l.stackTraces = false) : ev_Snd X l ev_ms x_X5_isNoneGrowingWithSize tx_X5_isNoneGrowingWithSize 42 (i_psh (.int (1)) 43) := s_iconst dX5_isNoneGrowingWithSize_42 rfl
theorem s_X5_isNoneGrowingWithSize_43 {X : ev_E} {l : Launch} (hG : ev_Good X) (hl : l.stackTraces = false) : ev_Snd X l ev_ms x_X5_isNoneGrowingWithSize tx_X5_isNoneGrowingWithSize 43 (i_ii (fun a b => a - b) 44) := s_isub dX5_isNoneGrowingWithSize_43
theorem s_X5_isNoneGrowingWithSize_44 {X : ev_E} {l : Launch} (hG : ev_Good X) (hl : l.stackTraces = false) : ev_Snd X l ev_ms x_X5_isNoneGrowingWithSize tx_X5_isNoneGrowingWithSize 44 (i_ald X ev_tI 45) := s_iaload hG dX5_isNoneGrowingWithSize_44
theorem s_X5_isNoneGrowingWithSize_45 {X : ev_E} {l : Launch} (hG : ev_Good X) (hl : l.stackTraces = false) : ev_Snd X l ev_ms x_X5_isNoneGrowingWithSize tx_X5_isNoneGrowingWithSize 45 (i_icle 50 48) := s_icle dX5_isNoneGrowingWithSize_45 rfl
theorem s_X5_isNoneGrowingWithSize_48 {X : ev_E} {l : Launch} (hG : ev_Good X) (hl : l.stackTraces = false) : ev_Snd X l ev_ms x_X5_isNoneGrowingWithSize tx_X5_isNoneGrowingWithSize 48 (i_psh (.int (0)) 49) := s_iconst dX5_isNoneGrowingWithSize_48 rfl
theorem s_X5_isNoneGrowingWithSize_49 {X : ev_E} {l : Launch} (hG : ev_Good X) (hl : l.stackTraces = false) : ev_Snd X l ev_ms x_X5_isNoneGrowingWithSize tx_X5_isNoneGrowingWithSize 49 (i_ir (.boolean)) := s_ireturn rfl dX5_isNoneGrowingWithSize_49
theorem s_X5_isNoneGrowingWithSize_50 {X : ev_E} {l : Launch} (hG : ev_Good X) (hl : l.stackTraces = false) : ev_Snd X l ev_ms x_X5_isNoneGrowingWithSize tx_X5_isNoneGrowingWithSize 50 (i_inc 1 (1) 53) := s_iinc dX5_isNoneGrowingWithSize_50 rfl (Nat.le_of_ble_eq_true rfl)
theorem s_X5_isNoneGrowingWithSize_53 {X : ev_E} {l : Launch} (hG : ev_Good X) (hl : l.stackTraces = false) : ev_Snd X l ev_ms x_X5_isNoneGrowingWithSize tx_X5_isNoneGrowingWithSize 53 (i_goto 2) := s_goto dX5_isNoneGrowingWithSize_53 rfl
theorem s_X5_isNoneGrowingWithSize_56 {X : ev_E} {l : Launch} (hG : ev_Good X) (hl : l.stackTraces = false) : ev_Snd X l ev_ms x_X5_isNoneGrowingWithSize tx_X5_isNoneGrowingWithSize 56 (i_psh (.int (1)) 57) := s_iconst dX5_isNoneGrowingWithSize_56 rfl
theorem s_X5_isNoneGrowingWithSize_57 {X : ev_E} {l : Launch} (hG : ev_Good X) (hl : l.stackTraces = false) : ev_Snd X l ev_ms x_X5_isNoneGrowingWithSize tx_X5_isNoneGrowingWithSize 57 (i_ir (.boolean)) := s_ireturn rfl dX5_isNoneGrowingWithSize_57
theorem sa_X5_isNoneGrowingWithSize {X : ev_E} {l : Launch} (hG : ev_Good X) (hl : l.stackTraces = false) : ∀ q ∈ tb_X5_isNoneGrowingWithSize X, ev_Snd X l ev_ms x_X5_isNoneGrowingWithSize tx_X5_isNoneGrowingWithSize q.1 q.2 := by
  intro q hq
  unfold tb_X5_isNoneGrowingWithSize at hq
  simp only [List.mem_cons, List.not_mem_nil, or_false] at hq
  rcases hq with rfl | rfl | rfl | rfl | rfl | rfl | rfl | rfl | rfl | rfl | rfl | rfl | rfl | rfl | rfl | rfl | rfl | rfl | rfl | rfl | rfl | rfl | rfl | rfl | rfl | rfl | rfl | rfl | rfl | rfl | rfl | rfl | rfl | rfl | rfl
  · exact s_X5_isNoneGrowingWithSize_0 hG hl
  · exact s_X5_isNoneGrowingWithSize_1 hG hl
  · exact s_X5_isNoneGrowingWithSize_2 hG hl
  · exact s_X5_isNoneGrowingWithSize_3 hG hl
  · exact s_X5_isNoneGrowingWithSize_5 hG hl
  · exact s_X5_isNoneGrowingWithSize_8 hG hl
  · exact s_X5_isNoneGrowingWithSize_9 hG hl
  · exact s_X5_isNoneGrowingWithSize_12 hG hl
  · exact s_X5_isNoneGrowingWithSize_13 hG hl
  · exact s_X5_isNoneGrowingWithSize_14 hG hl
  · exact s_X5_isNoneGrowingWithSize_17 hG hl
  · exact s_X5_isNoneGrowingWithSize_18 hG hl
  · exact s_X5_isNoneGrowingWithSize_21 hG hl
  · exact s_X5_isNoneGrowingWithSize_22 hG hl
  · exact s_X5_isNoneGrowingWithSize_23 hG hl
  · exact s_X5_isNoneGrowingWithSize_24 hG hl
  · exact s_X5_isNoneGrowingWithSize_25 hG hl
  · exact s_X5_isNoneGrowingWithSize_28 hG hl
  · exact s_X5_isNoneGrowingWithSize_31 hG hl
  · exact s_X5_isNoneGrowingWithSize_32 hG hl
  · exact s_X5_isNoneGrowingWithSize_35 hG hl
  · exact s_X5_isNoneGrowingWithSize_36 hG hl
  · exact s_X5_isNoneGrowingWithSize_37 hG hl
  · exact s_X5_isNoneGrowingWithSize_38 hG hl
  · exact s_X5_isNoneGrowingWithSize_41 hG hl
  · exact s_X5_isNoneGrowingWithSize_42 hG hl
  · exact s_X5_isNoneGrowingWithSize_43 hG hl
  · exact s_X5_isNoneGrowingWithSize_44 hG hl
  · exact s_X5_isNoneGrowingWithSize_45 hG hl
  · exact s_X5_isNoneGrowingWithSize_48 hG hl
  · exact s_X5_isNoneGrowingWithSize_49 hG hl
  · exact s_X5_isNoneGrowingWithSize_50 hG hl
  · exact s_X5_isNoneGrowingWithSize_53 hG hl
  · exact s_X5_isNoneGrowingWithSize_56 hG hl
  · exact s_X5_isNoneGrowingWithSize_57 hG hl
def tx_X5_isTheoremKept : ev_X := fun _ _ => some none
noncomputable def tb_X5_isTheoremKept (X : ev_E) : List (Nat × (ev_S → ev_N)) := [(0, i_psh (.int (1)) 1), (1, i_is 1 2), (2, i_il 1 3), (3, i_psh (.int (6)) 5), (5, i_icgt 59 8), (8, i_psh (.int (1)) 9), (9, i_is 2 10), (10, i_il 2 11), (11, i_il 1 12), (12, i_icgt 53 15), (15, i_al 0 16), (16, i_gf X 10 3 19), (19, i_il 1 20), (20, i_psh (.int (1)) 21), (21, i_ii (fun a b => a - b) 22), (22, i_ald X FieldType.isReference 23), (23, i_gf X 6 1 26), (26, i_il 1 27), (27, i_il 2 28), (28, i_ii (fun a b => a - b) 29), (29, i_psh (.int (1)) 30), (30, i_ii (fun a b => a + b) 31), (31, i_ii (fun a b => a * b) 32), (32, i_al 0 33), (33, i_gf X 10 4 36), (36, i_il 2 37), (37, i_psh (.int (1)) 38), (38, i_ii (fun a b => a - b) 39), (39, i_ald X ev_tI 40), (40, i_il 1 41), (41, i_ii (fun a b => a * b) 42), (42, i_icle 47 45), (45, i_psh (.int (0)) 46), (46, i_ir (.boolean)), (47, i_inc 2 (1) 50), (50, i_goto 10), (53, i_inc 1 (1) 56), (56, i_goto 2), (59, i_psh (.int (1)) 60), (60, i_ir (.boolean))]
theorem s_X5_isTheoremKept_0 {X : ev_E} {l : Launch} (hG : ev_Good X) (hl : l.stackTraces = false) : ev_Snd X l ev_ms x_X5_isTheoremKept tx_X5_isTheoremKept 0 (i_psh (.int (1)) 1) := s_iconst dX5_isTheoremKept_0 rfl
theorem s_X5_isTheoremKept_1 {X : ev_E} {l : Launch} (hG : ev_Good X) (hl : l.stackTraces = false) : ev_Snd X l ev_ms x_X5_isTheoremKept tx_X5_isTheoremKept 1 (i_is 1 2) := s_istore_n dX5_isTheoremKept_1 rfl (Nat.le_of_ble_eq_true rfl)
theorem s_X5_isTheoremKept_2 {X : ev_E} {l : Launch} (hG : ev_Good X) (hl : l.stackTraces = false) : ev_Snd X l ev_ms x_X5_isTheoremKept tx_X5_isTheoremKept 2 (i_il 1 3) := s_iload_n dX5_isTheoremKept_2 rfl
theorem s_X5_isTheoremKept_3 {X : ev_E} {l : Launch} (hG : ev_Good X) (hl : l.stackTraces = false) : ev_Snd X l ev_ms x_X5_isTheoremKept tx_X5_isTheoremKept 3 (i_psh (.int (6)) 5) := s_bipush dX5_isTheoremKept_3 rfl
theorem s_X5_isTheoremKept_5 {X : ev_E} {l : Launch} (hG : ev_Good X) (hl : l.stackTraces = false) : ev_Snd X l ev_ms x_X5_isTheoremKept tx_X5_isTheoremKept 5 (i_icgt 59 8) := s_icgt dX5_isTheoremKept_5 rfl
theorem s_X5_isTheoremKept_8 {X : ev_E} {l : Launch} (hG : ev_Good X) (hl : l.stackTraces = false) : ev_Snd X l ev_ms x_X5_isTheoremKept tx_X5_isTheoremKept 8 (i_psh (.int (1)) 9) := s_iconst dX5_isTheoremKept_8 rfl
theorem s_X5_isTheoremKept_9 {X : ev_E} {l : Launch} (hG : ev_Good X) (hl : l.stackTraces = false) : ev_Snd X l ev_ms x_X5_isTheoremKept tx_X5_isTheoremKept 9 (i_is 2 10) := s_istore_n dX5_isTheoremKept_9 rfl (Nat.le_of_ble_eq_true rfl)
theorem s_X5_isTheoremKept_10 {X : ev_E} {l : Launch} (hG : ev_Good X) (hl : l.stackTraces = false) : ev_Snd X l ev_ms x_X5_isTheoremKept tx_X5_isTheoremKept 10 (i_il 2 11) := s_iload_n dX5_isTheoremKept_10 rfl
theorem s_X5_isTheoremKept_11 {X : ev_E} {l : Launch} (hG : ev_Good X) (hl : l.stackTraces = false) : ev_Snd X l ev_ms x_X5_isTheoremKept tx_X5_isTheoremKept 11 (i_il 1 12) := s_iload_n dX5_isTheoremKept_11 rfl
theorem s_X5_isTheoremKept_12 {X : ev_E} {l : Launch} (hG : ev_Good X) (hl : l.stackTraces = false) : ev_Snd X l ev_ms x_X5_isTheoremKept tx_X5_isTheoremKept 12 (i_icgt 53 15) := s_icgt dX5_isTheoremKept_12 rfl
theorem s_X5_isTheoremKept_15 {X : ev_E} {l : Launch} (hG : ev_Good X) (hl : l.stackTraces = false) : ev_Snd X l ev_ms x_X5_isTheoremKept tx_X5_isTheoremKept 15 (i_al 0 16) := s_aload_n dX5_isTheoremKept_15 rfl
theorem s_X5_isTheoremKept_16 {X : ev_E} {l : Launch} (hG : ev_Good X) (hl : l.stackTraces = false) : ev_Snd X l ev_ms x_X5_isTheoremKept tx_X5_isTheoremKept 16 (i_gf X 10 3 19) := s_getfield hG (ci := 10) (r := (RX5, TX5, 7)) rfl cw_10 (k := 3) (Nat.le_of_ble_eq_true rfl) w_220 rfl (Or.inl rfl) dX5_isTheoremKept_16
theorem s_X5_isTheoremKept_19 {X : ev_E} {l : Launch} (hG : ev_Good X) (hl : l.stackTraces = false) : ev_Snd X l ev_ms x_X5_isTheoremKept tx_X5_isTheoremKept 19 (i_il 1 20) := s_iload_n dX5_isTheoremKept_19 rfl
theorem s_X5_isTheoremKept_20 {X : ev_E} {l : Launch} (hG : ev_Good X) (hl : l.stackTraces = false) : ev_Snd X l ev_ms x_X5_isTheoremKept tx_X5_isTheoremKept 20 (i_psh (.int (1)) 21) := s_iconst dX5_isTheoremKept_20 rfl
theorem s_X5_isTheoremKept_21 {X : ev_E} {l : Launch} (hG : ev_Good X) (hl : l.stackTraces = false) : ev_Snd X l ev_ms x_X5_isTheoremKept tx_X5_isTheoremKept 21 (i_ii (fun a b => a - b) 22) := s_isub dX5_isTheoremKept_21
theorem s_X5_isTheoremKept_22 {X : ev_E} {l : Launch} (hG : ev_Good X) (hl : l.stackTraces = false) : ev_Snd X l ev_ms x_X5_isTheoremKept tx_X5_isTheoremKept 22 (i_ald X FieldType.isReference 23) := s_aaload hG dX5_isTheoremKept_22
theorem s_X5_isTheoremKept_23 {X : ev_E} {l : Launch} (hG : ev_Good X) (hl : l.stackTraces = false) : ev_Snd X l ev_ms x_X5_isTheoremKept tx_X5_isTheoremKept 23 (i_gf X 6 1 26) := s_getfieldN hG (ci := 6) (r := (RX1, TX1, 3)) rfl cw_6 (k := 1) (Nat.le_of_ble_eq_true rfl) w_207 rfl dX5_isTheoremKept_23
theorem s_X5_isTheoremKept_26 {X : ev_E} {l : Launch} (hG : ev_Good X) (hl : l.stackTraces = false) : ev_Snd X l ev_ms x_X5_isTheoremKept tx_X5_isTheoremKept 26 (i_il 1 27) := s_iload_n dX5_isTheoremKept_26 rfl
theorem s_X5_isTheoremKept_27 {X : ev_E} {l : Launch} (hG : ev_Good X) (hl : l.stackTraces = false) : ev_Snd X l ev_ms x_X5_isTheoremKept tx_X5_isTheoremKept 27 (i_il 2 28) := s_iload_n dX5_isTheoremKept_27 rfl
theorem s_X5_isTheoremKept_28 {X : ev_E} {l : Launch} (hG : ev_Good X) (hl : l.stackTraces = false) : ev_Snd X l ev_ms x_X5_isTheoremKept tx_X5_isTheoremKept 28 (i_ii (fun a b => a - b) 29) := s_isub dX5_isTheoremKept_28
theorem s_X5_isTheoremKept_29 {X : ev_E} {l : Launch} (hG : ev_Good X) (hl : l.stackTraces = false) : ev_Snd X l ev_ms x_X5_isTheoremKept tx_X5_isTheoremKept 29 (i_psh (.int (1)) 30) := s_iconst dX5_isTheoremKept_29 rfl
theorem s_X5_isTheoremKept_30 {X : ev_E} {l : Launch} (hG : ev_Good X) (hl : l.stackTraces = false) : ev_Snd X l ev_ms x_X5_isTheoremKept tx_X5_isTheoremKept 30 (i_ii (fun a b => a + b) 31) := s_iadd dX5_isTheoremKept_30
theorem s_X5_isTheoremKept_31 {X : ev_E} {l : Launch} (hG : ev_Good X) (hl : l.stackTraces = false) : ev_Snd X l ev_ms x_X5_isTheoremKept tx_X5_isTheoremKept 31 (i_ii (fun a b => a * b) 32) := s_imul dX5_isTheoremKept_31
theorem s_X5_isTheoremKept_32 {X : ev_E} {l : Launch} (hG : ev_Good X) (hl : l.stackTraces = false) : ev_Snd X l ev_ms x_X5_isTheoremKept tx_X5_isTheoremKept 32 (i_al 0 33) := s_aload_n dX5_isTheoremKept_32 rfl
theorem s_X5_isTheoremKept_33 {X : ev_E} {l : Launch} (hG : ev_Good X) (hl : l.stackTraces = false) : ev_Snd X l ev_ms x_X5_isTheoremKept tx_X5_isTheoremKept 33 (i_gf X 10 4 36) := s_getfield hG (ci := 10) (r := (RX5, TX5, 7)) rfl cw_10 (k := 4) (Nat.le_of_ble_eq_true rfl) w_221 rfl (Or.inl rfl) dX5_isTheoremKept_33
theorem s_X5_isTheoremKept_36 {X : ev_E} {l : Launch} (hG : ev_Good X) (hl : l.stackTraces = false) : ev_Snd X l ev_ms x_X5_isTheoremKept tx_X5_isTheoremKept 36 (i_il 2 37) := s_iload_n dX5_isTheoremKept_36 rfl
theorem s_X5_isTheoremKept_37 {X : ev_E} {l : Launch} (hG : ev_Good X) (hl : l.stackTraces = false) : ev_Snd X l ev_ms x_X5_isTheoremKept tx_X5_isTheoremKept 37 (i_psh (.int (1)) 38) := s_iconst dX5_isTheoremKept_37 rfl
theorem s_X5_isTheoremKept_38 {X : ev_E} {l : Launch} (hG : ev_Good X) (hl : l.stackTraces = false) : ev_Snd X l ev_ms x_X5_isTheoremKept tx_X5_isTheoremKept 38 (i_ii (fun a b => a - b) 39) := s_isub dX5_isTheoremKept_38
theorem s_X5_isTheoremKept_39 {X : ev_E} {l : Launch} (hG : ev_Good X) (hl : l.stackTraces = false) : ev_Snd X l ev_ms x_X5_isTheoremKept tx_X5_isTheoremKept 39 (i_ald X ev_tI 40) := s_iaload hG dX5_isTheoremKept_39
theorem s_X5_isTheoremKept_40 {X : ev_E} {l : Launch} (hG : ev_Good X) (hl : l.stackTraces = false) : ev_Snd X l ev_ms x_X5_isTheoremKept tx_X5_isTheoremKept 40 (i_il 1 41) := s_iload_n dX5_isTheoremKept_40 rfl
theorem s_X5_isTheoremKept_41 {X : ev_E} {l : Launch} (hG : ev_Good X) (hl : l.stackTraces = false) : ev_Snd X l ev_ms x_X5_isTheoremKept tx_X5_isTheoremKept 41 (i_ii (fun a b => a * b) 42) := s_imul dX5_isTheoremKept_41
theorem s_X5_isTheoremKept_42 {X : ev_E} {l : Launch} (hG : ev_Good X) (hl : l.stackTraces = false) : ev_Snd X l ev_ms x_X5_isTheoremKept tx_X5_isTheoremKept 42 (i_icle 47 45) := s_icle dX5_isTheoremKept_42 rfl
theorem s_X5_isTheoremKept_45 {X : ev_E} {l : Launch} (hG : ev_Good X) (hl : l.stackTraces = false) : ev_Snd X l ev_ms x_X5_isTheoremKept tx_X5_isTheoremKept 45 (i_psh (.int (0)) 46) := s_iconst dX5_isTheoremKept_45 rfl
theorem s_X5_isTheoremKept_46 {X : ev_E} {l : Launch} (hG : ev_Good X) (hl : l.stackTraces = false) : ev_Snd X l ev_ms x_X5_isTheoremKept tx_X5_isTheoremKept 46 (i_ir (.boolean)) := s_ireturn rfl dX5_isTheoremKept_46
theorem s_X5_isTheoremKept_47 {X : ev_E} {l : Launch} (hG : ev_Good X) (hl : l.stackTraces = false) : ev_Snd X l ev_ms x_X5_isTheoremKept tx_X5_isTheoremKept 47 (i_inc 2 (1) 50) := s_iinc dX5_isTheoremKept_47 rfl (Nat.le_of_ble_eq_true rfl)
theorem s_X5_isTheoremKept_50 {X : ev_E} {l : Launch} (hG : ev_Good X) (hl : l.stackTraces = false) : ev_Snd X l ev_ms x_X5_isTheoremKept tx_X5_isTheoremKept 50 (i_goto 10) := s_goto dX5_isTheoremKept_50 rfl
theorem s_X5_isTheoremKept_53 {X : ev_E} {l : Launch} (hG : ev_Good X) (hl : l.stackTraces = false) : ev_Snd X l ev_ms x_X5_isTheoremKept tx_X5_isTheoremKept 53 (i_inc 1 (1) 56) := s_iinc dX5_isTheoremKept_53 rfl (Nat.le_of_ble_eq_true rfl)
theorem s_X5_isTheoremKept_56 {X : ev_E} {l : Launch} (hG : ev_Good X) (hl : l.stackTraces = false) : ev_Snd X l ev_ms x_X5_isTheoremKept tx_X5_isTheoremKept 56 (i_goto 2) := s_goto dX5_isTheoremKept_56 rfl
theorem s_X5_isTheoremKept_59 {X : ev_E} {l : Launch} (hG : ev_Good X) (hl : l.stackTraces = false) : ev_Snd X l ev_ms x_X5_isTheoremKept tx_X5_isTheoremKept 59 (i_psh (.int (1)) 60) := s_iconst dX5_isTheoremKept_59 rfl
theorem s_X5_isTheoremKept_60 {X : ev_E} {l : Launch} (hG : ev_Good X) (hl : l.stackTraces = false) : ev_Snd X l ev_ms x_X5_isTheoremKept tx_X5_isTheoremKept 60 (i_ir (.boolean)) := s_ireturn rfl dX5_isTheoremKept_60
theorem sa_X5_isTheoremKept {X : ev_E} {l : Launch} (hG : ev_Good X) (hl : l.stackTraces = false) : ∀ q ∈ tb_X5_isTheoremKept X, ev_Snd X l ev_ms x_X5_isTheoremKept tx_X5_isTheoremKept q.1 q.2 := by
  intro q hq
  unfold tb_X5_isTheoremKept at hq
  simp only [List.mem_cons, List.not_mem_nil, or_false] at hq
  rcases hq with rfl | rfl | rfl | rfl | rfl | rfl | rfl | rfl | rfl | rfl | rfl | rfl | rfl | rfl | rfl | rfl | rfl | rfl | rfl | rfl | rfl | rfl | rfl | rfl | rfl | rfl | rfl | rfl | rfl | rfl | rfl | rfl | rfl | rfl | rfl | rfl | rfl | rfl | rfl | rfl
  · exact s_X5_isTheoremKept_0 hG hl
  · exact s_X5_isTheoremKept_1 hG hl
  · exact s_X5_isTheoremKept_2 hG hl
  · exact s_X5_isTheoremKept_3 hG hl
  · exact s_X5_isTheoremKept_5 hG hl
  · exact s_X5_isTheoremKept_8 hG hl
  · exact s_X5_isTheoremKept_9 hG hl
  · exact s_X5_isTheoremKept_10 hG hl
  · exact s_X5_isTheoremKept_11 hG hl
  · exact s_X5_isTheoremKept_12 hG hl
  · exact s_X5_isTheoremKept_15 hG hl
  · exact s_X5_isTheoremKept_16 hG hl
  · exact s_X5_isTheoremKept_19 hG hl
  · exact s_X5_isTheoremKept_20 hG hl
  · exact s_X5_isTheoremKept_21 hG hl
  · exact s_X5_isTheoremKept_22 hG hl
  · exact s_X5_isTheoremKept_23 hG hl
  · exact s_X5_isTheoremKept_26 hG hl
  · exact s_X5_isTheoremKept_27 hG hl
  · exact s_X5_isTheoremKept_28 hG hl
  · exact s_X5_isTheoremKept_29 hG hl
  · exact s_X5_isTheoremKept_30 hG hl
  · exact s_X5_isTheoremKept_31 hG hl
  · exact s_X5_isTheoremKept_32 hG hl
  · exact s_X5_isTheoremKept_33 hG hl
  · exact s_X5_isTheoremKept_36 hG hl
  · exact s_X5_isTheoremKept_37 hG hl
  · exact s_X5_isTheoremKept_38 hG hl
  · exact s_X5_isTheoremKept_39 hG hl
  · exact s_X5_isTheoremKept_40 hG hl
  · exact s_X5_isTheoremKept_41 hG hl
  · exact s_X5_isTheoremKept_42 hG hl
  · exact s_X5_isTheoremKept_45 hG hl
  · exact s_X5_isTheoremKept_46 hG hl
  · exact s_X5_isTheoremKept_47 hG hl
  · exact s_X5_isTheoremKept_50 hG hl
  · exact s_X5_isTheoremKept_53 hG hl
  · exact s_X5_isTheoremKept_56 hG hl
  · exact s_X5_isTheoremKept_59 hG hl
  · exact s_X5_isTheoremKept_60 hG hl
def tx_X5_knock : ev_X := fun _ _ => some none
noncomputable def tb_X5_knock (X : ev_E) : List (Nat × (ev_S → ev_N)) := [(0, i_al 0 1), (1, i_dup 2), (2, i_gf X 10 6 5), (5, i_psh (.int (1)) 6), (6, i_ii (fun a b => a + b) 7), (7, i_pf 10 6 (.int) 10), (10, i_al 0 11), (11, i_gf X 10 6 14), (14, i_ir (.int))]
theorem s_X5_knock_0 {X : ev_E} {l : Launch} (hG : ev_Good X) (hl : l.stackTraces = false) : ev_Snd X l ev_ms x_X5_knock tx_X5_knock 0 (i_al 0 1) := s_aload_n dX5_knock_0 rfl
theorem s_X5_knock_1 {X : ev_E} {l : Launch} (hG : ev_Good X) (hl : l.stackTraces = false) : ev_Snd X l ev_ms x_X5_knock tx_X5_knock 1 (i_dup 2) := s_dup dX5_knock_1
theorem s_X5_knock_2 {X : ev_E} {l : Launch} (hG : ev_Good X) (hl : l.stackTraces = false) : ev_Snd X l ev_ms x_X5_knock tx_X5_knock 2 (i_gf X 10 6 5) := s_getfield hG (ci := 10) (r := (RX5, TX5, 7)) rfl cw_10 (k := 6) (Nat.le_of_ble_eq_true rfl) w_223 rfl (Or.inl rfl) dX5_knock_2
theorem s_X5_knock_5 {X : ev_E} {l : Launch} (hG : ev_Good X) (hl : l.stackTraces = false) : ev_Snd X l ev_ms x_X5_knock tx_X5_knock 5 (i_psh (.int (1)) 6) := s_iconst dX5_knock_5 rfl
theorem s_X5_knock_6 {X : ev_E} {l : Launch} (hG : ev_Good X) (hl : l.stackTraces = false) : ev_Snd X l ev_ms x_X5_knock tx_X5_knock 6 (i_ii (fun a b => a + b) 7) := s_iadd dX5_knock_6
theorem s_X5_knock_7 {X : ev_E} {l : Launch} (hG : ev_Good X) (hl : l.stackTraces = false) : ev_Snd X l ev_ms x_X5_knock tx_X5_knock 7 (i_pf 10 6 (.int) 10) := s_putfield hG (ci := 10) (r := (RX5, TX5, 7)) rfl cw_10 ap_10 (k := 6) (Nat.le_of_ble_eq_true rfl) rfl (by decide +kernel) w_223 rfl (Or.inl rfl) dX5_knock_7
theorem s_X5_knock_10 {X : ev_E} {l : Launch} (hG : ev_Good X) (hl : l.stackTraces = false) : ev_Snd X l ev_ms x_X5_knock tx_X5_knock 10 (i_al 0 11) := s_aload_n dX5_knock_10 rfl
theorem s_X5_knock_11 {X : ev_E} {l : Launch} (hG : ev_Good X) (hl : l.stackTraces = false) : ev_Snd X l ev_ms x_X5_knock tx_X5_knock 11 (i_gf X 10 6 14) := s_getfield hG (ci := 10) (r := (RX5, TX5, 7)) rfl cw_10 (k := 6) (Nat.le_of_ble_eq_true rfl) w_223 rfl (Or.inl rfl) dX5_knock_11
theorem s_X5_knock_14 {X : ev_E} {l : Launch} (hG : ev_Good X) (hl : l.stackTraces = false) : ev_Snd X l ev_ms x_X5_knock tx_X5_knock 14 (i_ir (.int)) := s_ireturn rfl dX5_knock_14
theorem sa_X5_knock {X : ev_E} {l : Launch} (hG : ev_Good X) (hl : l.stackTraces = false) : ∀ q ∈ tb_X5_knock X, ev_Snd X l ev_ms x_X5_knock tx_X5_knock q.1 q.2 := by
  intro q hq
  unfold tb_X5_knock at hq
  simp only [List.mem_cons, List.not_mem_nil, or_false] at hq
  rcases hq with rfl | rfl | rfl | rfl | rfl | rfl | rfl | rfl | rfl
  · exact s_X5_knock_0 hG hl
  · exact s_X5_knock_1 hG hl
  · exact s_X5_knock_2 hG hl
  · exact s_X5_knock_5 hG hl
  · exact s_X5_knock_6 hG hl
  · exact s_X5_knock_7 hG hl
  · exact s_X5_knock_10 hG hl
  · exact s_X5_knock_11 hG hl
  · exact s_X5_knock_14 hG hl
def tx_X5_mixed : ev_X := fun _ _ => some none
noncomputable def tb_X5_mixed (X : ev_E) : List (Nat × (ev_S → ev_N)) := [(0, i_ll 0 1), (1, i_psh (.long 31) 4), (4, i_l2 (fun a b => a * b) 5), (5, i_il 2 6), (6, i_i2l 7), (7, i_l2 (fun a b => a + b) 8), (8, i_lr)]
theorem s_X5_mixed_0 {X : ev_E} {l : Launch} (hG : ev_Good X) (hl : l.stackTraces = false) : ev_Snd X l ev_ms x_X5_mixed tx_X5_mixed 0 (i_ll 0 1) := s_lload_n dX5_mixed_0 rfl
theorem s_X5_mixed_1 {X : ev_E} {l : Launch} (hG : ev_Good X) (hl : l.stackTraces = false) : ev_Snd X l ev_ms x_X5_mixed tx_X5_mixed 1 (i_psh (.long 31) 4) := s_ldc2 hG w_696 rfl dX5_mixed_1
theorem s_X5_mixed_4 {X : ev_E} {l : Launch} (hG : ev_Good X) (hl : l.stackTraces = false) : ev_Snd X l ev_ms x_X5_mixed tx_X5_mixed 4 (i_l2 (fun a b => a * b) 5) := s_lmul dX5_mixed_4
theorem s_X5_mixed_5 {X : ev_E} {l : Launch} (hG : ev_Good X) (hl : l.stackTraces = false) : ev_Snd X l ev_ms x_X5_mixed tx_X5_mixed 5 (i_il 2 6) := s_iload_n dX5_mixed_5 rfl
theorem s_X5_mixed_6 {X : ev_E} {l : Launch} (hG : ev_Good X) (hl : l.stackTraces = false) : ev_Snd X l ev_ms x_X5_mixed tx_X5_mixed 6 (i_i2l 7) := s_i2l dX5_mixed_6
theorem s_X5_mixed_7 {X : ev_E} {l : Launch} (hG : ev_Good X) (hl : l.stackTraces = false) : ev_Snd X l ev_ms x_X5_mixed tx_X5_mixed 7 (i_l2 (fun a b => a + b) 8) := s_ladd dX5_mixed_7
theorem s_X5_mixed_8 {X : ev_E} {l : Launch} (hG : ev_Good X) (hl : l.stackTraces = false) : ev_Snd X l ev_ms x_X5_mixed tx_X5_mixed 8 (i_lr) := s_lreturn rfl dX5_mixed_8
theorem sa_X5_mixed {X : ev_E} {l : Launch} (hG : ev_Good X) (hl : l.stackTraces = false) : ∀ q ∈ tb_X5_mixed X, ev_Snd X l ev_ms x_X5_mixed tx_X5_mixed q.1 q.2 := by
  intro q hq
  unfold tb_X5_mixed at hq
  simp only [List.mem_cons, List.not_mem_nil, or_false] at hq
  rcases hq with rfl | rfl | rfl | rfl | rfl | rfl | rfl
  · exact s_X5_mixed_0 hG hl
  · exact s_X5_mixed_1 hG hl
  · exact s_X5_mixed_4 hG hl
  · exact s_X5_mixed_5 hG hl
  · exact s_X5_mixed_6 hG hl
  · exact s_X5_mixed_7 hG hl
  · exact s_X5_mixed_8 hG hl
def tx_X5_pairsOfTables : ev_X := fun _ _ => some none
noncomputable def tb_X5_pairsOfTables (X : ev_E) : List (Nat × (ev_S → ev_N)) := [(0, i_psh (.int (0)) 1), (1, i_is 1 2), (2, i_al 0 3), (3, i_gf X 10 0 6), (6, i_as 2 7), (7, i_al 2 8), (8, i_len X 9), (9, i_is 3 10), (10, i_psh (.int (0)) 11), (11, i_is 4 13), (13, i_il 4 15), (15, i_il 3 16), (16, i_icge 42 19), (19, i_al 2 20), (20, i_il 4 22), (22, i_ald X FieldType.isReference 23), (23, i_as 5 25), (25, i_il 1 26), (26, i_al 5 28), (28, i_gf X 8 0 31), (31, i_gf X 7 2 34), (34, i_ii (fun a b => a + b) 35), (35, i_is 1 36), (36, i_inc 4 (1) 39), (39, i_goto 13), (42, i_il 1 43), (43, i_ir (.int))]
theorem s_X5_pairsOfTables_0 {X : ev_E} {l : Launch} (hG : ev_Good X) (hl : l.stackTraces = false) : ev_Snd X l ev_ms x_X5_pairsOfTables tx_X5_pairsOfTables 0 (i_psh (.int (0)) 1) := s_iconst dX5_pairsOfTables_0 rfl
theorem s_X5_pairsOfTables_1 {X : ev_E} {l : Launch} (hG : ev_Good X) (hl : l.stackTraces = false) : ev_Snd X l ev_ms x_X5_pairsOfTables tx_X5_pairsOfTables 1 (i_is 1 2) := s_istore_n dX5_pairsOfTables_1 rfl (Nat.le_of_ble_eq_true rfl)
theorem s_X5_pairsOfTables_2 {X : ev_E} {l : Launch} (hG : ev_Good X) (hl : l.stackTraces = false) : ev_Snd X l ev_ms x_X5_pairsOfTables tx_X5_pairsOfTables 2 (i_al 0 3) := s_aload_n dX5_pairsOfTables_2 rfl
theorem s_X5_pairsOfTables_3 {X : ev_E} {l : Launch} (hG : ev_Good X) (hl : l.stackTraces = false) : ev_Snd X l ev_ms x_X5_pairsOfTables tx_X5_pairsOfTables 3 (i_gf X 10 0 6) := s_getfield hG (ci := 10) (r := (RX5, TX5, 7)) rfl cw_10 (k := 0) (Nat.le_of_ble_eq_true rfl) w_217 rfl (Or.inl rfl) dX5_pairsOfTables_3
theorem s_X5_pairsOfTables_6 {X : ev_E} {l : Launch} (hG : ev_Good X) (hl : l.stackTraces = false) : ev_Snd X l ev_ms x_X5_pairsOfTables tx_X5_pairsOfTables 6 (i_as 2 7) := s_astore_n dX5_pairsOfTables_6 rfl (Nat.le_of_ble_eq_true rfl)
theorem s_X5_pairsOfTables_7 {X : ev_E} {l : Launch} (hG : ev_Good X) (hl : l.stackTraces = false) : ev_Snd X l ev_ms x_X5_pairsOfTables tx_X5_pairsOfTables 7 (i_al 2 8) := s_aload_n dX5_pairsOfTables_7 rfl
theorem s_X5_pairsOfTables_8 {X : ev_E} {l : Launch} (hG : ev_Good X) (hl : l.stackTraces = false) : ev_Snd X l ev_ms x_X5_pairsOfTables tx_X5_pairsOfTables 8 (i_len X 9) := s_arraylength hG dX5_pairsOfTables_8
theorem s_X5_pairsOfTables_9 {X : ev_E} {l : Launch} (hG : ev_Good X) (hl : l.stackTraces = false) : ev_Snd X l ev_ms x_X5_pairsOfTables tx_X5_pairsOfTables 9 (i_is 3 10) := s_istore_n dX5_pairsOfTables_9 rfl (Nat.le_of_ble_eq_true rfl)
theorem s_X5_pairsOfTables_10 {X : ev_E} {l : Launch} (hG : ev_Good X) (hl : l.stackTraces = false) : ev_Snd X l ev_ms x_X5_pairsOfTables tx_X5_pairsOfTables 10 (i_psh (.int (0)) 11) := s_iconst dX5_pairsOfTables_10 rfl
theorem s_X5_pairsOfTables_11 {X : ev_E} {l : Launch} (hG : ev_Good X) (hl : l.stackTraces = false) : ev_Snd X l ev_ms x_X5_pairsOfTables tx_X5_pairsOfTables 11 (i_is 4 13) := s_istore dX5_pairsOfTables_11 (Nat.le_of_ble_eq_true rfl)
theorem s_X5_pairsOfTables_13 {X : ev_E} {l : Launch} (hG : ev_Good X) (hl : l.stackTraces = false) : ev_Snd X l ev_ms x_X5_pairsOfTables tx_X5_pairsOfTables 13 (i_il 4 15) := s_iload dX5_pairsOfTables_13
theorem s_X5_pairsOfTables_15 {X : ev_E} {l : Launch} (hG : ev_Good X) (hl : l.stackTraces = false) : ev_Snd X l ev_ms x_X5_pairsOfTables tx_X5_pairsOfTables 15 (i_il 3 16) := s_iload_n dX5_pairsOfTables_15 rfl
theorem s_X5_pairsOfTables_16 {X : ev_E} {l : Launch} (hG : ev_Good X) (hl : l.stackTraces = false) : ev_Snd X l ev_ms x_X5_pairsOfTables tx_X5_pairsOfTables 16 (i_icge 42 19) := s_icge dX5_pairsOfTables_16 rfl
theorem s_X5_pairsOfTables_19 {X : ev_E} {l : Launch} (hG : ev_Good X) (hl : l.stackTraces = false) : ev_Snd X l ev_ms x_X5_pairsOfTables tx_X5_pairsOfTables 19 (i_al 2 20) := s_aload_n dX5_pairsOfTables_19 rfl
theorem s_X5_pairsOfTables_20 {X : ev_E} {l : Launch} (hG : ev_Good X) (hl : l.stackTraces = false) : ev_Snd X l ev_ms x_X5_pairsOfTables tx_X5_pairsOfTables 20 (i_il 4 22) := s_iload dX5_pairsOfTables_20
theorem s_X5_pairsOfTables_22 {X : ev_E} {l : Launch} (hG : ev_Good X) (hl : l.stackTraces = false) : ev_Snd X l ev_ms x_X5_pairsOfTables tx_X5_pairsOfTables 22 (i_ald X FieldType.isReference 23) := s_aaload hG dX5_pairsOfTables_22
theorem s_X5_pairsOfTables_23 {X : ev_E} {l : Launch} (hG : ev_Good X) (hl : l.stackTraces = false) : ev_Snd X l ev_ms x_X5_pairsOfTables tx_X5_pairsOfTables 23 (i_as 5 25) := s_astore dX5_pairsOfTables_23 (Nat.le_of_ble_eq_true rfl)
theorem s_X5_pairsOfTables_25 {X : ev_E} {l : Launch} (hG : ev_Good X) (hl : l.stackTraces = false) : ev_Snd X l ev_ms x_X5_pairsOfTables tx_X5_pairsOfTables 25 (i_il 1 26) := s_iload_n dX5_pairsOfTables_25 rfl
theorem s_X5_pairsOfTables_26 {X : ev_E} {l : Launch} (hG : ev_Good X) (hl : l.stackTraces = false) : ev_Snd X l ev_ms x_X5_pairsOfTables tx_X5_pairsOfTables 26 (i_al 5 28) := s_aload dX5_pairsOfTables_26
theorem s_X5_pairsOfTables_28 {X : ev_E} {l : Launch} (hG : ev_Good X) (hl : l.stackTraces = false) : ev_Snd X l ev_ms x_X5_pairsOfTables tx_X5_pairsOfTables 28 (i_gf X 8 0 31) := s_getfieldN hG (ci := 8) (r := (RX3, TX3, 2)) rfl cw_8 (k := 0) (Nat.le_of_ble_eq_true rfl) w_189 rfl dX5_pairsOfTables_28
theorem s_X5_pairsOfTables_31 {X : ev_E} {l : Launch} (hG : ev_Good X) (hl : l.stackTraces = false) : ev_Snd X l ev_ms x_X5_pairsOfTables tx_X5_pairsOfTables 31 (i_gf X 7 2 34) := s_getfieldN hG (ci := 7) (r := (RX2, TX2, 7)) rfl cw_7 (k := 2) (Nat.le_of_ble_eq_true rfl) w_131 rfl dX5_pairsOfTables_31
theorem s_X5_pairsOfTables_34 {X : ev_E} {l : Launch} (hG : ev_Good X) (hl : l.stackTraces = false) : ev_Snd X l ev_ms x_X5_pairsOfTables tx_X5_pairsOfTables 34 (i_ii (fun a b => a + b) 35) := s_iadd dX5_pairsOfTables_34
theorem s_X5_pairsOfTables_35 {X : ev_E} {l : Launch} (hG : ev_Good X) (hl : l.stackTraces = false) : ev_Snd X l ev_ms x_X5_pairsOfTables tx_X5_pairsOfTables 35 (i_is 1 36) := s_istore_n dX5_pairsOfTables_35 rfl (Nat.le_of_ble_eq_true rfl)
theorem s_X5_pairsOfTables_36 {X : ev_E} {l : Launch} (hG : ev_Good X) (hl : l.stackTraces = false) : ev_Snd X l ev_ms x_X5_pairsOfTables tx_X5_pairsOfTables 36 (i_inc 4 (1) 39) := s_iinc dX5_pairsOfTables_36 rfl (Nat.le_of_ble_eq_true rfl)
theorem s_X5_pairsOfTables_39 {X : ev_E} {l : Launch} (hG : ev_Good X) (hl : l.stackTraces = false) : ev_Snd X l ev_ms x_X5_pairsOfTables tx_X5_pairsOfTables 39 (i_goto 13) := s_goto dX5_pairsOfTables_39 rfl
theorem s_X5_pairsOfTables_42 {X : ev_E} {l : Launch} (hG : ev_Good X) (hl : l.stackTraces = false) : ev_Snd X l ev_ms x_X5_pairsOfTables tx_X5_pairsOfTables 42 (i_il 1 43) := s_iload_n dX5_pairsOfTables_42 rfl
theorem s_X5_pairsOfTables_43 {X : ev_E} {l : Launch} (hG : ev_Good X) (hl : l.stackTraces = false) : ev_Snd X l ev_ms x_X5_pairsOfTables tx_X5_pairsOfTables 43 (i_ir (.int)) := s_ireturn rfl dX5_pairsOfTables_43
theorem sa_X5_pairsOfTables {X : ev_E} {l : Launch} (hG : ev_Good X) (hl : l.stackTraces = false) : ∀ q ∈ tb_X5_pairsOfTables X, ev_Snd X l ev_ms x_X5_pairsOfTables tx_X5_pairsOfTables q.1 q.2 := by
  intro q hq
  unfold tb_X5_pairsOfTables at hq
  simp only [List.mem_cons, List.not_mem_nil, or_false] at hq
  rcases hq with rfl | rfl | rfl | rfl | rfl | rfl | rfl | rfl | rfl | rfl | rfl | rfl | rfl | rfl | rfl | rfl | rfl | rfl | rfl | rfl | rfl | rfl | rfl | rfl | rfl | rfl | rfl
  · exact s_X5_pairsOfTables_0 hG hl
  · exact s_X5_pairsOfTables_1 hG hl
  · exact s_X5_pairsOfTables_2 hG hl
  · exact s_X5_pairsOfTables_3 hG hl
  · exact s_X5_pairsOfTables_6 hG hl
  · exact s_X5_pairsOfTables_7 hG hl
  · exact s_X5_pairsOfTables_8 hG hl
  · exact s_X5_pairsOfTables_9 hG hl
  · exact s_X5_pairsOfTables_10 hG hl
  · exact s_X5_pairsOfTables_11 hG hl
  · exact s_X5_pairsOfTables_13 hG hl
  · exact s_X5_pairsOfTables_15 hG hl
  · exact s_X5_pairsOfTables_16 hG hl
  · exact s_X5_pairsOfTables_19 hG hl
  · exact s_X5_pairsOfTables_20 hG hl
  · exact s_X5_pairsOfTables_22 hG hl
  · exact s_X5_pairsOfTables_23 hG hl
  · exact s_X5_pairsOfTables_25 hG hl
  · exact s_X5_pairsOfTables_26 hG hl
  · exact s_X5_pairsOfTables_28 hG hl
  · exact s_X5_pairsOfTables_31 hG hl
  · exact s_X5_pairsOfTables_34 hG hl
  · exact s_X5_pairsOfTables_35 hG hl
  · exact s_X5_pairsOfTables_36 hG hl
  · exact s_X5_pairsOfTables_39 hG hl
  · exact s_X5_pairsOfTables_42 hG hl
  · exact s_X5_pairsOfTables_43 hG hl
def tx_X5_refuse : ev_X := fun _ _ => some none
noncomputable def tb_X5_refuse (X : ev_E) : List (Nat × (ev_S → ev_N)) := [(0, i_al 0 1), (1, i_dup 2), (2, i_gf X 10 5 5), (5, i_psh (.int (1)) 6), (6, i_ii (fun a b => a + b) 7), (7, i_pf 10 5 (.int) 10), (10, i_psh (.int (-9)) 12), (12, i_ir (.int))]
theorem s_X5_refuse_0 {X : ev_E} {l : Launch} (hG : ev_Good X) (hl : l.stackTraces = false) : ev_Snd X l ev_ms x_X5_refuse tx_X5_refuse 0 (i_al 0 1) := s_aload_n dX5_refuse_0 rfl
theorem s_X5_refuse_1 {X : ev_E} {l : Launch} (hG : ev_Good X) (hl : l.stackTraces = false) : ev_Snd X l ev_ms x_X5_refuse tx_X5_refuse 1 (i_dup 2) := s_dup dX5_refuse_1
theorem s_X5_refuse_2 {X : ev_E} {l : Launch} (hG : ev_Good X) (hl : l.stackTraces = false) : ev_Snd X l ev_ms x_X5_refuse tx_X5_refuse 2 (i_gf X 10 5 5) := s_getfield hG (ci := 10) (r := (RX5, TX5, 7)) rfl cw_10 (k := 5) (Nat.le_of_ble_eq_true rfl) w_222 rfl (Or.inl rfl) dX5_refuse_2
theorem s_X5_refuse_5 {X : ev_E} {l : Launch} (hG : ev_Good X) (hl : l.stackTraces = false) : ev_Snd X l ev_ms x_X5_refuse tx_X5_refuse 5 (i_psh (.int (1)) 6) := s_iconst dX5_refuse_5 rfl
theorem s_X5_refuse_6 {X : ev_E} {l : Launch} (hG : ev_Good X) (hl : l.stackTraces = false) : ev_Snd X l ev_ms x_X5_refuse tx_X5_refuse 6 (i_ii (fun a b => a + b) 7) := s_iadd dX5_refuse_6
theorem s_X5_refuse_7 {X : ev_E} {l : Launch} (hG : ev_Good X) (hl : l.stackTraces = false) : ev_Snd X l ev_ms x_X5_refuse tx_X5_refuse 7 (i_pf 10 5 (.int) 10) := s_putfield hG (ci := 10) (r := (RX5, TX5, 7)) rfl cw_10 ap_10 (k := 5) (Nat.le_of_ble_eq_true rfl) rfl (by decide +kernel) w_222 rfl (Or.inl rfl) dX5_refuse_7
theorem s_X5_refuse_10 {X : ev_E} {l : Launch} (hG : ev_Good X) (hl : l.stackTraces = false) : ev_Snd X l ev_ms x_X5_refuse tx_X5_refuse 10 (i_psh (.int (-9)) 12) := s_bipush dX5_refuse_10 rfl
theorem s_X5_refuse_12 {X : ev_E} {l : Launch} (hG : ev_Good X) (hl : l.stackTraces = false) : ev_Snd X l ev_ms x_X5_refuse tx_X5_refuse 12 (i_ir (.int)) := s_ireturn rfl dX5_refuse_12
theorem sa_X5_refuse {X : ev_E} {l : Launch} (hG : ev_Good X) (hl : l.stackTraces = false) : ∀ q ∈ tb_X5_refuse X, ev_Snd X l ev_ms x_X5_refuse tx_X5_refuse q.1 q.2 := by
  intro q hq
  unfold tb_X5_refuse at hq
  simp only [List.mem_cons, List.not_mem_nil, or_false] at hq
  rcases hq with rfl | rfl | rfl | rfl | rfl | rfl | rfl | rfl
  · exact s_X5_refuse_0 hG hl
  · exact s_X5_refuse_1 hG hl
  · exact s_X5_refuse_2 hG hl
  · exact s_X5_refuse_5 hG hl
  · exact s_X5_refuse_6 hG hl
  · exact s_X5_refuse_7 hG hl
  · exact s_X5_refuse_10 hG hl
  · exact s_X5_refuse_12 hG hl
def tx_X5_tableOf : ev_X := fun _ _ => some none
noncomputable def tb_X5_tableOf (X : ev_E) : List (Nat × (ev_S → ev_N)) := [(0, i_il 1 1), (1, i_iflt 9 4), (4, i_il 1 5), (5, i_psh (.int (4)) 6), (6, i_iclt 20 9), (9, i_thr 0), (20, i_al 0 21), (21, i_gf X 10 0 24), (24, i_il 1 25), (25, i_ald X FieldType.isReference 26), (26, i_ar)]
theorem s_X5_tableOf_0 {X : ev_E} {l : Launch} (hG : ev_Good X) (hl : l.stackTraces = false) : ev_Snd X l ev_ms x_X5_tableOf tx_X5_tableOf 0 (i_il 1 1) := s_iload_n dX5_tableOf_0 rfl
theorem s_X5_tableOf_1 {X : ev_E} {l : Launch} (hG : ev_Good X) (hl : l.stackTraces = false) : ev_Snd X l ev_ms x_X5_tableOf tx_X5_tableOf 1 (i_iflt 9 4) := s_iflt dX5_tableOf_1 rfl
theorem s_X5_tableOf_4 {X : ev_E} {l : Launch} (hG : ev_Good X) (hl : l.stackTraces = false) : ev_Snd X l ev_ms x_X5_tableOf tx_X5_tableOf 4 (i_il 1 5) := s_iload_n dX5_tableOf_4 rfl
theorem s_X5_tableOf_5 {X : ev_E} {l : Launch} (hG : ev_Good X) (hl : l.stackTraces = false) : ev_Snd X l ev_ms x_X5_tableOf tx_X5_tableOf 5 (i_psh (.int (4)) 6) := s_iconst dX5_tableOf_5 rfl
theorem s_X5_tableOf_6 {X : ev_E} {l : Launch} (hG : ev_Good X) (hl : l.stackTraces = false) : ev_Snd X l ev_ms x_X5_tableOf tx_X5_tableOf 6 (i_iclt 20 9) := s_iclt dX5_tableOf_6 rfl
theorem s_X5_tableOf_9 {X : ev_E} {l : Launch} (hG : ev_Good X) (hl : l.stackTraces = false) : ev_Snd X l ev_ms x_X5_tableOf tx_X5_tableOf 9 (i_thr 0) := s_throwW hG hl (E := 0) (text := "there is no such table") (names := ["java/lang/RuntimeException", "java/lang/Exception"]) (by decide +kernel) (by decide +kernel) (by decide) rfl w_709 w_64 (ta_RX5_306_0 (i := 302)).1 (ta_RX5_306_0 (i := 302)).2 (str_RX5_304 hG) dX5_tableOf_9 dX5_tableOf_12 dX5_tableOf_13 dX5_tableOf_16 dX5_tableOf_19
theorem s_X5_tableOf_20 {X : ev_E} {l : Launch} (hG : ev_Good X) (hl : l.stackTraces = false) : ev_Snd X l ev_ms x_X5_tableOf tx_X5_tableOf 20 (i_al 0 21) := s_aload_n dX5_tableOf_20 rfl
theorem s_X5_tableOf_21 {X : ev_E} {l : Launch} (hG : ev_Good X) (hl : l.stackTraces = false) : ev_Snd X l ev_ms x_X5_tableOf tx_X5_tableOf 21 (i_gf X 10 0 24) := s_getfield hG (ci := 10) (r := (RX5, TX5, 7)) rfl cw_10 (k := 0) (Nat.le_of_ble_eq_true rfl) w_217 rfl (Or.inl rfl) dX5_tableOf_21
theorem s_X5_tableOf_24 {X : ev_E} {l : Launch} (hG : ev_Good X) (hl : l.stackTraces = false) : ev_Snd X l ev_ms x_X5_tableOf tx_X5_tableOf 24 (i_il 1 25) := s_iload_n dX5_tableOf_24 rfl
theorem s_X5_tableOf_25 {X : ev_E} {l : Launch} (hG : ev_Good X) (hl : l.stackTraces = false) : ev_Snd X l ev_ms x_X5_tableOf tx_X5_tableOf 25 (i_ald X FieldType.isReference 26) := s_aaload hG dX5_tableOf_25
theorem s_X5_tableOf_26 {X : ev_E} {l : Launch} (hG : ev_Good X) (hl : l.stackTraces = false) : ev_Snd X l ev_ms x_X5_tableOf tx_X5_tableOf 26 (i_ar) := s_areturn (rt := (.object "Lastasked$Table")) rfl (by first | exact Or.inl ⟨_, rfl⟩ | exact Or.inr ⟨_, rfl⟩) dX5_tableOf_26
theorem sa_X5_tableOf {X : ev_E} {l : Launch} (hG : ev_Good X) (hl : l.stackTraces = false) : ∀ q ∈ tb_X5_tableOf X, ev_Snd X l ev_ms x_X5_tableOf tx_X5_tableOf q.1 q.2 := by
  intro q hq
  unfold tb_X5_tableOf at hq
  simp only [List.mem_cons, List.not_mem_nil, or_false] at hq
  rcases hq with rfl | rfl | rfl | rfl | rfl | rfl | rfl | rfl | rfl | rfl | rfl
  · exact s_X5_tableOf_0 hG hl
  · exact s_X5_tableOf_1 hG hl
  · exact s_X5_tableOf_4 hG hl
  · exact s_X5_tableOf_5 hG hl
  · exact s_X5_tableOf_6 hG hl
  · exact s_X5_tableOf_9 hG hl
  · exact s_X5_tableOf_20 hG hl
  · exact s_X5_tableOf_21 hG hl
  · exact s_X5_tableOf_24 hG hl
  · exact s_X5_tableOf_25 hG hl
  · exact s_X5_tableOf_26 hG hl
def tx_X6_init : ev_X := fun _ _ => some none
noncomputable def tb_X6_init (X : ev_E) : List (Nat × (ev_S → ev_N)) := [(0, i_al 0 1), (1, i_oi 4), (4, i_vr)]
theorem s_X6_init_0 {X : ev_E} {l : Launch} (hG : ev_Good X) (hl : l.stackTraces = false) : ev_Snd X l ev_ms x_X6_init tx_X6_init 0 (i_al 0 1) := s_aload_n dX6_init_0 rfl
theorem s_X6_init_1 {X : ev_E} {l : Launch} (hG : ev_Good X) (hl : l.stackTraces = false) : ev_Snd X l ev_ms x_X6_init tx_X6_init 1 (i_oi 4) := s_objinit hG w_810 w_88 w_89 dX6_init_1
theorem s_X6_init_4 {X : ev_E} {l : Launch} (hG : ev_Good X) (hl : l.stackTraces = false) : ev_Snd X l ev_ms x_X6_init tx_X6_init 4 (i_vr) := s_return rfl dX6_init_4
theorem sa_X6_init {X : ev_E} {l : Launch} (hG : ev_Good X) (hl : l.stackTraces = false) : ∀ q ∈ tb_X6_init X, ev_Snd X l ev_ms x_X6_init tx_X6_init q.1 q.2 := by
  intro q hq
  unfold tb_X6_init at hq
  simp only [List.mem_cons, List.not_mem_nil, or_false] at hq
  rcases hq with rfl | rfl | rfl
  · exact s_X6_init_0 hG hl
  · exact s_X6_init_1 hG hl
  · exact s_X6_init_4 hG hl
def tx_X0_add : ev_X := fun _ _ => some none
noncomputable def tb_X0_add (X : ev_E) : List (Nat × (ev_S → ev_N)) := [(0, i_al 0 1), (1, i_gf X 5 5 4), (4, i_psh (.int (60)) 6), (6, i_iclt 10 9), (9, i_vr), (10, i_al 0 11), (11, i_il 1 12), (12, i_cV X 33 1 5 3 15), (15, i_al 0 16), (16, i_gf X 5 0 19), (19, i_al 0 20), (20, i_gf X 5 5 23), (23, i_il 1 24), (24, i_ast ev_tI (fun v => v) 25), (25, i_al 0 26), (26, i_gf X 5 1 29), (29, i_al 0 30), (30, i_gf X 5 5 33), (33, i_il 2 34), (34, i_ast ev_tI (fun v => v) 35), (35, i_al 0 36), (36, i_gf X 5 2 39), (39, i_al 0 40), (40, i_gf X 5 5 43), (43, i_psh (.int (60)) 45), (45, i_ast ev_tI (fun v => v) 46), (46, i_al 0 47), (47, i_dup 48), (48, i_gf X 5 5 51), (51, i_psh (.int (1)) 52), (52, i_ii (fun a b => a + b) 53), (53, i_pf 5 5 (.int) 56), (56, i_vr)]
theorem s_X0_add_0 {X : ev_E} {l : Launch} (hG : ev_Good X) (hl : l.stackTraces = false) : ev_Snd X l ev_ms x_X0_add tx_X0_add 0 (i_al 0 1) := s_aload_n dX0_add_0 rfl
theorem s_X0_add_1 {X : ev_E} {l : Launch} (hG : ev_Good X) (hl : l.stackTraces = false) : ev_Snd X l ev_ms x_X0_add tx_X0_add 1 (i_gf X 5 5 4) := s_getfield hG (ci := 5) (r := (RX0, TX0, 6)) rfl cw_5 (k := 5) (Nat.le_of_ble_eq_true rfl) w_105 rfl (Or.inl rfl) dX0_add_1
theorem s_X0_add_4 {X : ev_E} {l : Launch} (hG : ev_Good X) (hl : l.stackTraces = false) : ev_Snd X l ev_ms x_X0_add tx_X0_add 4 (i_psh (.int (60)) 6) := s_bipush dX0_add_4 rfl
theorem s_X0_add_6 {X : ev_E} {l : Launch} (hG : ev_Good X) (hl : l.stackTraces = false) : ev_Snd X l ev_ms x_X0_add tx_X0_add 6 (i_iclt 10 9) := s_iclt dX0_add_6 rfl
theorem s_X0_add_9 {X : ev_E} {l : Launch} (hG : ev_Good X) (hl : l.stackTraces = false) : ev_Snd X l ev_ms x_X0_add tx_X0_add 9 (i_vr) := s_return rfl dX0_add_9
theorem s_X0_add_10 {X : ev_E} {l : Launch} (hG : ev_Good X) (hl : l.stackTraces = false) : ev_Snd X l ev_ms x_X0_add tx_X0_add 10 (i_al 0 11) := s_aload_n dX0_add_10 rfl
theorem s_X0_add_11 {X : ev_E} {l : Launch} (hG : ev_Good X) (hl : l.stackTraces = false) : ev_Snd X l ev_ms x_X0_add tx_X0_add 11 (i_il 1 12) := s_iload_n dX0_add_11 rfl
theorem s_X0_add_12 {X : ev_E} {l : Launch} (hG : ev_Good X) (hl : l.stackTraces = false) : ev_Snd X l ev_ms x_X0_add tx_X0_add 12 (i_cV X 33 1 5 3 15) := s_invokevirtual hG (mi := 33) (n := 1) (ci := 5) (r := (RX0, TX0, 6)) rfl (cal_X0_noteNext (Nat.le_of_ble_eq_true rfl)) w_1109 w_1111 w_21 dX0_add_12
theorem s_X0_add_15 {X : ev_E} {l : Launch} (hG : ev_Good X) (hl : l.stackTraces = false) : ev_Snd X l ev_ms x_X0_add tx_X0_add 15 (i_al 0 16) := s_aload_n dX0_add_15 rfl
theorem s_X0_add_16 {X : ev_E} {l : Launch} (hG : ev_Good X) (hl : l.stackTraces = false) : ev_Snd X l ev_ms x_X0_add tx_X0_add 16 (i_gf X 5 0 19) := s_getfield hG (ci := 5) (r := (RX0, TX0, 6)) rfl cw_5 (k := 0) (Nat.le_of_ble_eq_true rfl) w_98 rfl (Or.inl rfl) dX0_add_16
theorem s_X0_add_19 {X : ev_E} {l : Launch} (hG : ev_Good X) (hl : l.stackTraces = false) : ev_Snd X l ev_ms x_X0_add tx_X0_add 19 (i_al 0 20) := s_aload_n dX0_add_19 rfl
theorem s_X0_add_20 {X : ev_E} {l : Launch} (hG : ev_Good X) (hl : l.stackTraces = false) : ev_Snd X l ev_ms x_X0_add tx_X0_add 20 (i_gf X 5 5 23) := s_getfield hG (ci := 5) (r := (RX0, TX0, 6)) rfl cw_5 (k := 5) (Nat.le_of_ble_eq_true rfl) w_105 rfl (Or.inl rfl) dX0_add_20
theorem s_X0_add_23 {X : ev_E} {l : Launch} (hG : ev_Good X) (hl : l.stackTraces = false) : ev_Snd X l ev_ms x_X0_add tx_X0_add 23 (i_il 1 24) := s_iload_n dX0_add_23 rfl
theorem s_X0_add_24 {X : ev_E} {l : Launch} (hG : ev_Good X) (hl : l.stackTraces = false) : ev_Snd X l ev_ms x_X0_add tx_X0_add 24 (i_ast ev_tI (fun v => v) 25) := s_iastore hG dX0_add_24
theorem s_X0_add_25 {X : ev_E} {l : Launch} (hG : ev_Good X) (hl : l.stackTraces = false) : ev_Snd X l ev_ms x_X0_add tx_X0_add 25 (i_al 0 26) := s_aload_n dX0_add_25 rfl
theorem s_X0_add_26 {X : ev_E} {l : Launch} (hG : ev_Good X) (hl : l.stackTraces = false) : ev_Snd X l ev_ms x_X0_add tx_X0_add 26 (i_gf X 5 1 29) := s_getfield hG (ci := 5) (r := (RX0, TX0, 6)) rfl cw_5 (k := 1) (Nat.le_of_ble_eq_true rfl) w_100 rfl (Or.inl rfl) dX0_add_26
theorem s_X0_add_29 {X : ev_E} {l : Launch} (hG : ev_Good X) (hl : l.stackTraces = false) : ev_Snd X l ev_ms x_X0_add tx_X0_add 29 (i_al 0 30) := s_aload_n dX0_add_29 rfl
theorem s_X0_add_30 {X : ev_E} {l : Launch} (hG : ev_Good X) (hl : l.stackTraces = false) : ev_Snd X l ev_ms x_X0_add tx_X0_add 30 (i_gf X 5 5 33) := s_getfield hG (ci := 5) (r := (RX0, TX0, 6)) rfl cw_5 (k := 5) (Nat.le_of_ble_eq_true rfl) w_105 rfl (Or.inl rfl) dX0_add_30
theorem s_X0_add_33 {X : ev_E} {l : Launch} (hG : ev_Good X) (hl : l.stackTraces = false) : ev_Snd X l ev_ms x_X0_add tx_X0_add 33 (i_il 2 34) := s_iload_n dX0_add_33 rfl
theorem s_X0_add_34 {X : ev_E} {l : Launch} (hG : ev_Good X) (hl : l.stackTraces = false) : ev_Snd X l ev_ms x_X0_add tx_X0_add 34 (i_ast ev_tI (fun v => v) 35) := s_iastore hG dX0_add_34
theorem s_X0_add_35 {X : ev_E} {l : Launch} (hG : ev_Good X) (hl : l.stackTraces = false) : ev_Snd X l ev_ms x_X0_add tx_X0_add 35 (i_al 0 36) := s_aload_n dX0_add_35 rfl
theorem s_X0_add_36 {X : ev_E} {l : Launch} (hG : ev_Good X) (hl : l.stackTraces = false) : ev_Snd X l ev_ms x_X0_add tx_X0_add 36 (i_gf X 5 2 39) := s_getfield hG (ci := 5) (r := (RX0, TX0, 6)) rfl cw_5 (k := 2) (Nat.le_of_ble_eq_true rfl) w_102 rfl (Or.inl rfl) dX0_add_36
theorem s_X0_add_39 {X : ev_E} {l : Launch} (hG : ev_Good X) (hl : l.stackTraces = false) : ev_Snd X l ev_ms x_X0_add tx_X0_add 39 (i_al 0 40) := s_aload_n dX0_add_39 rfl
theorem s_X0_add_40 {X : ev_E} {l : Launch} (hG : ev_Good X) (hl : l.stackTraces = false) : ev_Snd X l ev_ms x_X0_add tx_X0_add 40 (i_gf X 5 5 43) := s_getfield hG (ci := 5) (r := (RX0, TX0, 6)) rfl cw_5 (k := 5) (Nat.le_of_ble_eq_true rfl) w_105 rfl (Or.inl rfl) dX0_add_40
theorem s_X0_add_43 {X : ev_E} {l : Launch} (hG : ev_Good X) (hl : l.stackTraces = false) : ev_Snd X l ev_ms x_X0_add tx_X0_add 43 (i_psh (.int (60)) 45) := s_bipush dX0_add_43 rfl
theorem s_X0_add_45 {X : ev_E} {l : Launch} (hG : ev_Good X) (hl : l.stackTraces = false) : ev_Snd X l ev_ms x_X0_add tx_X0_add 45 (i_ast ev_tI (fun v => v) 46) := s_iastore hG dX0_add_45
theorem s_X0_add_46 {X : ev_E} {l : Launch} (hG : ev_Good X) (hl : l.stackTraces = false) : ev_Snd X l ev_ms x_X0_add tx_X0_add 46 (i_al 0 47) := s_aload_n dX0_add_46 rfl
theorem s_X0_add_47 {X : ev_E} {l : Launch} (hG : ev_Good X) (hl : l.stackTraces = false) : ev_Snd X l ev_ms x_X0_add tx_X0_add 47 (i_dup 48) := s_dup dX0_add_47
theorem s_X0_add_48 {X : ev_E} {l : Launch} (hG : ev_Good X) (hl : l.stackTraces = false) : ev_Snd X l ev_ms x_X0_add tx_X0_add 48 (i_gf X 5 5 51) := s_getfield hG (ci := 5) (r := (RX0, TX0, 6)) rfl cw_5 (k := 5) (Nat.le_of_ble_eq_true rfl) w_105 rfl (Or.inl rfl) dX0_add_48
theorem s_X0_add_51 {X : ev_E} {l : Launch} (hG : ev_Good X) (hl : l.stackTraces = false) : ev_Snd X l ev_ms x_X0_add tx_X0_add 51 (i_psh (.int (1)) 52) := s_iconst dX0_add_51 rfl
theorem s_X0_add_52 {X : ev_E} {l : Launch} (hG : ev_Good X) (hl : l.stackTraces = false) : ev_Snd X l ev_ms x_X0_add tx_X0_add 52 (i_ii (fun a b => a + b) 53) := s_iadd dX0_add_52
theorem s_X0_add_53 {X : ev_E} {l : Launch} (hG : ev_Good X) (hl : l.stackTraces = false) : ev_Snd X l ev_ms x_X0_add tx_X0_add 53 (i_pf 5 5 (.int) 56) := s_putfield hG (ci := 5) (r := (RX0, TX0, 6)) rfl cw_5 ap_5 (k := 5) (Nat.le_of_ble_eq_true rfl) rfl (by decide +kernel) w_105 rfl (Or.inl rfl) dX0_add_53
theorem s_X0_add_56 {X : ev_E} {l : Launch} (hG : ev_Good X) (hl : l.stackTraces = false) : ev_Snd X l ev_ms x_X0_add tx_X0_add 56 (i_vr) := s_return rfl dX0_add_56
theorem sa_X0_add {X : ev_E} {l : Launch} (hG : ev_Good X) (hl : l.stackTraces = false) : ∀ q ∈ tb_X0_add X, ev_Snd X l ev_ms x_X0_add tx_X0_add q.1 q.2 := by
  intro q hq
  unfold tb_X0_add at hq
  simp only [List.mem_cons, List.not_mem_nil, or_false] at hq
  rcases hq with rfl | rfl | rfl | rfl | rfl | rfl | rfl | rfl | rfl | rfl | rfl | rfl | rfl | rfl | rfl | rfl | rfl | rfl | rfl | rfl | rfl | rfl | rfl | rfl | rfl | rfl | rfl | rfl | rfl | rfl | rfl | rfl | rfl
  · exact s_X0_add_0 hG hl
  · exact s_X0_add_1 hG hl
  · exact s_X0_add_4 hG hl
  · exact s_X0_add_6 hG hl
  · exact s_X0_add_9 hG hl
  · exact s_X0_add_10 hG hl
  · exact s_X0_add_11 hG hl
  · exact s_X0_add_12 hG hl
  · exact s_X0_add_15 hG hl
  · exact s_X0_add_16 hG hl
  · exact s_X0_add_19 hG hl
  · exact s_X0_add_20 hG hl
  · exact s_X0_add_23 hG hl
  · exact s_X0_add_24 hG hl
  · exact s_X0_add_25 hG hl
  · exact s_X0_add_26 hG hl
  · exact s_X0_add_29 hG hl
  · exact s_X0_add_30 hG hl
  · exact s_X0_add_33 hG hl
  · exact s_X0_add_34 hG hl
  · exact s_X0_add_35 hG hl
  · exact s_X0_add_36 hG hl
  · exact s_X0_add_39 hG hl
  · exact s_X0_add_40 hG hl
  · exact s_X0_add_43 hG hl
  · exact s_X0_add_45 hG hl
  · exact s_X0_add_46 hG hl
  · exact s_X0_add_47 hG hl
  · exact s_X0_add_48 hG hl
  · exact s_X0_add_51 hG hl
  · exact s_X0_add_52 hG hl
  · exact s_X0_add_53 hG hl
  · exact s_X0_add_56 hG hl
def tx_X0_fewestMisses : ev_X := fun _ _ => some none
noncomputable def tb_X0_fewestMisses_c0 (X : ev_E) : List (Nat × (ev_S → ev_N)) := [(0, i_il 1 1), (1, i_psh (.int (6)) 3), (3, i_cS 17 2 2 6), (6, i_is 2 7), (7, i_psh (.int (0)) 8), (8, i_is 3 9), (9, i_psh (.int (0)) 10), (10, i_is 4 12), (12, i_psh (.int (0)) 13), (13, i_is 5 15), (15, i_il 5 17), (17, i_al 0 18), (18, i_gf X 5 5 21), (21, i_icge 106 24), (24, i_al 0 25), (25, i_al 0 26), (26, i_gf X 5 0 29), (29, i_il 5 31), (31, i_ald X ev_tI 32), (32, i_il 3 33), (33, i_cV X 30 2 5 4 36), (36, i_is 6 38), (38, i_il 6 40), (40, i_psh (.int (-1)) 41), (41, i_icne 86 44), (44, i_inc 4 (1) 47), (47, i_il 3 48), (48, i_il 2 49), (49, i_icge 56 52), (52, i_il 3 53), (53, i_goto 61), (56, i_al 0 57), (57, i_il 3 58), (58, i_cV X 29 1 5 4 61), (61, i_is 6 63), (63, i_il 3 64), (64, i_il 6 66), (66, i_psh (.int (1)) 67), (67, i_ii (fun a b => a + b) 68), (68, i_cS 16 2 2 71), (71, i_is 3 72), (72, i_al 0 73), (73, i_gf X 5 3 76), (76, i_il 6 78), (78, i_al 0 79), (79, i_gf X 5 0 82), (82, i_il 5 84), (84, i_ald X ev_tI 85), (85, i_ast ev_tI (fun v => v) 86), (86, i_al 0 87), (87, i_gf X 5 4 90), (90, i_il 6 92), (92, i_al 0 93), (93, i_gf X 5 2 96), (96, i_il 5 98), (98, i_ald X ev_tI 99), (99, i_ast ev_tI (fun v => v) 100), (100, i_inc 5 (1) 103), (103, i_goto 15), (106, i_il 4 108)]
noncomputable def tb_X0_fewestMisses_c1 (X : ev_E) : List (Nat × (ev_S → ev_N)) := [(108, i_ir (.int))]
noncomputable def tb_X0_fewestMisses (X : ev_E) : List (Nat × (ev_S → ev_N)) := tb_X0_fewestMisses_c0 X ++ (tb_X0_fewestMisses_c1 X)
theorem s_X0_fewestMisses_0 {X : ev_E} {l : Launch} (hG : ev_Good X) (hl : l.stackTraces = false) : ev_Snd X l ev_ms x_X0_fewestMisses tx_X0_fewestMisses 0 (i_il 1 1) := s_iload_n dX0_fewestMisses_0 rfl
theorem s_X0_fewestMisses_1 {X : ev_E} {l : Launch} (hG : ev_Good X) (hl : l.stackTraces = false) : ev_Snd X l ev_ms x_X0_fewestMisses tx_X0_fewestMisses 1 (i_psh (.int (6)) 3) := s_bipush dX0_fewestMisses_1 rfl
theorem s_X0_fewestMisses_3 {X : ev_E} {l : Launch} (hG : ev_Good X) (hl : l.stackTraces = false) : ev_Snd X l ev_ms x_X0_fewestMisses tx_X0_fewestMisses 3 (i_cS 17 2 2 6) := s_invokestatic hG (mi := 17) (n := 2) (cal_J9_min_7cf53 (Nat.le_of_ble_eq_true rfl)) w_630 w_349 dX0_fewestMisses_3
theorem s_X0_fewestMisses_6 {X : ev_E} {l : Launch} (hG : ev_Good X) (hl : l.stackTraces = false) : ev_Snd X l ev_ms x_X0_fewestMisses tx_X0_fewestMisses 6 (i_is 2 7) := s_istore_n dX0_fewestMisses_6 rfl (Nat.le_of_ble_eq_true rfl)
theorem s_X0_fewestMisses_7 {X : ev_E} {l : Launch} (hG : ev_Good X) (hl : l.stackTraces = false) : ev_Snd X l ev_ms x_X0_fewestMisses tx_X0_fewestMisses 7 (i_psh (.int (0)) 8) := s_iconst dX0_fewestMisses_7 rfl
theorem s_X0_fewestMisses_8 {X : ev_E} {l : Launch} (hG : ev_Good X) (hl : l.stackTraces = false) : ev_Snd X l ev_ms x_X0_fewestMisses tx_X0_fewestMisses 8 (i_is 3 9) := s_istore_n dX0_fewestMisses_8 rfl (Nat.le_of_ble_eq_true rfl)
theorem s_X0_fewestMisses_9 {X : ev_E} {l : Launch} (hG : ev_Good X) (hl : l.stackTraces = false) : ev_Snd X l ev_ms x_X0_fewestMisses tx_X0_fewestMisses 9 (i_psh (.int (0)) 10) := s_iconst dX0_fewestMisses_9 rfl
theorem s_X0_fewestMisses_10 {X : ev_E} {l : Launch} (hG : ev_Good X) (hl : l.stackTraces = false) : ev_Snd X l ev_ms x_X0_fewestMisses tx_X0_fewestMisses 10 (i_is 4 12) := s_istore dX0_fewestMisses_10 (Nat.le_of_ble_eq_true rfl)
theorem s_X0_fewestMisses_12 {X : ev_E} {l : Launch} (hG : ev_Good X) (hl : l.stackTraces = false) : ev_Snd X l ev_ms x_X0_fewestMisses tx_X0_fewestMisses 12 (i_psh (.int (0)) 13) := s_iconst dX0_fewestMisses_12 rfl
theorem s_X0_fewestMisses_13 {X : ev_E} {l : Launch} (hG : ev_Good X) (hl : l.stackTraces = false) : ev_Snd X l ev_ms x_X0_fewestMisses tx_X0_fewestMisses 13 (i_is 5 15) := s_istore dX0_fewestMisses_13 (Nat.le_of_ble_eq_true rfl)
theorem s_X0_fewestMisses_15 {X : ev_E} {l : Launch} (hG : ev_Good X) (hl : l.stackTraces = false) : ev_Snd X l ev_ms x_X0_fewestMisses tx_X0_fewestMisses 15 (i_il 5 17) := s_iload dX0_fewestMisses_15
theorem s_X0_fewestMisses_17 {X : ev_E} {l : Launch} (hG : ev_Good X) (hl : l.stackTraces = false) : ev_Snd X l ev_ms x_X0_fewestMisses tx_X0_fewestMisses 17 (i_al 0 18) := s_aload_n dX0_fewestMisses_17 rfl
theorem s_X0_fewestMisses_18 {X : ev_E} {l : Launch} (hG : ev_Good X) (hl : l.stackTraces = false) : ev_Snd X l ev_ms x_X0_fewestMisses tx_X0_fewestMisses 18 (i_gf X 5 5 21) := s_getfield hG (ci := 5) (r := (RX0, TX0, 6)) rfl cw_5 (k := 5) (Nat.le_of_ble_eq_true rfl) w_105 rfl (Or.inl rfl) dX0_fewestMisses_18
theorem s_X0_fewestMisses_21 {X : ev_E} {l : Launch} (hG : ev_Good X) (hl : l.stackTraces = false) : ev_Snd X l ev_ms x_X0_fewestMisses tx_X0_fewestMisses 21 (i_icge 106 24) := s_icge dX0_fewestMisses_21 rfl
theorem s_X0_fewestMisses_24 {X : ev_E} {l : Launch} (hG : ev_Good X) (hl : l.stackTraces = false) : ev_Snd X l ev_ms x_X0_fewestMisses tx_X0_fewestMisses 24 (i_al 0 25) := s_aload_n dX0_fewestMisses_24 rfl
theorem s_X0_fewestMisses_25 {X : ev_E} {l : Launch} (hG : ev_Good X) (hl : l.stackTraces = false) : ev_Snd X l ev_ms x_X0_fewestMisses tx_X0_fewestMisses 25 (i_al 0 26) := s_aload_n dX0_fewestMisses_25 rfl
theorem s_X0_fewestMisses_26 {X : ev_E} {l : Launch} (hG : ev_Good X) (hl : l.stackTraces = false) : ev_Snd X l ev_ms x_X0_fewestMisses tx_X0_fewestMisses 26 (i_gf X 5 0 29) := s_getfield hG (ci := 5) (r := (RX0, TX0, 6)) rfl cw_5 (k := 0) (Nat.le_of_ble_eq_true rfl) w_98 rfl (Or.inl rfl) dX0_fewestMisses_26
theorem s_X0_fewestMisses_29 {X : ev_E} {l : Launch} (hG : ev_Good X) (hl : l.stackTraces = false) : ev_Snd X l ev_ms x_X0_fewestMisses tx_X0_fewestMisses 29 (i_il 5 31) := s_iload dX0_fewestMisses_29
theorem s_X0_fewestMisses_31 {X : ev_E} {l : Launch} (hG : ev_Good X) (hl : l.stackTraces = false) : ev_Snd X l ev_ms x_X0_fewestMisses tx_X0_fewestMisses 31 (i_ald X ev_tI 32) := s_iaload hG dX0_fewestMisses_31
theorem s_X0_fewestMisses_32 {X : ev_E} {l : Launch} (hG : ev_Good X) (hl : l.stackTraces = false) : ev_Snd X l ev_ms x_X0_fewestMisses tx_X0_fewestMisses 32 (i_il 3 33) := s_iload_n dX0_fewestMisses_32 rfl
theorem s_X0_fewestMisses_33 {X : ev_E} {l : Launch} (hG : ev_Good X) (hl : l.stackTraces = false) : ev_Snd X l ev_ms x_X0_fewestMisses tx_X0_fewestMisses 33 (i_cV X 30 2 5 4 36) := s_invokevirtual hG (mi := 30) (n := 2) (ci := 5) (r := (RX0, TX0, 6)) rfl (cal_X0_heldPlace (Nat.le_of_ble_eq_true rfl)) w_631 w_633 w_1 dX0_fewestMisses_33
theorem s_X0_fewestMisses_36 {X : ev_E} {l : Launch} (hG : ev_Good X) (hl : l.stackTraces = false) : ev_Snd X l ev_ms x_X0_fewestMisses tx_X0_fewestMisses 36 (i_is 6 38) := s_istore dX0_fewestMisses_36 (Nat.le_of_ble_eq_true rfl)
theorem s_X0_fewestMisses_38 {X : ev_E} {l : Launch} (hG : ev_Good X) (hl : l.stackTraces = false) : ev_Snd X l ev_ms x_X0_fewestMisses tx_X0_fewestMisses 38 (i_il 6 40) := s_iload dX0_fewestMisses_38
theorem s_X0_fewestMisses_40 {X : ev_E} {l : Launch} (hG : ev_Good X) (hl : l.stackTraces = false) : ev_Snd X l ev_ms x_X0_fewestMisses tx_X0_fewestMisses 40 (i_psh (.int (-1)) 41) := s_iconst dX0_fewestMisses_40 rfl
theorem s_X0_fewestMisses_41 {X : ev_E} {l : Launch} (hG : ev_Good X) (hl : l.stackTraces = false) : ev_Snd X l ev_ms x_X0_fewestMisses tx_X0_fewestMisses 41 (i_icne 86 44) := s_icne dX0_fewestMisses_41 rfl
theorem s_X0_fewestMisses_44 {X : ev_E} {l : Launch} (hG : ev_Good X) (hl : l.stackTraces = false) : ev_Snd X l ev_ms x_X0_fewestMisses tx_X0_fewestMisses 44 (i_inc 4 (1) 47) := s_iinc dX0_fewestMisses_44 rfl (Nat.le_of_ble_eq_true rfl)
theorem s_X0_fewestMisses_47 {X : ev_E} {l : Launch} (hG : ev_Good X) (hl : l.stackTraces = false) : ev_Snd X l ev_ms x_X0_fewestMisses tx_X0_fewestMisses 47 (i_il 3 48) := s_iload_n dX0_fewestMisses_47 rfl
theorem s_X0_fewestMisses_48 {X : ev_E} {l : Launch} (hG : ev_Good X) (hl : l.stackTraces = false) : ev_Snd X l ev_ms x_X0_fewestMisses tx_X0_fewestMisses 48 (i_il 2 49) := s_iload_n dX0_fewestMisses_48 rfl
theorem s_X0_fewestMisses_49 {X : ev_E} {l : Launch} (hG : ev_Good X) (hl : l.stackTraces = false) : ev_Snd X l ev_ms x_X0_fewestMisses tx_X0_fewestMisses 49 (i_icge 56 52) := s_icge dX0_fewestMisses_49 rfl
theorem s_X0_fewestMisses_52 {X : ev_E} {l : Launch} (hG : ev_Good X) (hl : l.stackTraces = false) : ev_Snd X l ev_ms x_X0_fewestMisses tx_X0_fewestMisses 52 (i_il 3 53) := s_iload_n dX0_fewestMisses_52 rfl
theorem s_X0_fewestMisses_53 {X : ev_E} {l : Launch} (hG : ev_Good X) (hl : l.stackTraces = false) : ev_Snd X l ev_ms x_X0_fewestMisses tx_X0_fewestMisses 53 (i_goto 61) := s_goto dX0_fewestMisses_53 rfl
theorem s_X0_fewestMisses_56 {X : ev_E} {l : Launch} (hG : ev_Good X) (hl : l.stackTraces = false) : ev_Snd X l ev_ms x_X0_fewestMisses tx_X0_fewestMisses 56 (i_al 0 57) := s_aload_n dX0_fewestMisses_56 rfl
theorem s_X0_fewestMisses_57 {X : ev_E} {l : Launch} (hG : ev_Good X) (hl : l.stackTraces = false) : ev_Snd X l ev_ms x_X0_fewestMisses tx_X0_fewestMisses 57 (i_il 3 58) := s_iload_n dX0_fewestMisses_57 rfl
theorem s_X0_fewestMisses_58 {X : ev_E} {l : Launch} (hG : ev_Good X) (hl : l.stackTraces = false) : ev_Snd X l ev_ms x_X0_fewestMisses tx_X0_fewestMisses 58 (i_cV X 29 1 5 4 61) := s_invokevirtual hG (mi := 29) (n := 1) (ci := 5) (r := (RX0, TX0, 6)) rfl (cal_X0_farthestPlace (Nat.le_of_ble_eq_true rfl)) w_635 w_637 w_2 dX0_fewestMisses_58
theorem s_X0_fewestMisses_61 {X : ev_E} {l : Launch} (hG : ev_Good X) (hl : l.stackTraces = false) : ev_Snd X l ev_ms x_X0_fewestMisses tx_X0_fewestMisses 61 (i_is 6 63) := s_istore dX0_fewestMisses_61 (Nat.le_of_ble_eq_true rfl)
theorem s_X0_fewestMisses_63 {X : ev_E} {l : Launch} (hG : ev_Good X) (hl : l.stackTraces = false) : ev_Snd X l ev_ms x_X0_fewestMisses tx_X0_fewestMisses 63 (i_il 3 64) := s_iload_n dX0_fewestMisses_63 rfl
theorem s_X0_fewestMisses_64 {X : ev_E} {l : Launch} (hG : ev_Good X) (hl : l.stackTraces = false) : ev_Snd X l ev_ms x_X0_fewestMisses tx_X0_fewestMisses 64 (i_il 6 66) := s_iload dX0_fewestMisses_64
theorem s_X0_fewestMisses_66 {X : ev_E} {l : Launch} (hG : ev_Good X) (hl : l.stackTraces = false) : ev_Snd X l ev_ms x_X0_fewestMisses tx_X0_fewestMisses 66 (i_psh (.int (1)) 67) := s_iconst dX0_fewestMisses_66 rfl
theorem s_X0_fewestMisses_67 {X : ev_E} {l : Launch} (hG : ev_Good X) (hl : l.stackTraces = false) : ev_Snd X l ev_ms x_X0_fewestMisses tx_X0_fewestMisses 67 (i_ii (fun a b => a + b) 68) := s_iadd dX0_fewestMisses_67
theorem s_X0_fewestMisses_68 {X : ev_E} {l : Launch} (hG : ev_Good X) (hl : l.stackTraces = false) : ev_Snd X l ev_ms x_X0_fewestMisses tx_X0_fewestMisses 68 (i_cS 16 2 2 71) := s_invokestatic hG (mi := 16) (n := 2) (cal_J9_max_7cf53 (Nat.le_of_ble_eq_true rfl)) w_639 w_331 dX0_fewestMisses_68
theorem s_X0_fewestMisses_71 {X : ev_E} {l : Launch} (hG : ev_Good X) (hl : l.stackTraces = false) : ev_Snd X l ev_ms x_X0_fewestMisses tx_X0_fewestMisses 71 (i_is 3 72) := s_istore_n dX0_fewestMisses_71 rfl (Nat.le_of_ble_eq_true rfl)
theorem s_X0_fewestMisses_72 {X : ev_E} {l : Launch} (hG : ev_Good X) (hl : l.stackTraces = false) : ev_Snd X l ev_ms x_X0_fewestMisses tx_X0_fewestMisses 72 (i_al 0 73) := s_aload_n dX0_fewestMisses_72 rfl
theorem s_X0_fewestMisses_73 {X : ev_E} {l : Launch} (hG : ev_Good X) (hl : l.stackTraces = false) : ev_Snd X l ev_ms x_X0_fewestMisses tx_X0_fewestMisses 73 (i_gf X 5 3 76) := s_getfield hG (ci := 5) (r := (RX0, TX0, 6)) rfl cw_5 (k := 3) (Nat.le_of_ble_eq_true rfl) w_103 rfl (Or.inl rfl) dX0_fewestMisses_73
theorem s_X0_fewestMisses_76 {X : ev_E} {l : Launch} (hG : ev_Good X) (hl : l.stackTraces = false) : ev_Snd X l ev_ms x_X0_fewestMisses tx_X0_fewestMisses 76 (i_il 6 78) := s_iload dX0_fewestMisses_76
theorem s_X0_fewestMisses_78 {X : ev_E} {l : Launch} (hG : ev_Good X) (hl : l.stackTraces = false) : ev_Snd X l ev_ms x_X0_fewestMisses tx_X0_fewestMisses 78 (i_al 0 79) := s_aload_n dX0_fewestMisses_78 rfl
theorem s_X0_fewestMisses_79 {X : ev_E} {l : Launch} (hG : ev_Good X) (hl : l.stackTraces = false) : ev_Snd X l ev_ms x_X0_fewestMisses tx_X0_fewestMisses 79 (i_gf X 5 0 82) := s_getfield hG (ci := 5) (r := (RX0, TX0, 6)) rfl cw_5 (k := 0) (Nat.le_of_ble_eq_true rfl) w_98 rfl (Or.inl rfl) dX0_fewestMisses_79
theorem s_X0_fewestMisses_82 {X : ev_E} {l : Launch} (hG : ev_Good X) (hl : l.stackTraces = false) : ev_Snd X l ev_ms x_X0_fewestMisses tx_X0_fewestMisses 82 (i_il 5 84) := s_iload dX0_fewestMisses_82
theorem s_X0_fewestMisses_84 {X : ev_E} {l : Launch} (hG : ev_Good X) (hl : l.stackTraces = false) : ev_Snd X l ev_ms x_X0_fewestMisses tx_X0_fewestMisses 84 (i_ald X ev_tI 85) := s_iaload hG dX0_fewestMisses_84
theorem s_X0_fewestMisses_85 {X : ev_E} {l : Launch} (hG : ev_Good X) (hl : l.stackTraces = false) : ev_Snd X l ev_ms x_X0_fewestMisses tx_X0_fewestMisses 85 (i_ast ev_tI (fun v => v) 86) := s_iastore hG dX0_fewestMisses_85
theorem s_X0_fewestMisses_86 {X : ev_E} {l : Launch} (hG : ev_Good X) (hl : l.stackTraces = false) : ev_Snd X l ev_ms x_X0_fewestMisses tx_X0_fewestMisses 86 (i_al 0 87) := s_aload_n dX0_fewestMisses_86 rfl
theorem s_X0_fewestMisses_87 {X : ev_E} {l : Launch} (hG : ev_Good X) (hl : l.stackTraces = false) : ev_Snd X l ev_ms x_X0_fewestMisses tx_X0_fewestMisses 87 (i_gf X 5 4 90) := s_getfield hG (ci := 5) (r := (RX0, TX0, 6)) rfl cw_5 (k := 4) (Nat.le_of_ble_eq_true rfl) w_104 rfl (Or.inl rfl) dX0_fewestMisses_87
theorem s_X0_fewestMisses_90 {X : ev_E} {l : Launch} (hG : ev_Good X) (hl : l.stackTraces = false) : ev_Snd X l ev_ms x_X0_fewestMisses tx_X0_fewestMisses 90 (i_il 6 92) := s_iload dX0_fewestMisses_90
theorem s_X0_fewestMisses_92 {X : ev_E} {l : Launch} (hG : ev_Good X) (hl : l.stackTraces = false) : ev_Snd X l ev_ms x_X0_fewestMisses tx_X0_fewestMisses 92 (i_al 0 93) := s_aload_n dX0_fewestMisses_92 rfl
theorem s_X0_fewestMisses_93 {X : ev_E} {l : Launch} (hG : ev_Good X) (hl : l.stackTraces = false) : ev_Snd X l ev_ms x_X0_fewestMisses tx_X0_fewestMisses 93 (i_gf X 5 2 96) := s_getfield hG (ci := 5) (r := (RX0, TX0, 6)) rfl cw_5 (k := 2) (Nat.le_of_ble_eq_true rfl) w_102 rfl (Or.inl rfl) dX0_fewestMisses_93
theorem s_X0_fewestMisses_96 {X : ev_E} {l : Launch} (hG : ev_Good X) (hl : l.stackTraces = false) : ev_Snd X l ev_ms x_X0_fewestMisses tx_X0_fewestMisses 96 (i_il 5 98) := s_iload dX0_fewestMisses_96
theorem s_X0_fewestMisses_98 {X : ev_E} {l : Launch} (hG : ev_Good X) (hl : l.stackTraces = false) : ev_Snd X l ev_ms x_X0_fewestMisses tx_X0_fewestMisses 98 (i_ald X ev_tI 99) := s_iaload hG dX0_fewestMisses_98
theorem s_X0_fewestMisses_99 {X : ev_E} {l : Launch} (hG : ev_Good X) (hl : l.stackTraces = false) : ev_Snd X l ev_ms x_X0_fewestMisses tx_X0_fewestMisses 99 (i_ast ev_tI (fun v => v) 100) := s_iastore hG dX0_fewestMisses_99
theorem s_X0_fewestMisses_100 {X : ev_E} {l : Launch} (hG : ev_Good X) (hl : l.stackTraces = false) : ev_Snd X l ev_ms x_X0_fewestMisses tx_X0_fewestMisses 100 (i_inc 5 (1) 103) := s_iinc dX0_fewestMisses_100 rfl (Nat.le_of_ble_eq_true rfl)
theorem s_X0_fewestMisses_103 {X : ev_E} {l : Launch} (hG : ev_Good X) (hl : l.stackTraces = false) : ev_Snd X l ev_ms x_X0_fewestMisses tx_X0_fewestMisses 103 (i_goto 15) := s_goto dX0_fewestMisses_103 rfl
theorem s_X0_fewestMisses_106 {X : ev_E} {l : Launch} (hG : ev_Good X) (hl : l.stackTraces = false) : ev_Snd X l ev_ms x_X0_fewestMisses tx_X0_fewestMisses 106 (i_il 4 108) := s_iload dX0_fewestMisses_106
theorem s_X0_fewestMisses_108 {X : ev_E} {l : Launch} (hG : ev_Good X) (hl : l.stackTraces = false) : ev_Snd X l ev_ms x_X0_fewestMisses tx_X0_fewestMisses 108 (i_ir (.int)) := s_ireturn rfl dX0_fewestMisses_108
theorem sa_X0_fewestMisses_c0 {X : ev_E} {l : Launch} (hG : ev_Good X) (hl : l.stackTraces = false) : ∀ q ∈ tb_X0_fewestMisses_c0 X, ev_Snd X l ev_ms x_X0_fewestMisses tx_X0_fewestMisses q.1 q.2 := by
  intro q hq
  unfold tb_X0_fewestMisses_c0 at hq
  simp only [List.mem_cons, List.not_mem_nil, or_false] at hq
  rcases hq with rfl | rfl | rfl | rfl | rfl | rfl | rfl | rfl | rfl | rfl | rfl | rfl | rfl | rfl | rfl | rfl | rfl | rfl | rfl | rfl | rfl | rfl | rfl | rfl | rfl | rfl | rfl | rfl | rfl | rfl | rfl | rfl | rfl | rfl | rfl | rfl | rfl | rfl | rfl | rfl | rfl | rfl | rfl | rfl | rfl | rfl | rfl | rfl | rfl | rfl | rfl | rfl | rfl | rfl | rfl | rfl | rfl | rfl | rfl | rfl
  · exact s_X0_fewestMisses_0 hG hl
  · exact s_X0_fewestMisses_1 hG hl
  · exact s_X0_fewestMisses_3 hG hl
  · exact s_X0_fewestMisses_6 hG hl
  · exact s_X0_fewestMisses_7 hG hl
  · exact s_X0_fewestMisses_8 hG hl
  · exact s_X0_fewestMisses_9 hG hl
  · exact s_X0_fewestMisses_10 hG hl
  · exact s_X0_fewestMisses_12 hG hl
  · exact s_X0_fewestMisses_13 hG hl
  · exact s_X0_fewestMisses_15 hG hl
  · exact s_X0_fewestMisses_17 hG hl
  · exact s_X0_fewestMisses_18 hG hl
  · exact s_X0_fewestMisses_21 hG hl
  · exact s_X0_fewestMisses_24 hG hl
  · exact s_X0_fewestMisses_25 hG hl
  · exact s_X0_fewestMisses_26 hG hl
  · exact s_X0_fewestMisses_29 hG hl
  · exact s_X0_fewestMisses_31 hG hl
  · exact s_X0_fewestMisses_32 hG hl
  · exact s_X0_fewestMisses_33 hG hl
  · exact s_X0_fewestMisses_36 hG hl
  · exact s_X0_fewestMisses_38 hG hl
  · exact s_X0_fewestMisses_40 hG hl
  · exact s_X0_fewestMisses_41 hG hl
  · exact s_X0_fewestMisses_44 hG hl
  · exact s_X0_fewestMisses_47 hG hl
  · exact s_X0_fewestMisses_48 hG hl
  · exact s_X0_fewestMisses_49 hG hl
  · exact s_X0_fewestMisses_52 hG hl
  · exact s_X0_fewestMisses_53 hG hl
  · exact s_X0_fewestMisses_56 hG hl
  · exact s_X0_fewestMisses_57 hG hl
  · exact s_X0_fewestMisses_58 hG hl
  · exact s_X0_fewestMisses_61 hG hl
  · exact s_X0_fewestMisses_63 hG hl
  · exact s_X0_fewestMisses_64 hG hl
  · exact s_X0_fewestMisses_66 hG hl
  · exact s_X0_fewestMisses_67 hG hl
  · exact s_X0_fewestMisses_68 hG hl
  · exact s_X0_fewestMisses_71 hG hl
  · exact s_X0_fewestMisses_72 hG hl
  · exact s_X0_fewestMisses_73 hG hl
  · exact s_X0_fewestMisses_76 hG hl
  · exact s_X0_fewestMisses_78 hG hl
  · exact s_X0_fewestMisses_79 hG hl
  · exact s_X0_fewestMisses_82 hG hl
  · exact s_X0_fewestMisses_84 hG hl
  · exact s_X0_fewestMisses_85 hG hl
  · exact s_X0_fewestMisses_86 hG hl
  · exact s_X0_fewestMisses_87 hG hl
  · exact s_X0_fewestMisses_90 hG hl
  · exact s_X0_fewestMisses_92 hG hl
  · exact s_X0_fewestMisses_93 hG hl
  · exact s_X0_fewestMisses_96 hG hl
  · exact s_X0_fewestMisses_98 hG hl
  · exact s_X0_fewestMisses_99 hG hl
  · exact s_X0_fewestMisses_100 hG hl
  · exact s_X0_fewestMisses_103 hG hl
  · exact s_X0_fewestMisses_106 hG hl
theorem sa_X0_fewestMisses_c1 {X : ev_E} {l : Launch} (hG : ev_Good X) (hl : l.stackTraces = false) : ∀ q ∈ tb_X0_fewestMisses_c1 X, ev_Snd X l ev_ms x_X0_fewestMisses tx_X0_fewestMisses q.1 q.2 := by
  intro q hq
  unfold tb_X0_fewestMisses_c1 at hq
  simp only [List.mem_cons, List.not_mem_nil, or_false] at hq
  rcases hq with rfl
  · exact s_X0_fewestMisses_108 hG hl
theorem sa_X0_fewestMisses {X : ev_E} {l : Launch} (hG : ev_Good X) (hl : l.stackTraces = false) : ∀ q ∈ tb_X0_fewestMisses X, ev_Snd X l ev_ms x_X0_fewestMisses tx_X0_fewestMisses q.1 q.2 := List.forall_mem_append.mpr ⟨sa_X0_fewestMisses_c0 hG hl, sa_X0_fewestMisses_c1 hG hl⟩
def tx_X1_init : ev_X := fun pc _ => bif List.elem pc [21] then none else some none
noncomputable def tb_X1_init (X : ev_E) : List (Nat × (ev_S → ev_N)) := [(0, i_al 0 1), (1, i_oi 4), (4, i_al 0 5), (5, i_psh (.int (0)) 6), (6, i_pf 6 1 (.int) 9), (9, i_al 0 10), (10, i_psh (.int (0)) 11), (11, i_pf 6 2 (.int) 14), (14, i_al 0 15), (15, i_nw 7 7 [.null, .null, .int 0, .int 0, .int 0, .int 0, .int 0] 18), (18, i_dup 19), (19, i_psh (.int (1)) 20), (20, i_il 1 21), (21, i_cI 37 2 3 24), (24, i_pf 6 0 (.object "Lastasked$Row") 27), (27, i_vr)]
theorem s_X1_init_0 {X : ev_E} {l : Launch} (hG : ev_Good X) (hl : l.stackTraces = false) : ev_Snd X l ev_ms x_X1_init tx_X1_init 0 (i_al 0 1) := s_aload_n dX1_init_0 rfl
theorem s_X1_init_1 {X : ev_E} {l : Launch} (hG : ev_Good X) (hl : l.stackTraces = false) : ev_Snd X l ev_ms x_X1_init tx_X1_init 1 (i_oi 4) := s_objinit hG w_201 w_88 w_89 dX1_init_1
theorem s_X1_init_4 {X : ev_E} {l : Launch} (hG : ev_Good X) (hl : l.stackTraces = false) : ev_Snd X l ev_ms x_X1_init tx_X1_init 4 (i_al 0 5) := s_aload_n dX1_init_4 rfl
theorem s_X1_init_5 {X : ev_E} {l : Launch} (hG : ev_Good X) (hl : l.stackTraces = false) : ev_Snd X l ev_ms x_X1_init tx_X1_init 5 (i_psh (.int (0)) 6) := s_iconst dX1_init_5 rfl
theorem s_X1_init_6 {X : ev_E} {l : Launch} (hG : ev_Good X) (hl : l.stackTraces = false) : ev_Snd X l ev_ms x_X1_init tx_X1_init 6 (i_pf 6 1 (.int) 9) := s_putfield hG (ci := 6) (r := (RX1, TX1, 3)) rfl cw_6 ap_6 (k := 1) (Nat.le_of_ble_eq_true rfl) rfl (by decide +kernel) w_206 rfl (Or.inl rfl) dX1_init_6
theorem s_X1_init_9 {X : ev_E} {l : Launch} (hG : ev_Good X) (hl : l.stackTraces = false) : ev_Snd X l ev_ms x_X1_init tx_X1_init 9 (i_al 0 10) := s_aload_n dX1_init_9 rfl
theorem s_X1_init_10 {X : ev_E} {l : Launch} (hG : ev_Good X) (hl : l.stackTraces = false) : ev_Snd X l ev_ms x_X1_init tx_X1_init 10 (i_psh (.int (0)) 11) := s_iconst dX1_init_10 rfl
theorem s_X1_init_11 {X : ev_E} {l : Launch} (hG : ev_Good X) (hl : l.stackTraces = false) : ev_Snd X l ev_ms x_X1_init tx_X1_init 11 (i_pf 6 2 (.int) 14) := s_putfield hG (ci := 6) (r := (RX1, TX1, 3)) rfl cw_6 ap_6 (k := 2) (Nat.le_of_ble_eq_true rfl) rfl (by decide +kernel) w_208 rfl (Or.inl rfl) dX1_init_11
theorem s_X1_init_14 {X : ev_E} {l : Launch} (hG : ev_Good X) (hl : l.stackTraces = false) : ev_Snd X l ev_ms x_X1_init tx_X1_init 14 (i_al 0 15) := s_aload_n dX1_init_14 rfl
theorem s_X1_init_15 {X : ev_E} {l : Launch} (hG : ev_Good X) (hl : l.stackTraces = false) : ev_Snd X l ev_ms x_X1_init tx_X1_init 15 (i_nw 7 7 [.null, .null, .int 0, .int 0, .int 0, .int 0, .int 0] 18) := s_new hG (ci := 7) (r := (RX2, TX2, 7)) rfl cw_7 tyX2 tyX2_ok (fun j hj => nw_7 j hj) w_202 rfl w_122 rfl w_51 rfl dX1_init_15
theorem s_X1_init_18 {X : ev_E} {l : Launch} (hG : ev_Good X) (hl : l.stackTraces = false) : ev_Snd X l ev_ms x_X1_init tx_X1_init 18 (i_dup 19) := s_dup dX1_init_18
theorem s_X1_init_19 {X : ev_E} {l : Launch} (hG : ev_Good X) (hl : l.stackTraces = false) : ev_Snd X l ev_ms x_X1_init tx_X1_init 19 (i_psh (.int (1)) 20) := s_iconst dX1_init_19 rfl
theorem s_X1_init_20 {X : ev_E} {l : Launch} (hG : ev_Good X) (hl : l.stackTraces = false) : ev_Snd X l ev_ms x_X1_init tx_X1_init 20 (i_il 1 21) := s_iload_n dX1_init_20 rfl
theorem s_X1_init_21 {X : ev_E} {l : Launch} (hG : ev_Good X) (hl : l.stackTraces = false) : ev_Snd X l ev_ms x_X1_init tx_X1_init 21 (i_cI 37 2 3 24) := s_invokeinit hG (mi := 37) (n := 2) (cal_X2_init (Nat.le_of_ble_eq_true rfl)) rfl w_203 w_124 rfl (fun _ => rfl) dX1_init_21
theorem s_X1_init_24 {X : ev_E} {l : Launch} (hG : ev_Good X) (hl : l.stackTraces = false) : ev_Snd X l ev_ms x_X1_init tx_X1_init 24 (i_pf 6 0 (.object "Lastasked$Row") 27) := s_putfieldF hG (ci := 6) (r := (RX1, TX1, 3)) rfl cw_6 ap_6 (k := 0) (Nat.le_of_ble_eq_true rfl) rfl rfl rfl (by decide +kernel) w_204 rfl dX1_init_24
theorem s_X1_init_27 {X : ev_E} {l : Launch} (hG : ev_Good X) (hl : l.stackTraces = false) : ev_Snd X l ev_ms x_X1_init tx_X1_init 27 (i_vr) := s_return rfl dX1_init_27
theorem sa_X1_init {X : ev_E} {l : Launch} (hG : ev_Good X) (hl : l.stackTraces = false) : ∀ q ∈ tb_X1_init X, ev_Snd X l ev_ms x_X1_init tx_X1_init q.1 q.2 := by
  intro q hq
  unfold tb_X1_init at hq
  simp only [List.mem_cons, List.not_mem_nil, or_false] at hq
  rcases hq with rfl | rfl | rfl | rfl | rfl | rfl | rfl | rfl | rfl | rfl | rfl | rfl | rfl | rfl | rfl | rfl
  · exact s_X1_init_0 hG hl
  · exact s_X1_init_1 hG hl
  · exact s_X1_init_4 hG hl
  · exact s_X1_init_5 hG hl
  · exact s_X1_init_6 hG hl
  · exact s_X1_init_9 hG hl
  · exact s_X1_init_10 hG hl
  · exact s_X1_init_11 hG hl
  · exact s_X1_init_14 hG hl
  · exact s_X1_init_15 hG hl
  · exact s_X1_init_18 hG hl
  · exact s_X1_init_19 hG hl
  · exact s_X1_init_20 hG hl
  · exact s_X1_init_21 hG hl
  · exact s_X1_init_24 hG hl
  · exact s_X1_init_27 hG hl
def tx_X2_changeValue : ev_X := fun _ _ => some none
noncomputable def tb_X2_changeValue (X : ev_E) : List (Nat × (ev_S → ev_N)) := [(0, i_al 0 1), (1, i_il 1 2), (2, i_cV X 39 1 7 2 5), (5, i_ifne 10 8), (8, i_psh (.int (-1)) 9), (9, i_ir (.int)), (10, i_al 0 11), (11, i_gf X 7 1 14), (14, i_il 1 15), (15, i_ald X ev_tI 16), (16, i_is 3 17), (17, i_al 0 18), (18, i_gf X 7 1 21), (21, i_il 1 22), (22, i_il 2 23), (23, i_ast ev_tI (fun v => v) 24), (24, i_il 3 25), (25, i_ir (.int))]
theorem s_X2_changeValue_0 {X : ev_E} {l : Launch} (hG : ev_Good X) (hl : l.stackTraces = false) : ev_Snd X l ev_ms x_X2_changeValue tx_X2_changeValue 0 (i_al 0 1) := s_aload_n dX2_changeValue_0 rfl
theorem s_X2_changeValue_1 {X : ev_E} {l : Launch} (hG : ev_Good X) (hl : l.stackTraces = false) : ev_Snd X l ev_ms x_X2_changeValue tx_X2_changeValue 1 (i_il 1 2) := s_iload_n dX2_changeValue_1 rfl
theorem s_X2_changeValue_2 {X : ev_E} {l : Launch} (hG : ev_Good X) (hl : l.stackTraces = false) : ev_Snd X l ev_ms x_X2_changeValue tx_X2_changeValue 2 (i_cV X 39 1 7 2 5) := s_invokevirtual hG (mi := 39) (n := 1) (ci := 7) (r := (RX2, TX2, 7)) rfl (cal_X2_isPlace (Nat.le_of_ble_eq_true rfl)) w_741 w_742 w_743 dX2_changeValue_2
theorem s_X2_changeValue_5 {X : ev_E} {l : Launch} (hG : ev_Good X) (hl : l.stackTraces = false) : ev_Snd X l ev_ms x_X2_changeValue tx_X2_changeValue 5 (i_ifne 10 8) := s_ifne dX2_changeValue_5 rfl
theorem s_X2_changeValue_8 {X : ev_E} {l : Launch} (hG : ev_Good X) (hl : l.stackTraces = false) : ev_Snd X l ev_ms x_X2_changeValue tx_X2_changeValue 8 (i_psh (.int (-1)) 9) := s_iconst dX2_changeValue_8 rfl
theorem s_X2_changeValue_9 {X : ev_E} {l : Launch} (hG : ev_Good X) (hl : l.stackTraces = false) : ev_Snd X l ev_ms x_X2_changeValue tx_X2_changeValue 9 (i_ir (.int)) := s_ireturn rfl dX2_changeValue_9
theorem s_X2_changeValue_10 {X : ev_E} {l : Launch} (hG : ev_Good X) (hl : l.stackTraces = false) : ev_Snd X l ev_ms x_X2_changeValue tx_X2_changeValue 10 (i_al 0 11) := s_aload_n dX2_changeValue_10 rfl
theorem s_X2_changeValue_11 {X : ev_E} {l : Launch} (hG : ev_Good X) (hl : l.stackTraces = false) : ev_Snd X l ev_ms x_X2_changeValue tx_X2_changeValue 11 (i_gf X 7 1 14) := s_getfield hG (ci := 7) (r := (RX2, TX2, 7)) rfl cw_7 (k := 1) (Nat.le_of_ble_eq_true rfl) w_128 rfl (Or.inl rfl) dX2_changeValue_11
theorem s_X2_changeValue_14 {X : ev_E} {l : Launch} (hG : ev_Good X) (hl : l.stackTraces = false) : ev_Snd X l ev_ms x_X2_changeValue tx_X2_changeValue 14 (i_il 1 15) := s_iload_n dX2_changeValue_14 rfl
theorem s_X2_changeValue_15 {X : ev_E} {l : Launch} (hG : ev_Good X) (hl : l.stackTraces = false) : ev_Snd X l ev_ms x_X2_changeValue tx_X2_changeValue 15 (i_ald X ev_tI 16) := s_iaload hG dX2_changeValue_15
theorem s_X2_changeValue_16 {X : ev_E} {l : Launch} (hG : ev_Good X) (hl : l.stackTraces = false) : ev_Snd X l ev_ms x_X2_changeValue tx_X2_changeValue 16 (i_is 3 17) := s_istore_n dX2_changeValue_16 rfl (Nat.le_of_ble_eq_true rfl)
theorem s_X2_changeValue_17 {X : ev_E} {l : Launch} (hG : ev_Good X) (hl : l.stackTraces = false) : ev_Snd X l ev_ms x_X2_changeValue tx_X2_changeValue 17 (i_al 0 18) := s_aload_n dX2_changeValue_17 rfl
theorem s_X2_changeValue_18 {X : ev_E} {l : Launch} (hG : ev_Good X) (hl : l.stackTraces = false) : ev_Snd X l ev_ms x_X2_changeValue tx_X2_changeValue 18 (i_gf X 7 1 21) := s_getfield hG (ci := 7) (r := (RX2, TX2, 7)) rfl cw_7 (k := 1) (Nat.le_of_ble_eq_true rfl) w_128 rfl (Or.inl rfl) dX2_changeValue_18
theorem s_X2_changeValue_21 {X : ev_E} {l : Launch} (hG : ev_Good X) (hl : l.stackTraces = false) : ev_Snd X l ev_ms x_X2_changeValue tx_X2_changeValue 21 (i_il 1 22) := s_iload_n dX2_changeValue_21 rfl
theorem s_X2_changeValue_22 {X : ev_E} {l : Launch} (hG : ev_Good X) (hl : l.stackTraces = false) : ev_Snd X l ev_ms x_X2_changeValue tx_X2_changeValue 22 (i_il 2 23) := s_iload_n dX2_changeValue_22 rfl
theorem s_X2_changeValue_23 {X : ev_E} {l : Launch} (hG : ev_Good X) (hl : l.stackTraces = false) : ev_Snd X l ev_ms x_X2_changeValue tx_X2_changeValue 23 (i_ast ev_tI (fun v => v) 24) := s_iastore hG dX2_changeValue_23
theorem s_X2_changeValue_24 {X : ev_E} {l : Launch} (hG : ev_Good X) (hl : l.stackTraces = false) : ev_Snd X l ev_ms x_X2_changeValue tx_X2_changeValue 24 (i_il 3 25) := s_iload_n dX2_changeValue_24 rfl
theorem s_X2_changeValue_25 {X : ev_E} {l : Launch} (hG : ev_Good X) (hl : l.stackTraces = false) : ev_Snd X l ev_ms x_X2_changeValue tx_X2_changeValue 25 (i_ir (.int)) := s_ireturn rfl dX2_changeValue_25
theorem sa_X2_changeValue {X : ev_E} {l : Launch} (hG : ev_Good X) (hl : l.stackTraces = false) : ∀ q ∈ tb_X2_changeValue X, ev_Snd X l ev_ms x_X2_changeValue tx_X2_changeValue q.1 q.2 := by
  intro q hq
  unfold tb_X2_changeValue at hq
  simp only [List.mem_cons, List.not_mem_nil, or_false] at hq
  rcases hq with rfl | rfl | rfl | rfl | rfl | rfl | rfl | rfl | rfl | rfl | rfl | rfl | rfl | rfl | rfl | rfl | rfl | rfl
  · exact s_X2_changeValue_0 hG hl
  · exact s_X2_changeValue_1 hG hl
  · exact s_X2_changeValue_2 hG hl
  · exact s_X2_changeValue_5 hG hl
  · exact s_X2_changeValue_8 hG hl
  · exact s_X2_changeValue_9 hG hl
  · exact s_X2_changeValue_10 hG hl
  · exact s_X2_changeValue_11 hG hl
  · exact s_X2_changeValue_14 hG hl
  · exact s_X2_changeValue_15 hG hl
  · exact s_X2_changeValue_16 hG hl
  · exact s_X2_changeValue_17 hG hl
  · exact s_X2_changeValue_18 hG hl
  · exact s_X2_changeValue_21 hG hl
  · exact s_X2_changeValue_22 hG hl
  · exact s_X2_changeValue_23 hG hl
  · exact s_X2_changeValue_24 hG hl
  · exact s_X2_changeValue_25 hG hl
def tx_X2_dropAt : ev_X := fun _ _ => some none
noncomputable def tb_X2_dropAt (X : ev_E) : List (Nat × (ev_S → ev_N)) := [(0, i_al 0 1), (1, i_il 1 2), (2, i_cV X 39 1 7 2 5), (5, i_ifne 9 8), (8, i_vr), (9, i_il 1 10), (10, i_is 2 11), (11, i_il 2 12), (12, i_psh (.int (1)) 13), (13, i_ii (fun a b => a + b) 14), (14, i_al 0 15), (15, i_gf X 7 2 18), (18, i_icge 55 21), (21, i_al 0 22), (22, i_gf X 7 0 25), (25, i_il 2 26), (26, i_al 0 27), (27, i_gf X 7 0 30), (30, i_il 2 31), (31, i_psh (.int (1)) 32), (32, i_ii (fun a b => a + b) 33), (33, i_ald X ev_tI 34), (34, i_ast ev_tI (fun v => v) 35), (35, i_al 0 36), (36, i_gf X 7 1 39), (39, i_il 2 40), (40, i_al 0 41), (41, i_gf X 7 1 44), (44, i_il 2 45), (45, i_psh (.int (1)) 46), (46, i_ii (fun a b => a + b) 47), (47, i_ald X ev_tI 48), (48, i_ast ev_tI (fun v => v) 49), (49, i_inc 2 (1) 52), (52, i_goto 11), (55, i_al 0 56), (56, i_dup 57), (57, i_gf X 7 2 60), (60, i_psh (.int (1)) 61), (61, i_ii (fun a b => a - b) 62), (62, i_pf 7 2 (.int) 65), (65, i_vr)]
theorem s_X2_dropAt_0 {X : ev_E} {l : Launch} (hG : ev_Good X) (hl : l.stackTraces = false) : ev_Snd X l ev_ms x_X2_dropAt tx_X2_dropAt 0 (i_al 0 1) := s_aload_n dX2_dropAt_0 rfl
theorem s_X2_dropAt_1 {X : ev_E} {l : Launch} (hG : ev_Good X) (hl : l.stackTraces = false) : ev_Snd X l ev_ms x_X2_dropAt tx_X2_dropAt 1 (i_il 1 2) := s_iload_n dX2_dropAt_1 rfl
theorem s_X2_dropAt_2 {X : ev_E} {l : Launch} (hG : ev_Good X) (hl : l.stackTraces = false) : ev_Snd X l ev_ms x_X2_dropAt tx_X2_dropAt 2 (i_cV X 39 1 7 2 5) := s_invokevirtual hG (mi := 39) (n := 1) (ci := 7) (r := (RX2, TX2, 7)) rfl (cal_X2_isPlace (Nat.le_of_ble_eq_true rfl)) w_741 w_742 w_743 dX2_dropAt_2
theorem s_X2_dropAt_5 {X : ev_E} {l : Launch} (hG : ev_Good X) (hl : l.stackTraces = false) : ev_Snd X l ev_ms x_X2_dropAt tx_X2_dropAt 5 (i_ifne 9 8) := s_ifne dX2_dropAt_5 rfl
theorem s_X2_dropAt_8 {X : ev_E} {l : Launch} (hG : ev_Good X) (hl : l.stackTraces = false) : ev_Snd X l ev_ms x_X2_dropAt tx_X2_dropAt 8 (i_vr) := s_return rfl dX2_dropAt_8
theorem s_X2_dropAt_9 {X : ev_E} {l : Launch} (hG : ev_Good X) (hl : l.stackTraces = false) : ev_Snd X l ev_ms x_X2_dropAt tx_X2_dropAt 9 (i_il 1 10) := s_iload_n dX2_dropAt_9 rfl
theorem s_X2_dropAt_10 {X : ev_E} {l : Launch} (hG : ev_Good X) (hl : l.stackTraces = false) : ev_Snd X l ev_ms x_X2_dropAt tx_X2_dropAt 10 (i_is 2 11) := s_istore_n dX2_dropAt_10 rfl (Nat.le_of_ble_eq_true rfl)
theorem s_X2_dropAt_11 {X : ev_E} {l : Launch} (hG : ev_Good X) (hl : l.stackTraces = false) : ev_Snd X l ev_ms x_X2_dropAt tx_X2_dropAt 11 (i_il 2 12) := s_iload_n dX2_dropAt_11 rfl
theorem s_X2_dropAt_12 {X : ev_E} {l : Launch} (hG : ev_Good X) (hl : l.stackTraces = false) : ev_Snd X l ev_ms x_X2_dropAt tx_X2_dropAt 12 (i_psh (.int (1)) 13) := s_iconst dX2_dropAt_12 rfl
theorem s_X2_dropAt_13 {X : ev_E} {l : Launch} (hG : ev_Good X) (hl : l.stackTraces = false) : ev_Snd X l ev_ms x_X2_dropAt tx_X2_dropAt 13 (i_ii (fun a b => a + b) 14) := s_iadd dX2_dropAt_13
theorem s_X2_dropAt_14 {X : ev_E} {l : Launch} (hG : ev_Good X) (hl : l.stackTraces = false) : ev_Snd X l ev_ms x_X2_dropAt tx_X2_dropAt 14 (i_al 0 15) := s_aload_n dX2_dropAt_14 rfl
theorem s_X2_dropAt_15 {X : ev_E} {l : Launch} (hG : ev_Good X) (hl : l.stackTraces = false) : ev_Snd X l ev_ms x_X2_dropAt tx_X2_dropAt 15 (i_gf X 7 2 18) := s_getfield hG (ci := 7) (r := (RX2, TX2, 7)) rfl cw_7 (k := 2) (Nat.le_of_ble_eq_true rfl) w_129 rfl (Or.inl rfl) dX2_dropAt_15
theorem s_X2_dropAt_18 {X : ev_E} {l : Launch} (hG : ev_Good X) (hl : l.stackTraces = false) : ev_Snd X l ev_ms x_X2_dropAt tx_X2_dropAt 18 (i_icge 55 21) := s_icge dX2_dropAt_18 rfl
theorem s_X2_dropAt_21 {X : ev_E} {l : Launch} (hG : ev_Good X) (hl : l.stackTraces = false) : ev_Snd X l ev_ms x_X2_dropAt tx_X2_dropAt 21 (i_al 0 22) := s_aload_n dX2_dropAt_21 rfl
theorem s_X2_dropAt_22 {X : ev_E} {l : Launch} (hG : ev_Good X) (hl : l.stackTraces = false) : ev_Snd X l ev_ms x_X2_dropAt tx_X2_dropAt 22 (i_gf X 7 0 25) := s_getfield hG (ci := 7) (r := (RX2, TX2, 7)) rfl cw_7 (k := 0) (Nat.le_of_ble_eq_true rfl) w_127 rfl (Or.inl rfl) dX2_dropAt_22
theorem s_X2_dropAt_25 {X : ev_E} {l : Launch} (hG : ev_Good X) (hl : l.stackTraces = false) : ev_Snd X l ev_ms x_X2_dropAt tx_X2_dropAt 25 (i_il 2 26) := s_iload_n dX2_dropAt_25 rfl
theorem s_X2_dropAt_26 {X : ev_E} {l : Launch} (hG : ev_Good X) (hl : l.stackTraces = false) : ev_Snd X l ev_ms x_X2_dropAt tx_X2_dropAt 26 (i_al 0 27) := s_aload_n dX2_dropAt_26 rfl
theorem s_X2_dropAt_27 {X : ev_E} {l : Launch} (hG : ev_Good X) (hl : l.stackTraces = false) : ev_Snd X l ev_ms x_X2_dropAt tx_X2_dropAt 27 (i_gf X 7 0 30) := s_getfield hG (ci := 7) (r := (RX2, TX2, 7)) rfl cw_7 (k := 0) (Nat.le_of_ble_eq_true rfl) w_127 rfl (Or.inl rfl) dX2_dropAt_27
theorem s_X2_dropAt_30 {X : ev_E} {l : Launch} (hG : ev_Good X) (hl : l.stackTraces = false) : ev_Snd X l ev_ms x_X2_dropAt tx_X2_dropAt 30 (i_il 2 31) := s_iload_n dX2_dropAt_30 rfl
theorem s_X2_dropAt_31 {X : ev_E} {l : Launch} (hG : ev_Good X) (hl : l.stackTraces = false) : ev_Snd X l ev_ms x_X2_dropAt tx_X2_dropAt 31 (i_psh (.int (1)) 32) := s_iconst dX2_dropAt_31 rfl
theorem s_X2_dropAt_32 {X : ev_E} {l : Launch} (hG : ev_Good X) (hl : l.stackTraces = false) : ev_Snd X l ev_ms x_X2_dropAt tx_X2_dropAt 32 (i_ii (fun a b => a + b) 33) := s_iadd dX2_dropAt_32
theorem s_X2_dropAt_33 {X : ev_E} {l : Launch} (hG : ev_Good X) (hl : l.stackTraces = false) : ev_Snd X l ev_ms x_X2_dropAt tx_X2_dropAt 33 (i_ald X ev_tI 34) := s_iaload hG dX2_dropAt_33
theorem s_X2_dropAt_34 {X : ev_E} {l : Launch} (hG : ev_Good X) (hl : l.stackTraces = false) : ev_Snd X l ev_ms x_X2_dropAt tx_X2_dropAt 34 (i_ast ev_tI (fun v => v) 35) := s_iastore hG dX2_dropAt_34
theorem s_X2_dropAt_35 {X : ev_E} {l : Launch} (hG : ev_Good X) (hl : l.stackTraces = false) : ev_Snd X l ev_ms x_X2_dropAt tx_X2_dropAt 35 (i_al 0 36) := s_aload_n dX2_dropAt_35 rfl
theorem s_X2_dropAt_36 {X : ev_E} {l : Launch} (hG : ev_Good X) (hl : l.stackTraces = false) : ev_Snd X l ev_ms x_X2_dropAt tx_X2_dropAt 36 (i_gf X 7 1 39) := s_getfield hG (ci := 7) (r := (RX2, TX2, 7)) rfl cw_7 (k := 1) (Nat.le_of_ble_eq_true rfl) w_128 rfl (Or.inl rfl) dX2_dropAt_36
theorem s_X2_dropAt_39 {X : ev_E} {l : Launch} (hG : ev_Good X) (hl : l.stackTraces = false) : ev_Snd X l ev_ms x_X2_dropAt tx_X2_dropAt 39 (i_il 2 40) := s_iload_n dX2_dropAt_39 rfl
theorem s_X2_dropAt_40 {X : ev_E} {l : Launch} (hG : ev_Good X) (hl : l.stackTraces = false) : ev_Snd X l ev_ms x_X2_dropAt tx_X2_dropAt 40 (i_al 0 41) := s_aload_n dX2_dropAt_40 rfl
theorem s_X2_dropAt_41 {X : ev_E} {l : Launch} (hG : ev_Good X) (hl : l.stackTraces = false) : ev_Snd X l ev_ms x_X2_dropAt tx_X2_dropAt 41 (i_gf X 7 1 44) := s_getfield hG (ci := 7) (r := (RX2, TX2, 7)) rfl cw_7 (k := 1) (Nat.le_of_ble_eq_true rfl) w_128 rfl (Or.inl rfl) dX2_dropAt_41
theorem s_X2_dropAt_44 {X : ev_E} {l : Launch} (hG : ev_Good X) (hl : l.stackTraces = false) : ev_Snd X l ev_ms x_X2_dropAt tx_X2_dropAt 44 (i_il 2 45) := s_iload_n dX2_dropAt_44 rfl
theorem s_X2_dropAt_45 {X : ev_E} {l : Launch} (hG : ev_Good X) (hl : l.stackTraces = false) : ev_Snd X l ev_ms x_X2_dropAt tx_X2_dropAt 45 (i_psh (.int (1)) 46) := s_iconst dX2_dropAt_45 rfl
theorem s_X2_dropAt_46 {X : ev_E} {l : Launch} (hG : ev_Good X) (hl : l.stackTraces = false) : ev_Snd X l ev_ms x_X2_dropAt tx_X2_dropAt 46 (i_ii (fun a b => a + b) 47) := s_iadd dX2_dropAt_46
theorem s_X2_dropAt_47 {X : ev_E} {l : Launch} (hG : ev_Good X) (hl : l.stackTraces = false) : ev_Snd X l ev_ms x_X2_dropAt tx_X2_dropAt 47 (i_ald X ev_tI 48) := s_iaload hG dX2_dropAt_47
theorem s_X2_dropAt_48 {X : ev_E} {l : Launch} (hG : ev_Good X) (hl : l.stackTraces = false) : ev_Snd X l ev_ms x_X2_dropAt tx_X2_dropAt 48 (i_ast ev_tI (fun v => v) 49) := s_iastore hG dX2_dropAt_48
theorem s_X2_dropAt_49 {X : ev_E} {l : Launch} (hG : ev_Good X) (hl : l.stackTraces = false) : ev_Snd X l ev_ms x_X2_dropAt tx_X2_dropAt 49 (i_inc 2 (1) 52) := s_iinc dX2_dropAt_49 rfl (Nat.le_of_ble_eq_true rfl)
theorem s_X2_dropAt_52 {X : ev_E} {l : Launch} (hG : ev_Good X) (hl : l.stackTraces = false) : ev_Snd X l ev_ms x_X2_dropAt tx_X2_dropAt 52 (i_goto 11) := s_goto dX2_dropAt_52 rfl
theorem s_X2_dropAt_55 {X : ev_E} {l : Launch} (hG : ev_Good X) (hl : l.stackTraces = false) : ev_Snd X l ev_ms x_X2_dropAt tx_X2_dropAt 55 (i_al 0 56) := s_aload_n dX2_dropAt_55 rfl
theorem s_X2_dropAt_56 {X : ev_E} {l : Launch} (hG : ev_Good X) (hl : l.stackTraces = false) : ev_Snd X l ev_ms x_X2_dropAt tx_X2_dropAt 56 (i_dup 57) := s_dup dX2_dropAt_56
theorem s_X2_dropAt_57 {X : ev_E} {l : Launch} (hG : ev_Good X) (hl : l.stackTraces = false) : ev_Snd X l ev_ms x_X2_dropAt tx_X2_dropAt 57 (i_gf X 7 2 60) := s_getfield hG (ci := 7) (r := (RX2, TX2, 7)) rfl cw_7 (k := 2) (Nat.le_of_ble_eq_true rfl) w_129 rfl (Or.inl rfl) dX2_dropAt_57
theorem s_X2_dropAt_60 {X : ev_E} {l : Launch} (hG : ev_Good X) (hl : l.stackTraces = false) : ev_Snd X l ev_ms x_X2_dropAt tx_X2_dropAt 60 (i_psh (.int (1)) 61) := s_iconst dX2_dropAt_60 rfl
theorem s_X2_dropAt_61 {X : ev_E} {l : Launch} (hG : ev_Good X) (hl : l.stackTraces = false) : ev_Snd X l ev_ms x_X2_dropAt tx_X2_dropAt 61 (i_ii (fun a b => a - b) 62) := s_isub dX2_dropAt_61
theorem s_X2_dropAt_62 {X : ev_E} {l : Launch} (hG : ev_Good X) (hl : l.stackTraces = false) : ev_Snd X l ev_ms x_X2_dropAt tx_X2_dropAt 62 (i_pf 7 2 (.int) 65) := s_putfield hG (ci := 7) (r := (RX2, TX2, 7)) rfl cw_7 ap_7 (k := 2) (Nat.le_of_ble_eq_true rfl) rfl (by decide +kernel) w_129 rfl (Or.inl rfl) dX2_dropAt_62
theorem s_X2_dropAt_65 {X : ev_E} {l : Launch} (hG : ev_Good X) (hl : l.stackTraces = false) : ev_Snd X l ev_ms x_X2_dropAt tx_X2_dropAt 65 (i_vr) := s_return rfl dX2_dropAt_65
theorem sa_X2_dropAt {X : ev_E} {l : Launch} (hG : ev_Good X) (hl : l.stackTraces = false) : ∀ q ∈ tb_X2_dropAt X, ev_Snd X l ev_ms x_X2_dropAt tx_X2_dropAt q.1 q.2 := by
  intro q hq
  unfold tb_X2_dropAt at hq
  simp only [List.mem_cons, List.not_mem_nil, or_false] at hq
  rcases hq with rfl | rfl | rfl | rfl | rfl | rfl | rfl | rfl | rfl | rfl | rfl | rfl | rfl | rfl | rfl | rfl | rfl | rfl | rfl | rfl | rfl | rfl | rfl | rfl | rfl | rfl | rfl | rfl | rfl | rfl | rfl | rfl | rfl | rfl | rfl | rfl | rfl | rfl | rfl | rfl | rfl | rfl
  · exact s_X2_dropAt_0 hG hl
  · exact s_X2_dropAt_1 hG hl
  · exact s_X2_dropAt_2 hG hl
  · exact s_X2_dropAt_5 hG hl
  · exact s_X2_dropAt_8 hG hl
  · exact s_X2_dropAt_9 hG hl
  · exact s_X2_dropAt_10 hG hl
  · exact s_X2_dropAt_11 hG hl
  · exact s_X2_dropAt_12 hG hl
  · exact s_X2_dropAt_13 hG hl
  · exact s_X2_dropAt_14 hG hl
  · exact s_X2_dropAt_15 hG hl
  · exact s_X2_dropAt_18 hG hl
  · exact s_X2_dropAt_21 hG hl
  · exact s_X2_dropAt_22 hG hl
  · exact s_X2_dropAt_25 hG hl
  · exact s_X2_dropAt_26 hG hl
  · exact s_X2_dropAt_27 hG hl
  · exact s_X2_dropAt_30 hG hl
  · exact s_X2_dropAt_31 hG hl
  · exact s_X2_dropAt_32 hG hl
  · exact s_X2_dropAt_33 hG hl
  · exact s_X2_dropAt_34 hG hl
  · exact s_X2_dropAt_35 hG hl
  · exact s_X2_dropAt_36 hG hl
  · exact s_X2_dropAt_39 hG hl
  · exact s_X2_dropAt_40 hG hl
  · exact s_X2_dropAt_41 hG hl
  · exact s_X2_dropAt_44 hG hl
  · exact s_X2_dropAt_45 hG hl
  · exact s_X2_dropAt_46 hG hl
  · exact s_X2_dropAt_47 hG hl
  · exact s_X2_dropAt_48 hG hl
  · exact s_X2_dropAt_49 hG hl
  · exact s_X2_dropAt_52 hG hl
  · exact s_X2_dropAt_55 hG hl
  · exact s_X2_dropAt_56 hG hl
  · exact s_X2_dropAt_57 hG hl
  · exact s_X2_dropAt_60 hG hl
  · exact s_X2_dropAt_61 hG hl
  · exact s_X2_dropAt_62 hG hl
  · exact s_X2_dropAt_65 hG hl
def tx_X2_isLastOf : ev_X := fun _ _ => some none
noncomputable def tb_X2_isLastOf (X : ev_E) : List (Nat × (ev_S → ev_N)) := [(0, i_al 0 1), (1, i_gf X 7 2 4), (4, i_al 0 5), (5, i_gf X 7 4 8), (8, i_al 1 9), (9, i_gf X 7 2 12), (12, i_cS 17 2 2 15), (15, i_iceq 20 18), (18, i_psh (.int (0)) 19), (19, i_ir (.boolean)), (20, i_al 1 21), (21, i_gf X 7 2 24), (24, i_al 0 25), (25, i_gf X 7 2 28), (28, i_ii (fun a b => a - b) 29), (29, i_is 2 30), (30, i_psh (.int (0)) 31), (31, i_is 3 32), (32, i_il 3 33), (33, i_al 0 34), (34, i_gf X 7 2 37), (37, i_icge 65 40), (40, i_al 0 41), (41, i_gf X 7 0 44), (44, i_il 3 45), (45, i_ald X ev_tI 46), (46, i_al 1 47), (47, i_gf X 7 0 50), (50, i_il 2 51), (51, i_il 3 52), (52, i_ii (fun a b => a + b) 53), (53, i_ald X ev_tI 54), (54, i_iceq 59 57), (57, i_psh (.int (0)) 58), (58, i_ir (.boolean)), (59, i_inc 3 (1) 62), (62, i_goto 32), (65, i_psh (.int (1)) 66), (66, i_ir (.boolean))]
theorem s_X2_isLastOf_0 {X : ev_E} {l : Launch} (hG : ev_Good X) (hl : l.stackTraces = false) : ev_Snd X l ev_ms x_X2_isLastOf tx_X2_isLastOf 0 (i_al 0 1) := s_aload_n dX2_isLastOf_0 rfl
theorem s_X2_isLastOf_1 {X : ev_E} {l : Launch} (hG : ev_Good X) (hl : l.stackTraces = false) : ev_Snd X l ev_ms x_X2_isLastOf tx_X2_isLastOf 1 (i_gf X 7 2 4) := s_getfield hG (ci := 7) (r := (RX2, TX2, 7)) rfl cw_7 (k := 2) (Nat.le_of_ble_eq_true rfl) w_129 rfl (Or.inl rfl) dX2_isLastOf_1
theorem s_X2_isLastOf_4 {X : ev_E} {l : Launch} (hG : ev_Good X) (hl : l.stackTraces = false) : ev_Snd X l ev_ms x_X2_isLastOf tx_X2_isLastOf 4 (i_al 0 5) := s_aload_n dX2_isLastOf_4 rfl
theorem s_X2_isLastOf_5 {X : ev_E} {l : Launch} (hG : ev_Good X) (hl : l.stackTraces = false) : ev_Snd X l ev_ms x_X2_isLastOf tx_X2_isLastOf 5 (i_gf X 7 4 8) := s_getfield hG (ci := 7) (r := (RX2, TX2, 7)) rfl cw_7 (k := 4) (Nat.le_of_ble_eq_true rfl) w_134 rfl (Or.inl rfl) dX2_isLastOf_5
theorem s_X2_isLastOf_8 {X : ev_E} {l : Launch} (hG : ev_Good X) (hl : l.stackTraces = false) : ev_Snd X l ev_ms x_X2_isLastOf tx_X2_isLastOf 8 (i_al 1 9) := s_aload_n dX2_isLastOf_8 rfl
theorem s_X2_isLastOf_9 {X : ev_E} {l : Launch} (hG : ev_Good X) (hl : l.stackTraces = false) : ev_Snd X l ev_ms x_X2_isLastOf tx_X2_isLastOf 9 (i_gf X 7 2 12) := s_getfield hG (ci := 7) (r := (RX2, TX2, 7)) rfl cw_7 (k := 2) (Nat.le_of_ble_eq_true rfl) w_129 rfl (Or.inl rfl) dX2_isLastOf_9
theorem s_X2_isLastOf_12 {X : ev_E} {l : Launch} (hG : ev_Good X) (hl : l.stackTraces = false) : ev_Snd X l ev_ms x_X2_isLastOf tx_X2_isLastOf 12 (i_cS 17 2 2 15) := s_invokestatic hG (mi := 17) (n := 2) (cal_J9_min_7cf53 (Nat.le_of_ble_eq_true rfl)) w_656 w_349 dX2_isLastOf_12
theorem s_X2_isLastOf_15 {X : ev_E} {l : Launch} (hG : ev_Good X) (hl : l.stackTraces = false) : ev_Snd X l ev_ms x_X2_isLastOf tx_X2_isLastOf 15 (i_iceq 20 18) := s_iceq dX2_isLastOf_15 rfl
theorem s_X2_isLastOf_18 {X : ev_E} {l : Launch} (hG : ev_Good X) (hl : l.stackTraces = false) : ev_Snd X l ev_ms x_X2_isLastOf tx_X2_isLastOf 18 (i_psh (.int (0)) 19) := s_iconst dX2_isLastOf_18 rfl
theorem s_X2_isLastOf_19 {X : ev_E} {l : Launch} (hG : ev_Good X) (hl : l.stackTraces = false) : ev_Snd X l ev_ms x_X2_isLastOf tx_X2_isLastOf 19 (i_ir (.boolean)) := s_ireturn rfl dX2_isLastOf_19
theorem s_X2_isLastOf_20 {X : ev_E} {l : Launch} (hG : ev_Good X) (hl : l.stackTraces = false) : ev_Snd X l ev_ms x_X2_isLastOf tx_X2_isLastOf 20 (i_al 1 21) := s_aload_n dX2_isLastOf_20 rfl
theorem s_X2_isLastOf_21 {X : ev_E} {l : Launch} (hG : ev_Good X) (hl : l.stackTraces = false) : ev_Snd X l ev_ms x_X2_isLastOf tx_X2_isLastOf 21 (i_gf X 7 2 24) := s_getfield hG (ci := 7) (r := (RX2, TX2, 7)) rfl cw_7 (k := 2) (Nat.le_of_ble_eq_true rfl) w_129 rfl (Or.inl rfl) dX2_isLastOf_21
theorem s_X2_isLastOf_24 {X : ev_E} {l : Launch} (hG : ev_Good X) (hl : l.stackTraces = false) : ev_Snd X l ev_ms x_X2_isLastOf tx_X2_isLastOf 24 (i_al 0 25) := s_aload_n dX2_isLastOf_24 rfl
theorem s_X2_isLastOf_25 {X : ev_E} {l : Launch} (hG : ev_Good X) (hl : l.stackTraces = false) : ev_Snd X l ev_ms x_X2_isLastOf tx_X2_isLastOf 25 (i_gf X 7 2 28) := s_getfield hG (ci := 7) (r := (RX2, TX2, 7)) rfl cw_7 (k := 2) (Nat.le_of_ble_eq_true rfl) w_129 rfl (Or.inl rfl) dX2_isLastOf_25
theorem s_X2_isLastOf_28 {X : ev_E} {l : Launch} (hG : ev_Good X) (hl : l.stackTraces = false) : ev_Snd X l ev_ms x_X2_isLastOf tx_X2_isLastOf 28 (i_ii (fun a b => a - b) 29) := s_isub dX2_isLastOf_28
theorem s_X2_isLastOf_29 {X : ev_E} {l : Launch} (hG : ev_Good X) (hl : l.stackTraces = false) : ev_Snd X l ev_ms x_X2_isLastOf tx_X2_isLastOf 29 (i_is 2 30) := s_istore_n dX2_isLastOf_29 rfl (Nat.le_of_ble_eq_true rfl)
theorem s_X2_isLastOf_30 {X : ev_E} {l : Launch} (hG : ev_Good X) (hl : l.stackTraces = false) : ev_Snd X l ev_ms x_X2_isLastOf tx_X2_isLastOf 30 (i_psh (.int (0)) 31) := s_iconst dX2_isLastOf_30 rfl
theorem s_X2_isLastOf_31 {X : ev_E} {l : Launch} (hG : ev_Good X) (hl : l.stackTraces = false) : ev_Snd X l ev_ms x_X2_isLastOf tx_X2_isLastOf 31 (i_is 3 32) := s_istore_n dX2_isLastOf_31 rfl (Nat.le_of_ble_eq_true rfl)
theorem s_X2_isLastOf_32 {X : ev_E} {l : Launch} (hG : ev_Good X) (hl : l.stackTraces = false) : ev_Snd X l ev_ms x_X2_isLastOf tx_X2_isLastOf 32 (i_il 3 33) := s_iload_n dX2_isLastOf_32 rfl
theorem s_X2_isLastOf_33 {X : ev_E} {l : Launch} (hG : ev_Good X) (hl : l.stackTraces = false) : ev_Snd X l ev_ms x_X2_isLastOf tx_X2_isLastOf 33 (i_al 0 34) := s_aload_n dX2_isLastOf_33 rfl
theorem s_X2_isLastOf_34 {X : ev_E} {l : Launch} (hG : ev_Good X) (hl : l.stackTraces = false) : ev_Snd X l ev_ms x_X2_isLastOf tx_X2_isLastOf 34 (i_gf X 7 2 37) := s_getfield hG (ci := 7) (r := (RX2, TX2, 7)) rfl cw_7 (k := 2) (Nat.le_of_ble_eq_true rfl) w_129 rfl (Or.inl rfl) dX2_isLastOf_34
theorem s_X2_isLastOf_37 {X : ev_E} {l : Launch} (hG : ev_Good X) (hl : l.stackTraces = false) : ev_Snd X l ev_ms x_X2_isLastOf tx_X2_isLastOf 37 (i_icge 65 40) := s_icge dX2_isLastOf_37 rfl
theorem s_X2_isLastOf_40 {X : ev_E} {l : Launch} (hG : ev_Good X) (hl : l.stackTraces = false) : ev_Snd X l ev_ms x_X2_isLastOf tx_X2_isLastOf 40 (i_al 0 41) := s_aload_n dX2_isLastOf_40 rfl
theorem s_X2_isLastOf_41 {X : ev_E} {l : Launch} (hG : ev_Good X) (hl : l.stackTraces = false) : ev_Snd X l ev_ms x_X2_isLastOf tx_X2_isLastOf 41 (i_gf X 7 0 44) := s_getfield hG (ci := 7) (r := (RX2, TX2, 7)) rfl cw_7 (k := 0) (Nat.le_of_ble_eq_true rfl) w_127 rfl (Or.inl rfl) dX2_isLastOf_41
theorem s_X2_isLastOf_44 {X : ev_E} {l : Launch} (hG : ev_Good X) (hl : l.stackTraces = false) : ev_Snd X l ev_ms x_X2_isLastOf tx_X2_isLastOf 44 (i_il 3 45) := s_iload_n dX2_isLastOf_44 rfl
theorem s_X2_isLastOf_45 {X : ev_E} {l : Launch} (hG : ev_Good X) (hl : l.stackTraces = false) : ev_Snd X l ev_ms x_X2_isLastOf tx_X2_isLastOf 45 (i_ald X ev_tI 46) := s_iaload hG dX2_isLastOf_45
theorem s_X2_isLastOf_46 {X : ev_E} {l : Launch} (hG : ev_Good X) (hl : l.stackTraces = false) : ev_Snd X l ev_ms x_X2_isLastOf tx_X2_isLastOf 46 (i_al 1 47) := s_aload_n dX2_isLastOf_46 rfl
theorem s_X2_isLastOf_47 {X : ev_E} {l : Launch} (hG : ev_Good X) (hl : l.stackTraces = false) : ev_Snd X l ev_ms x_X2_isLastOf tx_X2_isLastOf 47 (i_gf X 7 0 50) := s_getfield hG (ci := 7) (r := (RX2, TX2, 7)) rfl cw_7 (k := 0) (Nat.le_of_ble_eq_true rfl) w_127 rfl (Or.inl rfl) dX2_isLastOf_47
theorem s_X2_isLastOf_50 {X : ev_E} {l : Launch} (hG : ev_Good X) (hl : l.stackTraces = false) : ev_Snd X l ev_ms x_X2_isLastOf tx_X2_isLastOf 50 (i_il 2 51) := s_iload_n dX2_isLastOf_50 rfl
theorem s_X2_isLastOf_51 {X : ev_E} {l : Launch} (hG : ev_Good X) (hl : l.stackTraces = false) : ev_Snd X l ev_ms x_X2_isLastOf tx_X2_isLastOf 51 (i_il 3 52) := s_iload_n dX2_isLastOf_51 rfl
theorem s_X2_isLastOf_52 {X : ev_E} {l : Launch} (hG : ev_Good X) (hl : l.stackTraces = false) : ev_Snd X l ev_ms x_X2_isLastOf tx_X2_isLastOf 52 (i_ii (fun a b => a + b) 53) := s_iadd dX2_isLastOf_52
theorem s_X2_isLastOf_53 {X : ev_E} {l : Launch} (hG : ev_Good X) (hl : l.stackTraces = false) : ev_Snd X l ev_ms x_X2_isLastOf tx_X2_isLastOf 53 (i_ald X ev_tI 54) := s_iaload hG dX2_isLastOf_53
theorem s_X2_isLastOf_54 {X : ev_E} {l : Launch} (hG : ev_Good X) (hl : l.stackTraces = false) : ev_Snd X l ev_ms x_X2_isLastOf tx_X2_isLastOf 54 (i_iceq 59 57) := s_iceq dX2_isLastOf_54 rfl
theorem s_X2_isLastOf_57 {X : ev_E} {l : Launch} (hG : ev_Good X) (hl : l.stackTraces = false) : ev_Snd X l ev_ms x_X2_isLastOf tx_X2_isLastOf 57 (i_psh (.int (0)) 58) := s_iconst dX2_isLastOf_57 rfl
theorem s_X2_isLastOf_58 {X : ev_E} {l : Launch} (hG : ev_Good X) (hl : l.stackTraces = false) : ev_Snd X l ev_ms x_X2_isLastOf tx_X2_isLastOf 58 (i_ir (.boolean)) := s_ireturn rfl dX2_isLastOf_58
theorem s_X2_isLastOf_59 {X : ev_E} {l : Launch} (hG : ev_Good X) (hl : l.stackTraces = false) : ev_Snd X l ev_ms x_X2_isLastOf tx_X2_isLastOf 59 (i_inc 3 (1) 62) := s_iinc dX2_isLastOf_59 rfl (Nat.le_of_ble_eq_true rfl)
theorem s_X2_isLastOf_62 {X : ev_E} {l : Launch} (hG : ev_Good X) (hl : l.stackTraces = false) : ev_Snd X l ev_ms x_X2_isLastOf tx_X2_isLastOf 62 (i_goto 32) := s_goto dX2_isLastOf_62 rfl
theorem s_X2_isLastOf_65 {X : ev_E} {l : Launch} (hG : ev_Good X) (hl : l.stackTraces = false) : ev_Snd X l ev_ms x_X2_isLastOf tx_X2_isLastOf 65 (i_psh (.int (1)) 66) := s_iconst dX2_isLastOf_65 rfl
theorem s_X2_isLastOf_66 {X : ev_E} {l : Launch} (hG : ev_Good X) (hl : l.stackTraces = false) : ev_Snd X l ev_ms x_X2_isLastOf tx_X2_isLastOf 66 (i_ir (.boolean)) := s_ireturn rfl dX2_isLastOf_66
theorem sa_X2_isLastOf {X : ev_E} {l : Launch} (hG : ev_Good X) (hl : l.stackTraces = false) : ∀ q ∈ tb_X2_isLastOf X, ev_Snd X l ev_ms x_X2_isLastOf tx_X2_isLastOf q.1 q.2 := by
  intro q hq
  unfold tb_X2_isLastOf at hq
  simp only [List.mem_cons, List.not_mem_nil, or_false] at hq
  rcases hq with rfl | rfl | rfl | rfl | rfl | rfl | rfl | rfl | rfl | rfl | rfl | rfl | rfl | rfl | rfl | rfl | rfl | rfl | rfl | rfl | rfl | rfl | rfl | rfl | rfl | rfl | rfl | rfl | rfl | rfl | rfl | rfl | rfl | rfl | rfl | rfl | rfl | rfl | rfl
  · exact s_X2_isLastOf_0 hG hl
  · exact s_X2_isLastOf_1 hG hl
  · exact s_X2_isLastOf_4 hG hl
  · exact s_X2_isLastOf_5 hG hl
  · exact s_X2_isLastOf_8 hG hl
  · exact s_X2_isLastOf_9 hG hl
  · exact s_X2_isLastOf_12 hG hl
  · exact s_X2_isLastOf_15 hG hl
  · exact s_X2_isLastOf_18 hG hl
  · exact s_X2_isLastOf_19 hG hl
  · exact s_X2_isLastOf_20 hG hl
  · exact s_X2_isLastOf_21 hG hl
  · exact s_X2_isLastOf_24 hG hl
  · exact s_X2_isLastOf_25 hG hl
  · exact s_X2_isLastOf_28 hG hl
  · exact s_X2_isLastOf_29 hG hl
  · exact s_X2_isLastOf_30 hG hl
  · exact s_X2_isLastOf_31 hG hl
  · exact s_X2_isLastOf_32 hG hl
  · exact s_X2_isLastOf_33 hG hl
  · exact s_X2_isLastOf_34 hG hl
  · exact s_X2_isLastOf_37 hG hl
  · exact s_X2_isLastOf_40 hG hl
  · exact s_X2_isLastOf_41 hG hl
  · exact s_X2_isLastOf_44 hG hl
  · exact s_X2_isLastOf_45 hG hl
  · exact s_X2_isLastOf_46 hG hl
  · exact s_X2_isLastOf_47 hG hl
  · exact s_X2_isLastOf_50 hG hl
  · exact s_X2_isLastOf_51 hG hl
  · exact s_X2_isLastOf_52 hG hl
  · exact s_X2_isLastOf_53 hG hl
  · exact s_X2_isLastOf_54 hG hl
  · exact s_X2_isLastOf_57 hG hl
  · exact s_X2_isLastOf_58 hG hl
  · exact s_X2_isLastOf_59 hG hl
  · exact s_X2_isLastOf_62 hG hl
  · exact s_X2_isLastOf_65 hG hl
  · exact s_X2_isLastOf_66 hG hl
