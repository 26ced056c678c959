def tx_X5_takenAt : ev_X := fun _ _ => some none
noncomputable def tb_X5_takenAt (X : ev_E) : List (Nat × (ev_S → ev_N)) := [(0, i_al 0 1), (1, i_il 1 2), (2, i_cV X 109 1 10 2 5), (5, i_as 3 6), (6, i_il 2 7), (7, i_cS 48 1 1 10), (10, i_al 3 11), (11, i_gf X 6 0 14), (14, i_al 3 15), (15, i_gf X 6 0 18), (18, i_il 2 19), (19, i_cV X 36 1 7 3 22), (22, i_psh (.int (1)) 23), (23, i_cV X 96 2 7 3 26), (26, i_ir (.int))]
theorem s_X5_takenAt_0 {X : ev_E} {l : Launch} (hG : ev_Good X) (hl : l.stackTraces = false) : ev_Snd X l ev_ms x_X5_takenAt tx_X5_takenAt 0 (i_al 0 1) := s_aload_n dX5_takenAt_0 rfl
theorem s_X5_takenAt_1 {X : ev_E} {l : Launch} (hG : ev_Good X) (hl : l.stackTraces = false) : ev_Snd X l ev_ms x_X5_takenAt tx_X5_takenAt 1 (i_il 1 2) := s_iload_n dX5_takenAt_1 rfl
theorem s_X5_takenAt_2 {X : ev_E} {l : Launch} (hG : ev_Good X) (hl : l.stackTraces = false) : ev_Snd X l ev_ms x_X5_takenAt tx_X5_takenAt 2 (i_cV X 109 1 10 2 5) := s_invokevirtual hG (mi := 109) (n := 1) (ci := 10) (r := (RX5, TX5, 7)) rfl (cal_X5_keeperOf (Nat.le_of_ble_eq_true rfl)) w_776 w_778 w_13 dX5_takenAt_2
theorem s_X5_takenAt_5 {X : ev_E} {l : Launch} (hG : ev_Good X) (hl : l.stackTraces = false) : ev_Snd X l ev_ms x_X5_takenAt tx_X5_takenAt 5 (i_as 3 6) := s_astore_n dX5_takenAt_5 rfl (Nat.le_of_ble_eq_true rfl)
theorem s_X5_takenAt_6 {X : ev_E} {l : Launch} (hG : ev_Good X) (hl : l.stackTraces = false) : ev_Snd X l ev_ms x_X5_takenAt tx_X5_takenAt 6 (i_il 2 7) := s_iload_n dX5_takenAt_6 rfl
theorem s_X5_takenAt_7 {X : ev_E} {l : Launch} (hG : ev_Good X) (hl : l.stackTraces = false) : ev_Snd X l ev_ms x_X5_takenAt tx_X5_takenAt 7 (i_cS 48 1 1 10) := s_invokestatic hG (mi := 48) (n := 1) (cal_X5_demandKey (Nat.le_of_ble_eq_true rfl)) w_796 w_797 dX5_takenAt_7
theorem s_X5_takenAt_10 {X : ev_E} {l : Launch} (hG : ev_Good X) (hl : l.stackTraces = false) : ev_Snd X l ev_ms x_X5_takenAt tx_X5_takenAt 10 (i_al 3 11) := s_aload_n dX5_takenAt_10 rfl
theorem s_X5_takenAt_11 {X : ev_E} {l : Launch} (hG : ev_Good X) (hl : l.stackTraces = false) : ev_Snd X l ev_ms x_X5_takenAt tx_X5_takenAt 11 (i_gf X 6 0 14) := s_getfieldN hG (ci := 6) (r := (RX1, TX1, 3)) rfl cw_6 (k := 0) (Nat.le_of_ble_eq_true rfl) w_205 rfl dX5_takenAt_11
theorem s_X5_takenAt_14 {X : ev_E} {l : Launch} (hG : ev_Good X) (hl : l.stackTraces = false) : ev_Snd X l ev_ms x_X5_takenAt tx_X5_takenAt 14 (i_al 3 15) := s_aload_n dX5_takenAt_14 rfl
theorem s_X5_takenAt_15 {X : ev_E} {l : Launch} (hG : ev_Good X) (hl : l.stackTraces = false) : ev_Snd X l ev_ms x_X5_takenAt tx_X5_takenAt 15 (i_gf X 6 0 18) := s_getfieldN hG (ci := 6) (r := (RX1, TX1, 3)) rfl cw_6 (k := 0) (Nat.le_of_ble_eq_true rfl) w_205 rfl dX5_takenAt_15
theorem s_X5_takenAt_18 {X : ev_E} {l : Launch} (hG : ev_Good X) (hl : l.stackTraces = false) : ev_Snd X l ev_ms x_X5_takenAt tx_X5_takenAt 18 (i_il 2 19) := s_iload_n dX5_takenAt_18 rfl
theorem s_X5_takenAt_19 {X : ev_E} {l : Launch} (hG : ev_Good X) (hl : l.stackTraces = false) : ev_Snd X l ev_ms x_X5_takenAt tx_X5_takenAt 19 (i_cV X 36 1 7 3 22) := s_invokevirtual hG (mi := 36) (n := 1) (ci := 7) (r := (RX2, TX2, 7)) rfl (cal_X2_find (Nat.le_of_ble_eq_true rfl)) w_800 w_801 w_802 dX5_takenAt_19
theorem s_X5_takenAt_22 {X : ev_E} {l : Launch} (hG : ev_Good X) (hl : l.stackTraces = false) : ev_Snd X l ev_ms x_X5_takenAt tx_X5_takenAt 22 (i_psh (.int (1)) 23) := s_iconst dX5_takenAt_22 rfl
theorem s_X5_takenAt_23 {X : ev_E} {l : Launch} (hG : ev_Good X) (hl : l.stackTraces = false) : ev_Snd X l ev_ms x_X5_takenAt tx_X5_takenAt 23 (i_cV X 96 2 7 3 26) := s_invokevirtual hG (mi := 96) (n := 2) (ci := 7) (r := (RX2, TX2, 7)) rfl (cal_X2_told (Nat.le_of_ble_eq_true rfl)) w_737 w_738 w_739 dX5_takenAt_23
theorem s_X5_takenAt_26 {X : ev_E} {l : Launch} (hG : ev_Good X) (hl : l.stackTraces = false) : ev_Snd X l ev_ms x_X5_takenAt tx_X5_takenAt 26 (i_ir (.int)) := s_ireturn rfl dX5_takenAt_26
theorem sa_X5_takenAt {X : ev_E} {l : Launch} (hG : ev_Good X) (hl : l.stackTraces = false) : ∀ q ∈ tb_X5_takenAt X, ev_Snd X l ev_ms x_X5_takenAt tx_X5_takenAt q.1 q.2 := by
  intro q hq
  unfold tb_X5_takenAt at hq
  simp only [List.mem_cons, List.not_mem_nil, or_false] at hq
  rcases hq with rfl | rfl | rfl | rfl | rfl | rfl | rfl | rfl | rfl | rfl | rfl | rfl | rfl | rfl | rfl
  · exact s_X5_takenAt_0 hG hl
  · exact s_X5_takenAt_1 hG hl
  · exact s_X5_takenAt_2 hG hl
  · exact s_X5_takenAt_5 hG hl
  · exact s_X5_takenAt_6 hG hl
  · exact s_X5_takenAt_7 hG hl
  · exact s_X5_takenAt_10 hG hl
  · exact s_X5_takenAt_11 hG hl
  · exact s_X5_takenAt_14 hG hl
  · exact s_X5_takenAt_15 hG hl
  · exact s_X5_takenAt_18 hG hl
  · exact s_X5_takenAt_19 hG hl
  · exact s_X5_takenAt_22 hG hl
  · exact s_X5_takenAt_23 hG hl
  · exact s_X5_takenAt_26 hG hl
def tx_X5_valueAt : ev_X := fun _ _ => some none
noncomputable def tb_X5_valueAt (X : ev_E) : List (Nat × (ev_S → ev_N)) := [(0, i_al 0 1), (1, i_il 1 2), (2, i_cV X 59 1 10 2 5), (5, i_gf X 8 0 8), (8, i_il 2 9), (9, i_psh (.int (1)) 10), (10, i_cV X 96 2 7 3 13), (13, i_ir (.int))]
theorem s_X5_valueAt_0 {X : ev_E} {l : Launch} (hG : ev_Good X) (hl : l.stackTraces = false) : ev_Snd X l ev_ms x_X5_valueAt tx_X5_valueAt 0 (i_al 0 1) := s_aload_n dX5_valueAt_0 rfl
theorem s_X5_valueAt_1 {X : ev_E} {l : Launch} (hG : ev_Good X) (hl : l.stackTraces = false) : ev_Snd X l ev_ms x_X5_valueAt tx_X5_valueAt 1 (i_il 1 2) := s_iload_n dX5_valueAt_1 rfl
theorem s_X5_valueAt_2 {X : ev_E} {l : Launch} (hG : ev_Good X) (hl : l.stackTraces = false) : ev_Snd X l ev_ms x_X5_valueAt tx_X5_valueAt 2 (i_cV X 59 1 10 2 5) := s_invokevirtual hG (mi := 59) (n := 1) (ci := 10) (r := (RX5, TX5, 7)) rfl (cal_X5_tableOf (Nat.le_of_ble_eq_true rfl)) w_705 w_707 w_11 dX5_valueAt_2
theorem s_X5_valueAt_5 {X : ev_E} {l : Launch} (hG : ev_Good X) (hl : l.stackTraces = false) : ev_Snd X l ev_ms x_X5_valueAt tx_X5_valueAt 5 (i_gf X 8 0 8) := s_getfieldN hG (ci := 8) (r := (RX3, TX3, 2)) rfl cw_8 (k := 0) (Nat.le_of_ble_eq_true rfl) w_189 rfl dX5_valueAt_5
theorem s_X5_valueAt_8 {X : ev_E} {l : Launch} (hG : ev_Good X) (hl : l.stackTraces = false) : ev_Snd X l ev_ms x_X5_valueAt tx_X5_valueAt 8 (i_il 2 9) := s_iload_n dX5_valueAt_8 rfl
theorem s_X5_valueAt_9 {X : ev_E} {l : Launch} (hG : ev_Good X) (hl : l.stackTraces = false) : ev_Snd X l ev_ms x_X5_valueAt tx_X5_valueAt 9 (i_psh (.int (1)) 10) := s_iconst dX5_valueAt_9 rfl
theorem s_X5_valueAt_10 {X : ev_E} {l : Launch} (hG : ev_Good X) (hl : l.stackTraces = false) : ev_Snd X l ev_ms x_X5_valueAt tx_X5_valueAt 10 (i_cV X 96 2 7 3 13) := s_invokevirtual hG (mi := 96) (n := 2) (ci := 7) (r := (RX2, TX2, 7)) rfl (cal_X2_told (Nat.le_of_ble_eq_true rfl)) w_737 w_738 w_739 dX5_valueAt_10
theorem s_X5_valueAt_13 {X : ev_E} {l : Launch} (hG : ev_Good X) (hl : l.stackTraces = false) : ev_Snd X l ev_ms x_X5_valueAt tx_X5_valueAt 13 (i_ir (.int)) := s_ireturn rfl dX5_valueAt_13
theorem sa_X5_valueAt {X : ev_E} {l : Launch} (hG : ev_Good X) (hl : l.stackTraces = false) : ∀ q ∈ tb_X5_valueAt X, ev_Snd X l ev_ms x_X5_valueAt tx_X5_valueAt q.1 q.2 := by
  intro q hq
  unfold tb_X5_valueAt at hq
  simp only [List.mem_cons, List.not_mem_nil, or_false] at hq
  rcases hq with rfl | rfl | rfl | rfl | rfl | rfl | rfl | rfl
  · exact s_X5_valueAt_0 hG hl
  · exact s_X5_valueAt_1 hG hl
  · exact s_X5_valueAt_2 hG hl
  · exact s_X5_valueAt_5 hG hl
  · exact s_X5_valueAt_8 hG hl
  · exact s_X5_valueAt_9 hG hl
  · exact s_X5_valueAt_10 hG hl
  · exact s_X5_valueAt_13 hG hl
def tx_X2_bring : ev_X := fun _ _ => some none
noncomputable def tb_X2_bring (X : ev_E) : List (Nat × (ev_S → ev_N)) := [(0, i_al 0 1), (1, i_il 1 2), (2, i_cV X 36 1 7 3 5), (5, i_is 3 6), (6, i_il 3 7), (7, i_psh (.int (-1)) 8), (8, i_icne 19 11), (11, i_al 0 12), (12, i_il 1 13), (13, i_il 2 14), (14, i_cV X 144 2 7 3 17), (17, i_psh (.int (-1)) 18), (18, i_ir (.int)), (19, i_al 0 20), (20, i_il 3 21), (21, i_il 2 22), (22, i_cV X 92 2 7 4 25), (25, i_is 4 27), (27, i_al 0 28), (28, i_il 3 29), (29, i_cV X 143 1 7 4 32), (32, i_il 4 34), (34, i_ir (.int))]
theorem s_X2_bring_0 {X : ev_E} {l : Launch} (hG : ev_Good X) (hl : l.stackTraces = false) : ev_Snd X l ev_ms x_X2_bring tx_X2_bring 0 (i_al 0 1) := s_aload_n dX2_bring_0 rfl
theorem s_X2_bring_1 {X : ev_E} {l : Launch} (hG : ev_Good X) (hl : l.stackTraces = false) : ev_Snd X l ev_ms x_X2_bring tx_X2_bring 1 (i_il 1 2) := s_iload_n dX2_bring_1 rfl
theorem s_X2_bring_2 {X : ev_E} {l : Launch} (hG : ev_Good X) (hl : l.stackTraces = false) : ev_Snd X l ev_ms x_X2_bring tx_X2_bring 2 (i_cV X 36 1 7 3 5) := s_invokevirtual hG (mi := 36) (n := 1) (ci := 7) (r := (RX2, TX2, 7)) rfl (cal_X2_find (Nat.le_of_ble_eq_true rfl)) w_847 w_801 w_802 dX2_bring_2
theorem s_X2_bring_5 {X : ev_E} {l : Launch} (hG : ev_Good X) (hl : l.stackTraces = false) : ev_Snd X l ev_ms x_X2_bring tx_X2_bring 5 (i_is 3 6) := s_istore_n dX2_bring_5 rfl (Nat.le_of_ble_eq_true rfl)
theorem s_X2_bring_6 {X : ev_E} {l : Launch} (hG : ev_Good X) (hl : l.stackTraces = false) : ev_Snd X l ev_ms x_X2_bring tx_X2_bring 6 (i_il 3 7) := s_iload_n dX2_bring_6 rfl
theorem s_X2_bring_7 {X : ev_E} {l : Launch} (hG : ev_Good X) (hl : l.stackTraces = false) : ev_Snd X l ev_ms x_X2_bring tx_X2_bring 7 (i_psh (.int (-1)) 8) := s_iconst dX2_bring_7 rfl
theorem s_X2_bring_8 {X : ev_E} {l : Launch} (hG : ev_Good X) (hl : l.stackTraces = false) : ev_Snd X l ev_ms x_X2_bring tx_X2_bring 8 (i_icne 19 11) := s_icne dX2_bring_8 rfl
theorem s_X2_bring_11 {X : ev_E} {l : Launch} (hG : ev_Good X) (hl : l.stackTraces = false) : ev_Snd X l ev_ms x_X2_bring tx_X2_bring 11 (i_al 0 12) := s_aload_n dX2_bring_11 rfl
theorem s_X2_bring_12 {X : ev_E} {l : Launch} (hG : ev_Good X) (hl : l.stackTraces = false) : ev_Snd X l ev_ms x_X2_bring tx_X2_bring 12 (i_il 1 13) := s_iload_n dX2_bring_12 rfl
theorem s_X2_bring_13 {X : ev_E} {l : Launch} (hG : ev_Good X) (hl : l.stackTraces = false) : ev_Snd X l ev_ms x_X2_bring tx_X2_bring 13 (i_il 2 14) := s_iload_n dX2_bring_13 rfl
theorem s_X2_bring_14 {X : ev_E} {l : Launch} (hG : ev_Good X) (hl : l.stackTraces = false) : ev_Snd X l ev_ms x_X2_bring tx_X2_bring 14 (i_cV X 144 2 7 3 17) := s_invokevirtual hG (mi := 144) (n := 2) (ci := 7) (r := (RX2, TX2, 7)) rfl (cal_X2_takeIn (Nat.le_of_ble_eq_true rfl)) w_848 w_850 w_14 dX2_bring_14
theorem s_X2_bring_17 {X : ev_E} {l : Launch} (hG : ev_Good X) (hl : l.stackTraces = false) : ev_Snd X l ev_ms x_X2_bring tx_X2_bring 17 (i_psh (.int (-1)) 18) := s_iconst dX2_bring_17 rfl
theorem s_X2_bring_18 {X : ev_E} {l : Launch} (hG : ev_Good X) (hl : l.stackTraces = false) : ev_Snd X l ev_ms x_X2_bring tx_X2_bring 18 (i_ir (.int)) := s_ireturn rfl dX2_bring_18
theorem s_X2_bring_19 {X : ev_E} {l : Launch} (hG : ev_Good X) (hl : l.stackTraces = false) : ev_Snd X l ev_ms x_X2_bring tx_X2_bring 19 (i_al 0 20) := s_aload_n dX2_bring_19 rfl
theorem s_X2_bring_20 {X : ev_E} {l : Launch} (hG : ev_Good X) (hl : l.stackTraces = false) : ev_Snd X l ev_ms x_X2_bring tx_X2_bring 20 (i_il 3 21) := s_iload_n dX2_bring_20 rfl
theorem s_X2_bring_21 {X : ev_E} {l : Launch} (hG : ev_Good X) (hl : l.stackTraces = false) : ev_Snd X l ev_ms x_X2_bring tx_X2_bring 21 (i_il 2 22) := s_iload_n dX2_bring_21 rfl
theorem s_X2_bring_22 {X : ev_E} {l : Launch} (hG : ev_Good X) (hl : l.stackTraces = false) : ev_Snd X l ev_ms x_X2_bring tx_X2_bring 22 (i_cV X 92 2 7 4 25) := s_invokevirtual hG (mi := 92) (n := 2) (ci := 7) (r := (RX2, TX2, 7)) rfl (cal_X2_changeValue (Nat.le_of_ble_eq_true rfl)) w_861 w_862 w_863 dX2_bring_22
theorem s_X2_bring_25 {X : ev_E} {l : Launch} (hG : ev_Good X) (hl : l.stackTraces = false) : ev_Snd X l ev_ms x_X2_bring tx_X2_bring 25 (i_is 4 27) := s_istore dX2_bring_25 (Nat.le_of_ble_eq_true rfl)
theorem s_X2_bring_27 {X : ev_E} {l : Launch} (hG : ev_Good X) (hl : l.stackTraces = false) : ev_Snd X l ev_ms x_X2_bring tx_X2_bring 27 (i_al 0 28) := s_aload_n dX2_bring_27 rfl
theorem s_X2_bring_28 {X : ev_E} {l : Launch} (hG : ev_Good X) (hl : l.stackTraces = false) : ev_Snd X l ev_ms x_X2_bring tx_X2_bring 28 (i_il 3 29) := s_iload_n dX2_bring_28 rfl
theorem s_X2_bring_29 {X : ev_E} {l : Launch} (hG : ev_Good X) (hl : l.stackTraces = false) : ev_Snd X l ev_ms x_X2_bring tx_X2_bring 29 (i_cV X 143 1 7 4 32) := s_invokevirtual hG (mi := 143) (n := 1) (ci := 7) (r := (RX2, TX2, 7)) rfl (cal_X2_noteAsking (Nat.le_of_ble_eq_true rfl)) w_865 w_867 w_16 dX2_bring_29
theorem s_X2_bring_32 {X : ev_E} {l : Launch} (hG : ev_Good X) (hl : l.stackTraces = false) : ev_Snd X l ev_ms x_X2_bring tx_X2_bring 32 (i_il 4 34) := s_iload dX2_bring_32
theorem s_X2_bring_34 {X : ev_E} {l : Launch} (hG : ev_Good X) (hl : l.stackTraces = false) : ev_Snd X l ev_ms x_X2_bring tx_X2_bring 34 (i_ir (.int)) := s_ireturn rfl dX2_bring_34
theorem sa_X2_bring {X : ev_E} {l : Launch} (hG : ev_Good X) (hl : l.stackTraces = false) : ∀ q ∈ tb_X2_bring X, ev_Snd X l ev_ms x_X2_bring tx_X2_bring q.1 q.2 := by
  intro q hq
  unfold tb_X2_bring at hq
  simp only [List.mem_cons, List.not_mem_nil, or_false] at hq
  rcases hq with rfl | rfl | rfl | rfl | rfl | rfl | rfl | rfl | rfl | rfl | rfl | rfl | rfl | rfl | rfl | rfl | rfl | rfl | rfl | rfl | rfl | rfl | rfl
  · exact s_X2_bring_0 hG hl
  · exact s_X2_bring_1 hG hl
  · exact s_X2_bring_2 hG hl
  · exact s_X2_bring_5 hG hl
  · exact s_X2_bring_6 hG hl
  · exact s_X2_bring_7 hG hl
  · exact s_X2_bring_8 hG hl
  · exact s_X2_bring_11 hG hl
  · exact s_X2_bring_12 hG hl
  · exact s_X2_bring_13 hG hl
  · exact s_X2_bring_14 hG hl
  · exact s_X2_bring_17 hG hl
  · exact s_X2_bring_18 hG hl
  · exact s_X2_bring_19 hG hl
  · exact s_X2_bring_20 hG hl
  · exact s_X2_bring_21 hG hl
  · exact s_X2_bring_22 hG hl
  · exact s_X2_bring_25 hG hl
  · exact s_X2_bring_27 hG hl
  · exact s_X2_bring_28 hG hl
  · exact s_X2_bring_29 hG hl
  · exact s_X2_bring_32 hG hl
  · exact s_X2_bring_34 hG hl
def tx_X2_fetch : ev_X := fun _ _ => some none
noncomputable def tb_X2_fetch (X : ev_E) : List (Nat × (ev_S → ev_N)) := [(0, i_al 0 1), (1, i_il 1 2), (2, i_cV X 36 1 7 3 5), (5, i_is 3 6), (6, i_il 3 7), (7, i_psh (.int (-1)) 8), (8, i_icne 13 11), (11, i_il 2 12), (12, i_ir (.int)), (13, i_al 0 14), (14, i_gf X 7 1 17), (17, i_il 3 18), (18, i_ald X ev_tI 19), (19, i_is 4 21), (21, i_al 0 22), (22, i_il 3 23), (23, i_cV X 143 1 7 4 26), (26, i_il 4 28), (28, i_ir (.int))]
theorem s_X2_fetch_0 {X : ev_E} {l : Launch} (hG : ev_Good X) (hl : l.stackTraces = false) : ev_Snd X l ev_ms x_X2_fetch tx_X2_fetch 0 (i_al 0 1) := s_aload_n dX2_fetch_0 rfl
theorem s_X2_fetch_1 {X : ev_E} {l : Launch} (hG : ev_Good X) (hl : l.stackTraces = false) : ev_Snd X l ev_ms x_X2_fetch tx_X2_fetch 1 (i_il 1 2) := s_iload_n dX2_fetch_1 rfl
theorem s_X2_fetch_2 {X : ev_E} {l : Launch} (hG : ev_Good X) (hl : l.stackTraces = false) : ev_Snd X l ev_ms x_X2_fetch tx_X2_fetch 2 (i_cV X 36 1 7 3 5) := s_invokevirtual hG (mi := 36) (n := 1) (ci := 7) (r := (RX2, TX2, 7)) rfl (cal_X2_find (Nat.le_of_ble_eq_true rfl)) w_847 w_801 w_802 dX2_fetch_2
theorem s_X2_fetch_5 {X : ev_E} {l : Launch} (hG : ev_Good X) (hl : l.stackTraces = false) : ev_Snd X l ev_ms x_X2_fetch tx_X2_fetch 5 (i_is 3 6) := s_istore_n dX2_fetch_5 rfl (Nat.le_of_ble_eq_true rfl)
theorem s_X2_fetch_6 {X : ev_E} {l : Launch} (hG : ev_Good X) (hl : l.stackTraces = false) : ev_Snd X l ev_ms x_X2_fetch tx_X2_fetch 6 (i_il 3 7) := s_iload_n dX2_fetch_6 rfl
theorem s_X2_fetch_7 {X : ev_E} {l : Launch} (hG : ev_Good X) (hl : l.stackTraces = false) : ev_Snd X l ev_ms x_X2_fetch tx_X2_fetch 7 (i_psh (.int (-1)) 8) := s_iconst dX2_fetch_7 rfl
theorem s_X2_fetch_8 {X : ev_E} {l : Launch} (hG : ev_Good X) (hl : l.stackTraces = false) : ev_Snd X l ev_ms x_X2_fetch tx_X2_fetch 8 (i_icne 13 11) := s_icne dX2_fetch_8 rfl
theorem s_X2_fetch_11 {X : ev_E} {l : Launch} (hG : ev_Good X) (hl : l.stackTraces = false) : ev_Snd X l ev_ms x_X2_fetch tx_X2_fetch 11 (i_il 2 12) := s_iload_n dX2_fetch_11 rfl
theorem s_X2_fetch_12 {X : ev_E} {l : Launch} (hG : ev_Good X) (hl : l.stackTraces = false) : ev_Snd X l ev_ms x_X2_fetch tx_X2_fetch 12 (i_ir (.int)) := s_ireturn rfl dX2_fetch_12
theorem s_X2_fetch_13 {X : ev_E} {l : Launch} (hG : ev_Good X) (hl : l.stackTraces = false) : ev_Snd X l ev_ms x_X2_fetch tx_X2_fetch 13 (i_al 0 14) := s_aload_n dX2_fetch_13 rfl
theorem s_X2_fetch_14 {X : ev_E} {l : Launch} (hG : ev_Good X) (hl : l.stackTraces = false) : ev_Snd X l ev_ms x_X2_fetch tx_X2_fetch 14 (i_gf X 7 1 17) := s_getfield hG (ci := 7) (r := (RX2, TX2, 7)) rfl cw_7 (k := 1) (Nat.le_of_ble_eq_true rfl) w_128 rfl (Or.inl rfl) dX2_fetch_14
theorem s_X2_fetch_17 {X : ev_E} {l : Launch} (hG : ev_Good X) (hl : l.stackTraces = false) : ev_Snd X l ev_ms x_X2_fetch tx_X2_fetch 17 (i_il 3 18) := s_iload_n dX2_fetch_17 rfl
theorem s_X2_fetch_18 {X : ev_E} {l : Launch} (hG : ev_Good X) (hl : l.stackTraces = false) : ev_Snd X l ev_ms x_X2_fetch tx_X2_fetch 18 (i_ald X ev_tI 19) := s_iaload hG dX2_fetch_18
theorem s_X2_fetch_19 {X : ev_E} {l : Launch} (hG : ev_Good X) (hl : l.stackTraces = false) : ev_Snd X l ev_ms x_X2_fetch tx_X2_fetch 19 (i_is 4 21) := s_istore dX2_fetch_19 (Nat.le_of_ble_eq_true rfl)
theorem s_X2_fetch_21 {X : ev_E} {l : Launch} (hG : ev_Good X) (hl : l.stackTraces = false) : ev_Snd X l ev_ms x_X2_fetch tx_X2_fetch 21 (i_al 0 22) := s_aload_n dX2_fetch_21 rfl
theorem s_X2_fetch_22 {X : ev_E} {l : Launch} (hG : ev_Good X) (hl : l.stackTraces = false) : ev_Snd X l ev_ms x_X2_fetch tx_X2_fetch 22 (i_il 3 23) := s_iload_n dX2_fetch_22 rfl
theorem s_X2_fetch_23 {X : ev_E} {l : Launch} (hG : ev_Good X) (hl : l.stackTraces = false) : ev_Snd X l ev_ms x_X2_fetch tx_X2_fetch 23 (i_cV X 143 1 7 4 26) := s_invokevirtual hG (mi := 143) (n := 1) (ci := 7) (r := (RX2, TX2, 7)) rfl (cal_X2_noteAsking (Nat.le_of_ble_eq_true rfl)) w_865 w_867 w_16 dX2_fetch_23
theorem s_X2_fetch_26 {X : ev_E} {l : Launch} (hG : ev_Good X) (hl : l.stackTraces = false) : ev_Snd X l ev_ms x_X2_fetch tx_X2_fetch 26 (i_il 4 28) := s_iload dX2_fetch_26
theorem s_X2_fetch_28 {X : ev_E} {l : Launch} (hG : ev_Good X) (hl : l.stackTraces = false) : ev_Snd X l ev_ms x_X2_fetch tx_X2_fetch 28 (i_ir (.int)) := s_ireturn rfl dX2_fetch_28
theorem sa_X2_fetch {X : ev_E} {l : Launch} (hG : ev_Good X) (hl : l.stackTraces = false) : ∀ q ∈ tb_X2_fetch X, ev_Snd X l ev_ms x_X2_fetch tx_X2_fetch q.1 q.2 := by
  intro q hq
  unfold tb_X2_fetch at hq
  simp only [List.mem_cons, List.not_mem_nil, or_false] at hq
  rcases hq with rfl | rfl | rfl | rfl | rfl | rfl | rfl | rfl | rfl | rfl | rfl | rfl | rfl | rfl | rfl | rfl | rfl | rfl | rfl
  · exact s_X2_fetch_0 hG hl
  · exact s_X2_fetch_1 hG hl
  · exact s_X2_fetch_2 hG hl
  · exact s_X2_fetch_5 hG hl
  · exact s_X2_fetch_6 hG hl
  · exact s_X2_fetch_7 hG hl
  · exact s_X2_fetch_8 hG hl
  · exact s_X2_fetch_11 hG hl
  · exact s_X2_fetch_12 hG hl
  · exact s_X2_fetch_13 hG hl
  · exact s_X2_fetch_14 hG hl
  · exact s_X2_fetch_17 hG hl
  · exact s_X2_fetch_18 hG hl
  · exact s_X2_fetch_19 hG hl
  · exact s_X2_fetch_21 hG hl
  · exact s_X2_fetch_22 hG hl
  · exact s_X2_fetch_23 hG hl
  · exact s_X2_fetch_26 hG hl
  · exact s_X2_fetch_28 hG hl
def tx_X2_fetchOrTakeIn : ev_X := fun _ _ => some none
noncomputable def tb_X2_fetchOrTakeIn (X : ev_E) : List (Nat × (ev_S → ev_N)) := [(0, i_al 0 1), (1, i_il 1 2), (2, i_cV X 36 1 7 3 5), (5, i_is 3 6), (6, i_il 3 7), (7, i_psh (.int (-1)) 8), (8, i_icne 19 11), (11, i_al 0 12), (12, i_il 1 13), (13, i_il 2 14), (14, i_cV X 144 2 7 3 17), (17, i_psh (.int (0)) 18), (18, i_ir (.boolean)), (19, i_al 0 20), (20, i_il 3 21), (21, i_cV X 143 1 7 4 24), (24, i_psh (.int (1)) 25), (25, i_ir (.boolean))]
theorem s_X2_fetchOrTakeIn_0 {X : ev_E} {l : Launch} (hG : ev_Good X) (hl : l.stackTraces = false) : ev_Snd X l ev_ms x_X2_fetchOrTakeIn tx_X2_fetchOrTakeIn 0 (i_al 0 1) := s_aload_n dX2_fetchOrTakeIn_0 rfl
theorem s_X2_fetchOrTakeIn_1 {X : ev_E} {l : Launch} (hG : ev_Good X) (hl : l.stackTraces = false) : ev_Snd X l ev_ms x_X2_fetchOrTakeIn tx_X2_fetchOrTakeIn 1 (i_il 1 2) := s_iload_n dX2_fetchOrTakeIn_1 rfl
theorem s_X2_fetchOrTakeIn_2 {X : ev_E} {l : Launch} (hG : ev_Good X) (hl : l.stackTraces = false) : ev_Snd X l ev_ms x_X2_fetchOrTakeIn tx_X2_fetchOrTakeIn 2 (i_cV X 36 1 7 3 5) := s_invokevirtual hG (mi := 36) (n := 1) (ci := 7) (r := (RX2, TX2, 7)) rfl (cal_X2_find (Nat.le_of_ble_eq_true rfl)) w_847 w_801 w_802 dX2_fetchOrTakeIn_2
theorem s_X2_fetchOrTakeIn_5 {X : ev_E} {l : Launch} (hG : ev_Good X) (hl : l.stackTraces = false) : ev_Snd X l ev_ms x_X2_fetchOrTakeIn tx_X2_fetchOrTakeIn 5 (i_is 3 6) := s_istore_n dX2_fetchOrTakeIn_5 rfl (Nat.le_of_ble_eq_true rfl)
theorem s_X2_fetchOrTakeIn_6 {X : ev_E} {l : Launch} (hG : ev_Good X) (hl : l.stackTraces = false) : ev_Snd X l ev_ms x_X2_fetchOrTakeIn tx_X2_fetchOrTakeIn 6 (i_il 3 7) := s_iload_n dX2_fetchOrTakeIn_6 rfl
theorem s_X2_fetchOrTakeIn_7 {X : ev_E} {l : Launch} (hG : ev_Good X) (hl : l.stackTraces = false) : ev_Snd X l ev_ms x_X2_fetchOrTakeIn tx_X2_fetchOrTakeIn 7 (i_psh (.int (-1)) 8) := s_iconst dX2_fetchOrTakeIn_7 rfl
theorem s_X2_fetchOrTakeIn_8 {X : ev_E} {l : Launch} (hG : ev_Good X) (hl : l.stackTraces = false) : ev_Snd X l ev_ms x_X2_fetchOrTakeIn tx_X2_fetchOrTakeIn 8 (i_icne 19 11) := s_icne dX2_fetchOrTakeIn_8 rfl
theorem s_X2_fetchOrTakeIn_11 {X : ev_E} {l : Launch} (hG : ev_Good X) (hl : l.stackTraces = false) : ev_Snd X l ev_ms x_X2_fetchOrTakeIn tx_X2_fetchOrTakeIn 11 (i_al 0 12) := s_aload_n dX2_fetchOrTakeIn_11 rfl
theorem s_X2_fetchOrTakeIn_12 {X : ev_E} {l : Launch} (hG : ev_Good X) (hl : l.stackTraces = false) : ev_Snd X l ev_ms x_X2_fetchOrTakeIn tx_X2_fetchOrTakeIn 12 (i_il 1 13) := s_iload_n dX2_fetchOrTakeIn_12 rfl
theorem s_X2_fetchOrTakeIn_13 {X : ev_E} {l : Launch} (hG : ev_Good X) (hl : l.stackTraces = false) : ev_Snd X l ev_ms x_X2_fetchOrTakeIn tx_X2_fetchOrTakeIn 13 (i_il 2 14) := s_iload_n dX2_fetchOrTakeIn_13 rfl
theorem s_X2_fetchOrTakeIn_14 {X : ev_E} {l : Launch} (hG : ev_Good X) (hl : l.stackTraces = false) : ev_Snd X l ev_ms x_X2_fetchOrTakeIn tx_X2_fetchOrTakeIn 14 (i_cV X 144 2 7 3 17) := s_invokevirtual hG (mi := 144) (n := 2) (ci := 7) (r := (RX2, TX2, 7)) rfl (cal_X2_takeIn (Nat.le_of_ble_eq_true rfl)) w_848 w_850 w_14 dX2_fetchOrTakeIn_14
theorem s_X2_fetchOrTakeIn_17 {X : ev_E} {l : Launch} (hG : ev_Good X) (hl : l.stackTraces = false) : ev_Snd X l ev_ms x_X2_fetchOrTakeIn tx_X2_fetchOrTakeIn 17 (i_psh (.int (0)) 18) := s_iconst dX2_fetchOrTakeIn_17 rfl
theorem s_X2_fetchOrTakeIn_18 {X : ev_E} {l : Launch} (hG : ev_Good X) (hl : l.stackTraces = false) : ev_Snd X l ev_ms x_X2_fetchOrTakeIn tx_X2_fetchOrTakeIn 18 (i_ir (.boolean)) := s_ireturn rfl dX2_fetchOrTakeIn_18
theorem s_X2_fetchOrTakeIn_19 {X : ev_E} {l : Launch} (hG : ev_Good X) (hl : l.stackTraces = false) : ev_Snd X l ev_ms x_X2_fetchOrTakeIn tx_X2_fetchOrTakeIn 19 (i_al 0 20) := s_aload_n dX2_fetchOrTakeIn_19 rfl
theorem s_X2_fetchOrTakeIn_20 {X : ev_E} {l : Launch} (hG : ev_Good X) (hl : l.stackTraces = false) : ev_Snd X l ev_ms x_X2_fetchOrTakeIn tx_X2_fetchOrTakeIn 20 (i_il 3 21) := s_iload_n dX2_fetchOrTakeIn_20 rfl
theorem s_X2_fetchOrTakeIn_21 {X : ev_E} {l : Launch} (hG : ev_Good X) (hl : l.stackTraces = false) : ev_Snd X l ev_ms x_X2_fetchOrTakeIn tx_X2_fetchOrTakeIn 21 (i_cV X 143 1 7 4 24) := s_invokevirtual hG (mi := 143) (n := 1) (ci := 7) (r := (RX2, TX2, 7)) rfl (cal_X2_noteAsking (Nat.le_of_ble_eq_true rfl)) w_865 w_867 w_16 dX2_fetchOrTakeIn_21
theorem s_X2_fetchOrTakeIn_24 {X : ev_E} {l : Launch} (hG : ev_Good X) (hl : l.stackTraces = false) : ev_Snd X l ev_ms x_X2_fetchOrTakeIn tx_X2_fetchOrTakeIn 24 (i_psh (.int (1)) 25) := s_iconst dX2_fetchOrTakeIn_24 rfl
theorem s_X2_fetchOrTakeIn_25 {X : ev_E} {l : Launch} (hG : ev_Good X) (hl : l.stackTraces = false) : ev_Snd X l ev_ms x_X2_fetchOrTakeIn tx_X2_fetchOrTakeIn 25 (i_ir (.boolean)) := s_ireturn rfl dX2_fetchOrTakeIn_25
theorem sa_X2_fetchOrTakeIn {X : ev_E} {l : Launch} (hG : ev_Good X) (hl : l.stackTraces = false) : ∀ q ∈ tb_X2_fetchOrTakeIn X, ev_Snd X l ev_ms x_X2_fetchOrTakeIn tx_X2_fetchOrTakeIn q.1 q.2 := by
  intro q hq
  unfold tb_X2_fetchOrTakeIn at hq
  simp only [List.mem_cons, List.not_mem_nil, or_false] at hq
  rcases hq with rfl | rfl | rfl | rfl | rfl | rfl | rfl | rfl | rfl | rfl | rfl | rfl | rfl | rfl | rfl | rfl | rfl | rfl
  · exact s_X2_fetchOrTakeIn_0 hG hl
  · exact s_X2_fetchOrTakeIn_1 hG hl
  · exact s_X2_fetchOrTakeIn_2 hG hl
  · exact s_X2_fetchOrTakeIn_5 hG hl
  · exact s_X2_fetchOrTakeIn_6 hG hl
  · exact s_X2_fetchOrTakeIn_7 hG hl
  · exact s_X2_fetchOrTakeIn_8 hG hl
  · exact s_X2_fetchOrTakeIn_11 hG hl
  · exact s_X2_fetchOrTakeIn_12 hG hl
  · exact s_X2_fetchOrTakeIn_13 hG hl
  · exact s_X2_fetchOrTakeIn_14 hG hl
  · exact s_X2_fetchOrTakeIn_17 hG hl
  · exact s_X2_fetchOrTakeIn_18 hG hl
  · exact s_X2_fetchOrTakeIn_19 hG hl
  · exact s_X2_fetchOrTakeIn_20 hG hl
  · exact s_X2_fetchOrTakeIn_21 hG hl
  · exact s_X2_fetchOrTakeIn_24 hG hl
  · exact s_X2_fetchOrTakeIn_25 hG hl
def tx_X4_advanceToEnd : ev_X := fun _ _ => some none
noncomputable def tb_X4_advanceToEnd (X : ev_E) : List (Nat × (ev_S → ev_N)) := [(0, i_al 0 1), (1, i_gf X 9 0 4), (4, i_gf X 7 2 7), (7, i_al 0 8), (8, i_gf X 9 5 11), (11, i_ii (fun a b => a - b) 12), (12, i_is 1 13), (13, i_psh (.int (0)) 14), (14, i_is 2 15), (15, i_psh (.int (0)) 16), (16, i_is 3 17), (17, i_il 3 18), (18, i_il 1 19), (19, i_icge 35 22), (22, i_il 2 23), (23, i_al 0 24), (24, i_cV X 145 0 9 2 27), (27, i_ii (fun a b => a + b) 28), (28, i_is 2 29), (29, i_inc 3 (1) 32), (32, i_goto 17), (35, i_il 2 36), (36, i_ir (.int))]
theorem s_X4_advanceToEnd_0 {X : ev_E} {l : Launch} (hG : ev_Good X) (hl : l.stackTraces = false) : ev_Snd X l ev_ms x_X4_advanceToEnd tx_X4_advanceToEnd 0 (i_al 0 1) := s_aload_n dX4_advanceToEnd_0 rfl
theorem s_X4_advanceToEnd_1 {X : ev_E} {l : Launch} (hG : ev_Good X) (hl : l.stackTraces = false) : ev_Snd X l ev_ms x_X4_advanceToEnd tx_X4_advanceToEnd 1 (i_gf X 9 0 4) := s_getfield hG (ci := 9) (r := (RX4, TX4, 6)) rfl cw_9 (k := 0) (Nat.le_of_ble_eq_true rfl) w_169 rfl (Or.inl rfl) dX4_advanceToEnd_1
theorem s_X4_advanceToEnd_4 {X : ev_E} {l : Launch} (hG : ev_Good X) (hl : l.stackTraces = false) : ev_Snd X l ev_ms x_X4_advanceToEnd tx_X4_advanceToEnd 4 (i_gf X 7 2 7) := s_getfieldN hG (ci := 7) (r := (RX2, TX2, 7)) rfl cw_7 (k := 2) (Nat.le_of_ble_eq_true rfl) w_130 rfl dX4_advanceToEnd_4
theorem s_X4_advanceToEnd_7 {X : ev_E} {l : Launch} (hG : ev_Good X) (hl : l.stackTraces = false) : ev_Snd X l ev_ms x_X4_advanceToEnd tx_X4_advanceToEnd 7 (i_al 0 8) := s_aload_n dX4_advanceToEnd_7 rfl
theorem s_X4_advanceToEnd_8 {X : ev_E} {l : Launch} (hG : ev_Good X) (hl : l.stackTraces = false) : ev_Snd X l ev_ms x_X4_advanceToEnd tx_X4_advanceToEnd 8 (i_gf X 9 5 11) := s_getfield hG (ci := 9) (r := (RX4, TX4, 6)) rfl cw_9 (k := 5) (Nat.le_of_ble_eq_true rfl) w_174 rfl (Or.inl rfl) dX4_advanceToEnd_8
theorem s_X4_advanceToEnd_11 {X : ev_E} {l : Launch} (hG : ev_Good X) (hl : l.stackTraces = false) : ev_Snd X l ev_ms x_X4_advanceToEnd tx_X4_advanceToEnd 11 (i_ii (fun a b => a - b) 12) := s_isub dX4_advanceToEnd_11
theorem s_X4_advanceToEnd_12 {X : ev_E} {l : Launch} (hG : ev_Good X) (hl : l.stackTraces = false) : ev_Snd X l ev_ms x_X4_advanceToEnd tx_X4_advanceToEnd 12 (i_is 1 13) := s_istore_n dX4_advanceToEnd_12 rfl (Nat.le_of_ble_eq_true rfl)
theorem s_X4_advanceToEnd_13 {X : ev_E} {l : Launch} (hG : ev_Good X) (hl : l.stackTraces = false) : ev_Snd X l ev_ms x_X4_advanceToEnd tx_X4_advanceToEnd 13 (i_psh (.int (0)) 14) := s_iconst dX4_advanceToEnd_13 rfl
theorem s_X4_advanceToEnd_14 {X : ev_E} {l : Launch} (hG : ev_Good X) (hl : l.stackTraces = false) : ev_Snd X l ev_ms x_X4_advanceToEnd tx_X4_advanceToEnd 14 (i_is 2 15) := s_istore_n dX4_advanceToEnd_14 rfl (Nat.le_of_ble_eq_true rfl)
theorem s_X4_advanceToEnd_15 {X : ev_E} {l : Launch} (hG : ev_Good X) (hl : l.stackTraces = false) : ev_Snd X l ev_ms x_X4_advanceToEnd tx_X4_advanceToEnd 15 (i_psh (.int (0)) 16) := s_iconst dX4_advanceToEnd_15 rfl
theorem s_X4_advanceToEnd_16 {X : ev_E} {l : Launch} (hG : ev_Good X) (hl : l.stackTraces = false) : ev_Snd X l ev_ms x_X4_advanceToEnd tx_X4_advanceToEnd 16 (i_is 3 17) := s_istore_n dX4_advanceToEnd_16 rfl (Nat.le_of_ble_eq_true rfl)
theorem s_X4_advanceToEnd_17 {X : ev_E} {l : Launch} (hG : ev_Good X) (hl : l.stackTraces = false) : ev_Snd X l ev_ms x_X4_advanceToEnd tx_X4_advanceToEnd 17 (i_il 3 18) := s_iload_n dX4_advanceToEnd_17 rfl
theorem s_X4_advanceToEnd_18 {X : ev_E} {l : Launch} (hG : ev_Good X) (hl : l.stackTraces = false) : ev_Snd X l ev_ms x_X4_advanceToEnd tx_X4_advanceToEnd 18 (i_il 1 19) := s_iload_n dX4_advanceToEnd_18 rfl
theorem s_X4_advanceToEnd_19 {X : ev_E} {l : Launch} (hG : ev_Good X) (hl : l.stackTraces = false) : ev_Snd X l ev_ms x_X4_advanceToEnd tx_X4_advanceToEnd 19 (i_icge 35 22) := s_icge dX4_advanceToEnd_19 rfl
theorem s_X4_advanceToEnd_22 {X : ev_E} {l : Launch} (hG : ev_Good X) (hl : l.stackTraces = false) : ev_Snd X l ev_ms x_X4_advanceToEnd tx_X4_advanceToEnd 22 (i_il 2 23) := s_iload_n dX4_advanceToEnd_22 rfl
theorem s_X4_advanceToEnd_23 {X : ev_E} {l : Launch} (hG : ev_Good X) (hl : l.stackTraces = false) : ev_Snd X l ev_ms x_X4_advanceToEnd tx_X4_advanceToEnd 23 (i_al 0 24) := s_aload_n dX4_advanceToEnd_23 rfl
theorem s_X4_advanceToEnd_24 {X : ev_E} {l : Launch} (hG : ev_Good X) (hl : l.stackTraces = false) : ev_Snd X l ev_ms x_X4_advanceToEnd tx_X4_advanceToEnd 24 (i_cV X 145 0 9 2 27) := s_invokevirtual hG (mi := 145) (n := 0) (ci := 9) (r := (RX4, TX4, 6)) rfl (cal_X4_advance (Nat.le_of_ble_eq_true rfl)) w_1084 w_1045 w_1046 dX4_advanceToEnd_24
theorem s_X4_advanceToEnd_27 {X : ev_E} {l : Launch} (hG : ev_Good X) (hl : l.stackTraces = false) : ev_Snd X l ev_ms x_X4_advanceToEnd tx_X4_advanceToEnd 27 (i_ii (fun a b => a + b) 28) := s_iadd dX4_advanceToEnd_27
theorem s_X4_advanceToEnd_28 {X : ev_E} {l : Launch} (hG : ev_Good X) (hl : l.stackTraces = false) : ev_Snd X l ev_ms x_X4_advanceToEnd tx_X4_advanceToEnd 28 (i_is 2 29) := s_istore_n dX4_advanceToEnd_28 rfl (Nat.le_of_ble_eq_true rfl)
theorem s_X4_advanceToEnd_29 {X : ev_E} {l : Launch} (hG : ev_Good X) (hl : l.stackTraces = false) : ev_Snd X l ev_ms x_X4_advanceToEnd tx_X4_advanceToEnd 29 (i_inc 3 (1) 32) := s_iinc dX4_advanceToEnd_29 rfl (Nat.le_of_ble_eq_true rfl)
theorem s_X4_advanceToEnd_32 {X : ev_E} {l : Launch} (hG : ev_Good X) (hl : l.stackTraces = false) : ev_Snd X l ev_ms x_X4_advanceToEnd tx_X4_advanceToEnd 32 (i_goto 17) := s_goto dX4_advanceToEnd_32 rfl
theorem s_X4_advanceToEnd_35 {X : ev_E} {l : Launch} (hG : ev_Good X) (hl : l.stackTraces = false) : ev_Snd X l ev_ms x_X4_advanceToEnd tx_X4_advanceToEnd 35 (i_il 2 36) := s_iload_n dX4_advanceToEnd_35 rfl
theorem s_X4_advanceToEnd_36 {X : ev_E} {l : Launch} (hG : ev_Good X) (hl : l.stackTraces = false) : ev_Snd X l ev_ms x_X4_advanceToEnd tx_X4_advanceToEnd 36 (i_ir (.int)) := s_ireturn rfl dX4_advanceToEnd_36
theorem sa_X4_advanceToEnd {X : ev_E} {l : Launch} (hG : ev_Good X) (hl : l.stackTraces = false) : ∀ q ∈ tb_X4_advanceToEnd X, ev_Snd X l ev_ms x_X4_advanceToEnd tx_X4_advanceToEnd q.1 q.2 := by
  intro q hq
  unfold tb_X4_advanceToEnd at hq
  simp only [List.mem_cons, List.not_mem_nil, or_false] at hq
  rcases hq with rfl | rfl | rfl | rfl | rfl | rfl | rfl | rfl | rfl | rfl | rfl | rfl | rfl | rfl | rfl | rfl | rfl | rfl | rfl | rfl | rfl | rfl | rfl
  · exact s_X4_advanceToEnd_0 hG hl
  · exact s_X4_advanceToEnd_1 hG hl
  · exact s_X4_advanceToEnd_4 hG hl
  · exact s_X4_advanceToEnd_7 hG hl
  · exact s_X4_advanceToEnd_8 hG hl
  · exact s_X4_advanceToEnd_11 hG hl
  · exact s_X4_advanceToEnd_12 hG hl
  · exact s_X4_advanceToEnd_13 hG hl
  · exact s_X4_advanceToEnd_14 hG hl
  · exact s_X4_advanceToEnd_15 hG hl
  · exact s_X4_advanceToEnd_16 hG hl
  · exact s_X4_advanceToEnd_17 hG hl
  · exact s_X4_advanceToEnd_18 hG hl
  · exact s_X4_advanceToEnd_19 hG hl
  · exact s_X4_advanceToEnd_22 hG hl
  · exact s_X4_advanceToEnd_23 hG hl
  · exact s_X4_advanceToEnd_24 hG hl
  · exact s_X4_advanceToEnd_27 hG hl
  · exact s_X4_advanceToEnd_28 hG hl
  · exact s_X4_advanceToEnd_29 hG hl
  · exact s_X4_advanceToEnd_32 hG hl
  · exact s_X4_advanceToEnd_35 hG hl
  · exact s_X4_advanceToEnd_36 hG hl
def tx_X5_copy : ev_X := fun _ _ => some none
noncomputable def tb_X5_copy (X : ev_E) : List (Nat × (ev_S → ev_N)) := [(0, i_al 0 1), (1, i_il 1 2), (2, i_cV X 59 1 10 2 5), (5, i_as 3 6), (6, i_al 0 7), (7, i_il 2 8), (8, i_cV X 59 1 10 2 11), (11, i_as 4 13), (13, i_al 4 15), (15, i_gf X 8 1 18), (18, i_cV X 45 0 9 1 21), (21, i_al 4 23), (23, i_gf X 8 0 26), (26, i_al 3 27), (27, i_gf X 8 0 30), (30, i_cV X 141 1 7 4 33), (33, i_al 4 35), (35, i_gf X 8 0 38), (38, i_gf X 7 2 41), (41, i_ir (.int))]
theorem s_X5_copy_0 {X : ev_E} {l : Launch} (hG : ev_Good X) (hl : l.stackTraces = false) : ev_Snd X l ev_ms x_X5_copy tx_X5_copy 0 (i_al 0 1) := s_aload_n dX5_copy_0 rfl
theorem s_X5_copy_1 {X : ev_E} {l : Launch} (hG : ev_Good X) (hl : l.stackTraces = false) : ev_Snd X l ev_ms x_X5_copy tx_X5_copy 1 (i_il 1 2) := s_iload_n dX5_copy_1 rfl
theorem s_X5_copy_2 {X : ev_E} {l : Launch} (hG : ev_Good X) (hl : l.stackTraces = false) : ev_Snd X l ev_ms x_X5_copy tx_X5_copy 2 (i_cV X 59 1 10 2 5) := s_invokevirtual hG (mi := 59) (n := 1) (ci := 10) (r := (RX5, TX5, 7)) rfl (cal_X5_tableOf (Nat.le_of_ble_eq_true rfl)) w_705 w_707 w_11 dX5_copy_2
theorem s_X5_copy_5 {X : ev_E} {l : Launch} (hG : ev_Good X) (hl : l.stackTraces = false) : ev_Snd X l ev_ms x_X5_copy tx_X5_copy 5 (i_as 3 6) := s_astore_n dX5_copy_5 rfl (Nat.le_of_ble_eq_true rfl)
theorem s_X5_copy_6 {X : ev_E} {l : Launch} (hG : ev_Good X) (hl : l.stackTraces = false) : ev_Snd X l ev_ms x_X5_copy tx_X5_copy 6 (i_al 0 7) := s_aload_n dX5_copy_6 rfl
theorem s_X5_copy_7 {X : ev_E} {l : Launch} (hG : ev_Good X) (hl : l.stackTraces = false) : ev_Snd X l ev_ms x_X5_copy tx_X5_copy 7 (i_il 2 8) := s_iload_n dX5_copy_7 rfl
theorem s_X5_copy_8 {X : ev_E} {l : Launch} (hG : ev_Good X) (hl : l.stackTraces = false) : ev_Snd X l ev_ms x_X5_copy tx_X5_copy 8 (i_cV X 59 1 10 2 11) := s_invokevirtual hG (mi := 59) (n := 1) (ci := 10) (r := (RX5, TX5, 7)) rfl (cal_X5_tableOf (Nat.le_of_ble_eq_true rfl)) w_705 w_707 w_11 dX5_copy_8
theorem s_X5_copy_11 {X : ev_E} {l : Launch} (hG : ev_Good X) (hl : l.stackTraces = false) : ev_Snd X l ev_ms x_X5_copy tx_X5_copy 11 (i_as 4 13) := s_astore dX5_copy_11 (Nat.le_of_ble_eq_true rfl)
theorem s_X5_copy_13 {X : ev_E} {l : Launch} (hG : ev_Good X) (hl : l.stackTraces = false) : ev_Snd X l ev_ms x_X5_copy tx_X5_copy 13 (i_al 4 15) := s_aload dX5_copy_13
theorem s_X5_copy_15 {X : ev_E} {l : Launch} (hG : ev_Good X) (hl : l.stackTraces = false) : ev_Snd X l ev_ms x_X5_copy tx_X5_copy 15 (i_gf X 8 1 18) := s_getfieldN hG (ci := 8) (r := (RX3, TX3, 2)) rfl cw_8 (k := 1) (Nat.le_of_ble_eq_true rfl) w_191 rfl dX5_copy_15
theorem s_X5_copy_18 {X : ev_E} {l : Launch} (hG : ev_Good X) (hl : l.stackTraces = false) : ev_Snd X l ev_ms x_X5_copy tx_X5_copy 18 (i_cV X 45 0 9 1 21) := s_invokevirtual hG (mi := 45) (n := 0) (ci := 9) (r := (RX4, TX4, 6)) rfl (cal_X4_outdate (Nat.le_of_ble_eq_true rfl)) w_828 w_829 w_830 dX5_copy_18
theorem s_X5_copy_21 {X : ev_E} {l : Launch} (hG : ev_Good X) (hl : l.stackTraces = false) : ev_Snd X l ev_ms x_X5_copy tx_X5_copy 21 (i_al 4 23) := s_aload dX5_copy_21
theorem s_X5_copy_23 {X : ev_E} {l : Launch} (hG : ev_Good X) (hl : l.stackTraces = false) : ev_Snd X l ev_ms x_X5_copy tx_X5_copy 23 (i_gf X 8 0 26) := s_getfieldN hG (ci := 8) (r := (RX3, TX3, 2)) rfl cw_8 (k := 0) (Nat.le_of_ble_eq_true rfl) w_189 rfl dX5_copy_23
theorem s_X5_copy_26 {X : ev_E} {l : Launch} (hG : ev_Good X) (hl : l.stackTraces = false) : ev_Snd X l ev_ms x_X5_copy tx_X5_copy 26 (i_al 3 27) := s_aload_n dX5_copy_26 rfl
theorem s_X5_copy_27 {X : ev_E} {l : Launch} (hG : ev_Good X) (hl : l.stackTraces = false) : ev_Snd X l ev_ms x_X5_copy tx_X5_copy 27 (i_gf X 8 0 30) := s_getfieldN hG (ci := 8) (r := (RX3, TX3, 2)) rfl cw_8 (k := 0) (Nat.le_of_ble_eq_true rfl) w_189 rfl dX5_copy_27
theorem s_X5_copy_30 {X : ev_E} {l : Launch} (hG : ev_Good X) (hl : l.stackTraces = false) : ev_Snd X l ev_ms x_X5_copy tx_X5_copy 30 (i_cV X 141 1 7 4 33) := s_invokevirtual hG (mi := 141) (n := 1) (ci := 7) (r := (RX2, TX2, 7)) rfl (cal_X2_become (Nat.le_of_ble_eq_true rfl)) w_955 w_956 w_957 dX5_copy_30
theorem s_X5_copy_33 {X : ev_E} {l : Launch} (hG : ev_Good X) (hl : l.stackTraces = false) : ev_Snd X l ev_ms x_X5_copy tx_X5_copy 33 (i_al 4 35) := s_aload dX5_copy_33
theorem s_X5_copy_35 {X : ev_E} {l : Launch} (hG : ev_Good X) (hl : l.stackTraces = false) : ev_Snd X l ev_ms x_X5_copy tx_X5_copy 35 (i_gf X 8 0 38) := s_getfieldN hG (ci := 8) (r := (RX3, TX3, 2)) rfl cw_8 (k := 0) (Nat.le_of_ble_eq_true rfl) w_189 rfl dX5_copy_35
theorem s_X5_copy_38 {X : ev_E} {l : Launch} (hG : ev_Good X) (hl : l.stackTraces = false) : ev_Snd X l ev_ms x_X5_copy tx_X5_copy 38 (i_gf X 7 2 41) := s_getfieldN hG (ci := 7) (r := (RX2, TX2, 7)) rfl cw_7 (k := 2) (Nat.le_of_ble_eq_true rfl) w_131 rfl dX5_copy_38
theorem s_X5_copy_41 {X : ev_E} {l : Launch} (hG : ev_Good X) (hl : l.stackTraces = false) : ev_Snd X l ev_ms x_X5_copy tx_X5_copy 41 (i_ir (.int)) := s_ireturn rfl dX5_copy_41
theorem sa_X5_copy {X : ev_E} {l : Launch} (hG : ev_Good X) (hl : l.stackTraces = false) : ∀ q ∈ tb_X5_copy X, ev_Snd X l ev_ms x_X5_copy tx_X5_copy q.1 q.2 := by
  intro q hq
  unfold tb_X5_copy at hq
  simp only [List.mem_cons, List.not_mem_nil, or_false] at hq
  rcases hq with rfl | rfl | rfl | rfl | rfl | rfl | rfl | rfl | rfl | rfl | rfl | rfl | rfl | rfl | rfl | rfl | rfl | rfl | rfl | rfl
  · exact s_X5_copy_0 hG hl
  · exact s_X5_copy_1 hG hl
  · exact s_X5_copy_2 hG hl
  · exact s_X5_copy_5 hG hl
  · exact s_X5_copy_6 hG hl
  · exact s_X5_copy_7 hG hl
  · exact s_X5_copy_8 hG hl
  · exact s_X5_copy_11 hG hl
  · exact s_X5_copy_13 hG hl
  · exact s_X5_copy_15 hG hl
  · exact s_X5_copy_18 hG hl
  · exact s_X5_copy_21 hG hl
  · exact s_X5_copy_23 hG hl
  · exact s_X5_copy_26 hG hl
  · exact s_X5_copy_27 hG hl
  · exact s_X5_copy_30 hG hl
  · exact s_X5_copy_33 hG hl
  · exact s_X5_copy_35 hG hl
  · exact s_X5_copy_38 hG hl
  · exact s_X5_copy_41 hG hl
def tx_X5_cut : ev_X := fun _ _ => some none
noncomputable def tb_X5_cut (X : ev_E) : List (Nat × (ev_S → ev_N)) := [(0, i_al 0 1), (1, i_il 1 2), (2, i_cV X 59 1 10 2 5), (5, i_as 2 6), (6, i_al 2 7), (7, i_gf X 8 1 10), (10, i_cV X 98 0 9 1 13), (13, i_ifne 21 16), (16, i_al 0 17), (17, i_cV X 58 0 10 1 20), (20, i_ir (.int)), (21, i_al 2 22), (22, i_gf X 8 1 25), (25, i_cV X 146 0 9 1 28), (28, i_al 2 29), (29, i_gf X 8 0 32), (32, i_gf X 7 2 35), (35, i_ir (.int))]
theorem s_X5_cut_0 {X : ev_E} {l : Launch} (hG : ev_Good X) (hl : l.stackTraces = false) : ev_Snd X l ev_ms x_X5_cut tx_X5_cut 0 (i_al 0 1) := s_aload_n dX5_cut_0 rfl
theorem s_X5_cut_1 {X : ev_E} {l : Launch} (hG : ev_Good X) (hl : l.stackTraces = false) : ev_Snd X l ev_ms x_X5_cut tx_X5_cut 1 (i_il 1 2) := s_iload_n dX5_cut_1 rfl
theorem s_X5_cut_2 {X : ev_E} {l : Launch} (hG : ev_Good X) (hl : l.stackTraces = false) : ev_Snd X l ev_ms x_X5_cut tx_X5_cut 2 (i_cV X 59 1 10 2 5) := s_invokevirtual hG (mi := 59) (n := 1) (ci := 10) (r := (RX5, TX5, 7)) rfl (cal_X5_tableOf (Nat.le_of_ble_eq_true rfl)) w_705 w_707 w_11 dX5_cut_2
theorem s_X5_cut_5 {X : ev_E} {l : Launch} (hG : ev_Good X) (hl : l.stackTraces = false) : ev_Snd X l ev_ms x_X5_cut tx_X5_cut 5 (i_as 2 6) := s_astore_n dX5_cut_5 rfl (Nat.le_of_ble_eq_true rfl)
theorem s_X5_cut_6 {X : ev_E} {l : Launch} (hG : ev_Good X) (hl : l.stackTraces = false) : ev_Snd X l ev_ms x_X5_cut tx_X5_cut 6 (i_al 2 7) := s_aload_n dX5_cut_6 rfl
theorem s_X5_cut_7 {X : ev_E} {l : Launch} (hG : ev_Good X) (hl : l.stackTraces = false) : ev_Snd X l ev_ms x_X5_cut tx_X5_cut 7 (i_gf X 8 1 10) := s_getfieldN hG (ci := 8) (r := (RX3, TX3, 2)) rfl cw_8 (k := 1) (Nat.le_of_ble_eq_true rfl) w_191 rfl dX5_cut_7
theorem s_X5_cut_10 {X : ev_E} {l : Launch} (hG : ev_Good X) (hl : l.stackTraces = false) : ev_Snd X l ev_ms x_X5_cut tx_X5_cut 10 (i_cV X 98 0 9 1 13) := s_invokevirtual hG (mi := 98) (n := 0) (ci := 9) (r := (RX4, TX4, 6)) rfl (cal_X4_canCut (Nat.le_of_ble_eq_true rfl)) w_1056 w_1057 w_1058 dX5_cut_10
theorem s_X5_cut_13 {X : ev_E} {l : Launch} (hG : ev_Good X) (hl : l.stackTraces = false) : ev_Snd X l ev_ms x_X5_cut tx_X5_cut 13 (i_ifne 21 16) := s_ifne dX5_cut_13 rfl
theorem s_X5_cut_16 {X : ev_E} {l : Launch} (hG : ev_Good X) (hl : l.stackTraces = false) : ev_Snd X l ev_ms x_X5_cut tx_X5_cut 16 (i_al 0 17) := s_aload_n dX5_cut_16 rfl
theorem s_X5_cut_17 {X : ev_E} {l : Launch} (hG : ev_Good X) (hl : l.stackTraces = false) : ev_Snd X l ev_ms x_X5_cut tx_X5_cut 17 (i_cV X 58 0 10 1 20) := s_invokevirtual hG (mi := 58) (n := 0) (ci := 10) (r := (RX5, TX5, 7)) rfl (cal_X5_refuse (Nat.le_of_ble_eq_true rfl)) w_943 w_945 w_17 dX5_cut_17
theorem s_X5_cut_20 {X : ev_E} {l : Launch} (hG : ev_Good X) (hl : l.stackTraces = false) : ev_Snd X l ev_ms x_X5_cut tx_X5_cut 20 (i_ir (.int)) := s_ireturn rfl dX5_cut_20
theorem s_X5_cut_21 {X : ev_E} {l : Launch} (hG : ev_Good X) (hl : l.stackTraces = false) : ev_Snd X l ev_ms x_X5_cut tx_X5_cut 21 (i_al 2 22) := s_aload_n dX5_cut_21 rfl
theorem s_X5_cut_22 {X : ev_E} {l : Launch} (hG : ev_Good X) (hl : l.stackTraces = false) : ev_Snd X l ev_ms x_X5_cut tx_X5_cut 22 (i_gf X 8 1 25) := s_getfieldN hG (ci := 8) (r := (RX3, TX3, 2)) rfl cw_8 (k := 1) (Nat.le_of_ble_eq_true rfl) w_191 rfl dX5_cut_22
theorem s_X5_cut_25 {X : ev_E} {l : Launch} (hG : ev_Good X) (hl : l.stackTraces = false) : ev_Snd X l ev_ms x_X5_cut tx_X5_cut 25 (i_cV X 146 0 9 1 28) := s_invokevirtual hG (mi := 146) (n := 0) (ci := 9) (r := (RX4, TX4, 6)) rfl (cal_X4_cutLast (Nat.le_of_ble_eq_true rfl)) w_1060 w_1061 w_1062 dX5_cut_25
theorem s_X5_cut_28 {X : ev_E} {l : Launch} (hG : ev_Good X) (hl : l.stackTraces = false) : ev_Snd X l ev_ms x_X5_cut tx_X5_cut 28 (i_al 2 29) := s_aload_n dX5_cut_28 rfl
theorem s_X5_cut_29 {X : ev_E} {l : Launch} (hG : ev_Good X) (hl : l.stackTraces = false) : ev_Snd X l ev_ms x_X5_cut tx_X5_cut 29 (i_gf X 8 0 32) := s_getfieldN hG (ci := 8) (r := (RX3, TX3, 2)) rfl cw_8 (k := 0) (Nat.le_of_ble_eq_true rfl) w_189 rfl dX5_cut_29
theorem s_X5_cut_32 {X : ev_E} {l : Launch} (hG : ev_Good X) (hl : l.stackTraces = false) : ev_Snd X l ev_ms x_X5_cut tx_X5_cut 32 (i_gf X 7 2 35) := s_getfieldN hG (ci := 7) (r := (RX2, TX2, 7)) rfl cw_7 (k := 2) (Nat.le_of_ble_eq_true rfl) w_131 rfl dX5_cut_32
theorem s_X5_cut_35 {X : ev_E} {l : Launch} (hG : ev_Good X) (hl : l.stackTraces = false) : ev_Snd X l ev_ms x_X5_cut tx_X5_cut 35 (i_ir (.int)) := s_ireturn rfl dX5_cut_35
theorem sa_X5_cut {X : ev_E} {l : Launch} (hG : ev_Good X) (hl : l.stackTraces = false) : ∀ q ∈ tb_X5_cut X, ev_Snd X l ev_ms x_X5_cut tx_X5_cut q.1 q.2 := by
  intro q hq
  unfold tb_X5_cut at hq
  simp only [List.mem_cons, List.not_mem_nil, or_false] at hq
  rcases hq with rfl | rfl | rfl | rfl | rfl | rfl | rfl | rfl | rfl | rfl | rfl | rfl | rfl | rfl | rfl | rfl | rfl | rfl
  · exact s_X5_cut_0 hG hl
  · exact s_X5_cut_1 hG hl
  · exact s_X5_cut_2 hG hl
  · exact s_X5_cut_5 hG hl
  · exact s_X5_cut_6 hG hl
  · exact s_X5_cut_7 hG hl
  · exact s_X5_cut_10 hG hl
  · exact s_X5_cut_13 hG hl
  · exact s_X5_cut_16 hG hl
  · exact s_X5_cut_17 hG hl
  · exact s_X5_cut_20 hG hl
  · exact s_X5_cut_21 hG hl
  · exact s_X5_cut_22 hG hl
  · exact s_X5_cut_25 hG hl
  · exact s_X5_cut_28 hG hl
  · exact s_X5_cut_29 hG hl
  · exact s_X5_cut_32 hG hl
  · exact s_X5_cut_35 hG hl
def tx_X5_forget : ev_X := fun _ _ => some none
noncomputable def tb_X5_forget (X : ev_E) : List (Nat × (ev_S → ev_N)) := [(0, i_al 0 1), (1, i_gf X 10 1 4), (4, i_gf X 5 5 7), (7, i_is 1 8), (8, i_al 0 9), (9, i_gf X 10 1 12), (12, i_psh (.int (0)) 13), (13, i_pf 5 5 (.int) 16), (16, i_al 0 17), (17, i_gf X 10 2 20), (20, i_psh (.int (1)) 21), (21, i_psh (.int (-1)) 22), (22, i_cV X 95 2 7 3 25), (25, i_pop 26), (26, i_al 0 27), (27, i_gf X 10 3 30), (30, i_as 2 31), (31, i_al 2 32), (32, i_len X 33), (33, i_is 3 34), (34, i_psh (.int (0)) 35), (35, i_is 4 37), (37, i_il 4 39), (39, i_il 3 40), (40, i_icge 60 43), (43, i_al 2 44), (44, i_il 4 46), (46, i_ald X FieldType.isReference 47), (47, i_as 5 49), (49, i_al 5 51), (51, i_cV X 140 0 6 1 54), (54, i_inc 4 (1) 57), (57, i_goto 37), (60, i_il 1 61), (61, i_ir (.int))]
theorem s_X5_forget_0 {X : ev_E} {l : Launch} (hG : ev_Good X) (hl : l.stackTraces = false) : ev_Snd X l ev_ms x_X5_forget tx_X5_forget 0 (i_al 0 1) := s_aload_n dX5_forget_0 rfl
theorem s_X5_forget_1 {X : ev_E} {l : Launch} (hG : ev_Good X) (hl : l.stackTraces = false) : ev_Snd X l ev_ms x_X5_forget tx_X5_forget 1 (i_gf X 10 1 4) := s_getfield hG (ci := 10) (r := (RX5, TX5, 7)) rfl cw_10 (k := 1) (Nat.le_of_ble_eq_true rfl) w_218 rfl (Or.inl rfl) dX5_forget_1
theorem s_X5_forget_4 {X : ev_E} {l : Launch} (hG : ev_Good X) (hl : l.stackTraces = false) : ev_Snd X l ev_ms x_X5_forget tx_X5_forget 4 (i_gf X 5 5 7) := s_getfieldN hG (ci := 5) (r := (RX0, TX0, 6)) rfl cw_5 (k := 5) (Nat.le_of_ble_eq_true rfl) w_106 rfl dX5_forget_4
theorem s_X5_forget_7 {X : ev_E} {l : Launch} (hG : ev_Good X) (hl : l.stackTraces = false) : ev_Snd X l ev_ms x_X5_forget tx_X5_forget 7 (i_is 1 8) := s_istore_n dX5_forget_7 rfl (Nat.le_of_ble_eq_true rfl)
theorem s_X5_forget_8 {X : ev_E} {l : Launch} (hG : ev_Good X) (hl : l.stackTraces = false) : ev_Snd X l ev_ms x_X5_forget tx_X5_forget 8 (i_al 0 9) := s_aload_n dX5_forget_8 rfl
theorem s_X5_forget_9 {X : ev_E} {l : Launch} (hG : ev_Good X) (hl : l.stackTraces = false) : ev_Snd X l ev_ms x_X5_forget tx_X5_forget 9 (i_gf X 10 1 12) := s_getfield hG (ci := 10) (r := (RX5, TX5, 7)) rfl cw_10 (k := 1) (Nat.le_of_ble_eq_true rfl) w_218 rfl (Or.inl rfl) dX5_forget_9
theorem s_X5_forget_12 {X : ev_E} {l : Launch} (hG : ev_Good X) (hl : l.stackTraces = false) : ev_Snd X l ev_ms x_X5_forget tx_X5_forget 12 (i_psh (.int (0)) 13) := s_iconst dX5_forget_12 rfl
theorem s_X5_forget_13 {X : ev_E} {l : Launch} (hG : ev_Good X) (hl : l.stackTraces = false) : ev_Snd X l ev_ms x_X5_forget tx_X5_forget 13 (i_pf 5 5 (.int) 16) := s_putfieldN hG (ci := 5) (r := (RX0, TX0, 6)) rfl cw_5 ap_5 (k := 5) (Nat.le_of_ble_eq_true rfl) rfl (by decide +kernel) w_106 rfl dX5_forget_13
theorem s_X5_forget_16 {X : ev_E} {l : Launch} (hG : ev_Good X) (hl : l.stackTraces = false) : ev_Snd X l ev_ms x_X5_forget tx_X5_forget 16 (i_al 0 17) := s_aload_n dX5_forget_16 rfl
theorem s_X5_forget_17 {X : ev_E} {l : Launch} (hG : ev_Good X) (hl : l.stackTraces = false) : ev_Snd X l ev_ms x_X5_forget tx_X5_forget 17 (i_gf X 10 2 20) := s_getfield hG (ci := 10) (r := (RX5, TX5, 7)) rfl cw_10 (k := 2) (Nat.le_of_ble_eq_true rfl) w_219 rfl (Or.inl rfl) dX5_forget_17
theorem s_X5_forget_20 {X : ev_E} {l : Launch} (hG : ev_Good X) (hl : l.stackTraces = false) : ev_Snd X l ev_ms x_X5_forget tx_X5_forget 20 (i_psh (.int (1)) 21) := s_iconst dX5_forget_20 rfl
theorem s_X5_forget_21 {X : ev_E} {l : Launch} (hG : ev_Good X) (hl : l.stackTraces = false) : ev_Snd X l ev_ms x_X5_forget tx_X5_forget 21 (i_psh (.int (-1)) 22) := s_iconst dX5_forget_21 rfl
theorem s_X5_forget_22 {X : ev_E} {l : Launch} (hG : ev_Good X) (hl : l.stackTraces = false) : ev_Snd X l ev_ms x_X5_forget tx_X5_forget 22 (i_cV X 95 2 7 3 25) := s_invokevirtual hG (mi := 95) (n := 2) (ci := 7) (r := (RX2, TX2, 7)) rfl (cal_X2_renew (Nat.le_of_ble_eq_true rfl)) w_243 w_244 w_245 dX5_forget_22
theorem s_X5_forget_25 {X : ev_E} {l : Launch} (hG : ev_Good X) (hl : l.stackTraces = false) : ev_Snd X l ev_ms x_X5_forget tx_X5_forget 25 (i_pop 26) := s_pop dX5_forget_25
theorem s_X5_forget_26 {X : ev_E} {l : Launch} (hG : ev_Good X) (hl : l.stackTraces = false) : ev_Snd X l ev_ms x_X5_forget tx_X5_forget 26 (i_al 0 27) := s_aload_n dX5_forget_26 rfl
theorem s_X5_forget_27 {X : ev_E} {l : Launch} (hG : ev_Good X) (hl : l.stackTraces = false) : ev_Snd X l ev_ms x_X5_forget tx_X5_forget 27 (i_gf X 10 3 30) := s_getfield hG (ci := 10) (r := (RX5, TX5, 7)) rfl cw_10 (k := 3) (Nat.le_of_ble_eq_true rfl) w_220 rfl (Or.inl rfl) dX5_forget_27
theorem s_X5_forget_30 {X : ev_E} {l : Launch} (hG : ev_Good X) (hl : l.stackTraces = false) : ev_Snd X l ev_ms x_X5_forget tx_X5_forget 30 (i_as 2 31) := s_astore_n dX5_forget_30 rfl (Nat.le_of_ble_eq_true rfl)
theorem s_X5_forget_31 {X : ev_E} {l : Launch} (hG : ev_Good X) (hl : l.stackTraces = false) : ev_Snd X l ev_ms x_X5_forget tx_X5_forget 31 (i_al 2 32) := s_aload_n dX5_forget_31 rfl
theorem s_X5_forget_32 {X : ev_E} {l : Launch} (hG : ev_Good X) (hl : l.stackTraces = false) : ev_Snd X l ev_ms x_X5_forget tx_X5_forget 32 (i_len X 33) := s_arraylength hG dX5_forget_32
theorem s_X5_forget_33 {X : ev_E} {l : Launch} (hG : ev_Good X) (hl : l.stackTraces = false) : ev_Snd X l ev_ms x_X5_forget tx_X5_forget 33 (i_is 3 34) := s_istore_n dX5_forget_33 rfl (Nat.le_of_ble_eq_true rfl)
theorem s_X5_forget_34 {X : ev_E} {l : Launch} (hG : ev_Good X) (hl : l.stackTraces = false) : ev_Snd X l ev_ms x_X5_forget tx_X5_forget 34 (i_psh (.int (0)) 35) := s_iconst dX5_forget_34 rfl
theorem s_X5_forget_35 {X : ev_E} {l : Launch} (hG : ev_Good X) (hl : l.stackTraces = false) : ev_Snd X l ev_ms x_X5_forget tx_X5_forget 35 (i_is 4 37) := s_istore dX5_forget_35 (Nat.le_of_ble_eq_true rfl)
theorem s_X5_forget_37 {X : ev_E} {l : Launch} (hG : ev_Good X) (hl : l.stackTraces = false) : ev_Snd X l ev_ms x_X5_forget tx_X5_forget 37 (i_il 4 39) := s_iload dX5_forget_37
theorem s_X5_forget_39 {X : ev_E} {l : Launch} (hG : ev_Good X) (hl : l.stackTraces = false) : ev_Snd X l ev_ms x_X5_forget tx_X5_forget 39 (i_il 3 40) := s_iload_n dX5_forget_39 rfl
theorem s_X5_forget_40 {X : ev_E} {l : Launch} (hG : ev_Good X) (hl : l.stackTraces = false) : ev_Snd X l ev_ms x_X5_forget tx_X5_forget 40 (i_icge 60 43) := s_icge dX5_forget_40 rfl
theorem s_X5_forget_43 {X : ev_E} {l : Launch} (hG : ev_Good X) (hl : l.stackTraces = false) : ev_Snd X l ev_ms x_X5_forget tx_X5_forget 43 (i_al 2 44) := s_aload_n dX5_forget_43 rfl
theorem s_X5_forget_44 {X : ev_E} {l : Launch} (hG : ev_Good X) (hl : l.stackTraces = false) : ev_Snd X l ev_ms x_X5_forget tx_X5_forget 44 (i_il 4 46) := s_iload dX5_forget_44
theorem s_X5_forget_46 {X : ev_E} {l : Launch} (hG : ev_Good X) (hl : l.stackTraces = false) : ev_Snd X l ev_ms x_X5_forget tx_X5_forget 46 (i_ald X FieldType.isReference 47) := s_aaload hG dX5_forget_46
theorem s_X5_forget_47 {X : ev_E} {l : Launch} (hG : ev_Good X) (hl : l.stackTraces = false) : ev_Snd X l ev_ms x_X5_forget tx_X5_forget 47 (i_as 5 49) := s_astore dX5_forget_47 (Nat.le_of_ble_eq_true rfl)
theorem s_X5_forget_49 {X : ev_E} {l : Launch} (hG : ev_Good X) (hl : l.stackTraces = false) : ev_Snd X l ev_ms x_X5_forget tx_X5_forget 49 (i_al 5 51) := s_aload dX5_forget_49
theorem s_X5_forget_51 {X : ev_E} {l : Launch} (hG : ev_Good X) (hl : l.stackTraces = false) : ev_Snd X l ev_ms x_X5_forget tx_X5_forget 51 (i_cV X 140 0 6 1 54) := s_invokevirtual hG (mi := 140) (n := 0) (ci := 6) (r := (RX1, TX1, 3)) rfl (cal_X1_startAnew (Nat.le_of_ble_eq_true rfl)) w_251 w_252 w_253 dX5_forget_51
theorem s_X5_forget_54 {X : ev_E} {l : Launch} (hG : ev_Good X) (hl : l.stackTraces = false) : ev_Snd X l ev_ms x_X5_forget tx_X5_forget 54 (i_inc 4 (1) 57) := s_iinc dX5_forget_54 rfl (Nat.le_of_ble_eq_true rfl)
theorem s_X5_forget_57 {X : ev_E} {l : Launch} (hG : ev_Good X) (hl : l.stackTraces = false) : ev_Snd X l ev_ms x_X5_forget tx_X5_forget 57 (i_goto 37) := s_goto dX5_forget_57 rfl
theorem s_X5_forget_60 {X : ev_E} {l : Launch} (hG : ev_Good X) (hl : l.stackTraces = false) : ev_Snd X l ev_ms x_X5_forget tx_X5_forget 60 (i_il 1 61) := s_iload_n dX5_forget_60 rfl
theorem s_X5_forget_61 {X : ev_E} {l : Launch} (hG : ev_Good X) (hl : l.stackTraces = false) : ev_Snd X l ev_ms x_X5_forget tx_X5_forget 61 (i_ir (.int)) := s_ireturn rfl dX5_forget_61
theorem sa_X5_forget {X : ev_E} {l : Launch} (hG : ev_Good X) (hl : l.stackTraces = false) : ∀ q ∈ tb_X5_forget X, ev_Snd X l ev_ms x_X5_forget tx_X5_forget q.1 q.2 := by
  intro q hq
  unfold tb_X5_forget at hq
  simp only [List.mem_cons, List.not_mem_nil, or_false] at hq
  rcases hq with rfl | rfl | rfl | rfl | rfl | rfl | rfl | rfl | rfl | rfl | rfl | rfl | rfl | rfl | rfl | rfl | rfl | rfl | rfl | rfl | rfl | rfl | rfl | rfl | rfl | rfl | rfl | rfl | rfl | rfl | rfl | rfl | rfl | rfl | rfl
  · exact s_X5_forget_0 hG hl
  · exact s_X5_forget_1 hG hl
  · exact s_X5_forget_4 hG hl
  · exact s_X5_forget_7 hG hl
  · exact s_X5_forget_8 hG hl
  · exact s_X5_forget_9 hG hl
  · exact s_X5_forget_12 hG hl
  · exact s_X5_forget_13 hG hl
  · exact s_X5_forget_16 hG hl
  · exact s_X5_forget_17 hG hl
  · exact s_X5_forget_20 hG hl
  · exact s_X5_forget_21 hG hl
  · exact s_X5_forget_22 hG hl
  · exact s_X5_forget_25 hG hl
  · exact s_X5_forget_26 hG hl
  · exact s_X5_forget_27 hG hl
  · exact s_X5_forget_30 hG hl
  · exact s_X5_forget_31 hG hl
  · exact s_X5_forget_32 hG hl
  · exact s_X5_forget_33 hG hl
  · exact s_X5_forget_34 hG hl
  · exact s_X5_forget_35 hG hl
  · exact s_X5_forget_37 hG hl
  · exact s_X5_forget_39 hG hl
  · exact s_X5_forget_40 hG hl
  · exact s_X5_forget_43 hG hl
  · exact s_X5_forget_44 hG hl
  · exact s_X5_forget_46 hG hl
  · exact s_X5_forget_47 hG hl
  · exact s_X5_forget_49 hG hl
  · exact s_X5_forget_51 hG hl
  · exact s_X5_forget_54 hG hl
  · exact s_X5_forget_57 hG hl
  · exact s_X5_forget_60 hG hl
  · exact s_X5_forget_61 hG hl
def tx_X5_isSound : ev_X := fun _ _ => some none
noncomputable def tb_X5_isSound (X : ev_E) : List (Nat × (ev_S → ev_N)) := [(0, i_psh (.int (0)) 1), (1, i_is 1 2), (2, i_il 1 3), (3, i_psh (.int (6)) 5), (5, i_icge 30 8), (8, i_al 0 9), (9, i_gf X 10 4 12), (12, i_il 1 13), (13, i_al 0 14), (14, i_gf X 10 1 17), (17, i_il 1 18), (18, i_psh (.int (1)) 19), (19, i_ii (fun a b => a + b) 20), (20, i_cV X 90 1 5 7 23), (23, i_ast ev_tI (fun v => v) 24), (24, i_inc 1 (1) 27), (27, i_goto 2), (30, i_al 0 31), (31, i_cV X 107 0 10 5 34), (34, i_ifeq 76 37), (37, i_al 0 38), (38, i_cV X 147 0 10 5 41), (41, i_ifeq 76 44), (44, i_al 0 45), (45, i_cV X 100 0 10 5 48), (48, i_ifeq 76 51), (51, i_al 0 52), (52, i_cV X 46 0 10 2 55), (55, i_ifeq 76 58), (58, i_al 0 59), (59, i_cV X 53 0 10 2 62), (62, i_ifeq 76 65), (65, i_al 0 66), (66, i_cV X 54 0 10 3 69), (69, i_ifeq 76 72), (72, i_psh (.int (1)) 73), (73, i_goto 77), (76, i_psh (.int (0)) 77), (77, i_ir (.boolean))]
theorem s_X5_isSound_0 {X : ev_E} {l : Launch} (hG : ev_Good X) (hl : l.stackTraces = false) : ev_Snd X l ev_ms x_X5_isSound tx_X5_isSound 0 (i_psh (.int (0)) 1) := s_iconst dX5_isSound_0 rfl
theorem s_X5_isSound_1 {X : ev_E} {l : Launch} (hG : ev_Good X) (hl : l.stackTraces = false) : ev_Snd X l ev_ms x_X5_isSound tx_X5_isSound 1 (i_is 1 2) := s_istore_n dX5_isSound_1 rfl (Nat.le_of_ble_eq_true rfl)
theorem s_X5_isSound_2 {X : ev_E} {l : Launch} (hG : ev_Good X) (hl : l.stackTraces = false) : ev_Snd X l ev_ms x_X5_isSound tx_X5_isSound 2 (i_il 1 3) := s_iload_n dX5_isSound_2 rfl
theorem s_X5_isSound_3 {X : ev_E} {l : Launch} (hG : ev_Good X) (hl : l.stackTraces = false) : ev_Snd X l ev_ms x_X5_isSound tx_X5_isSound 3 (i_psh (.int (6)) 5) := s_bipush dX5_isSound_3 rfl
theorem s_X5_isSound_5 {X : ev_E} {l : Launch} (hG : ev_Good X) (hl : l.stackTraces = false) : ev_Snd X l ev_ms x_X5_isSound tx_X5_isSound 5 (i_icge 30 8) := s_icge dX5_isSound_5 rfl
theorem s_X5_isSound_8 {X : ev_E} {l : Launch} (hG : ev_Good X) (hl : l.stackTraces = false) : ev_Snd X l ev_ms x_X5_isSound tx_X5_isSound 8 (i_al 0 9) := s_aload_n dX5_isSound_8 rfl
theorem s_X5_isSound_9 {X : ev_E} {l : Launch} (hG : ev_Good X) (hl : l.stackTraces = false) : ev_Snd X l ev_ms x_X5_isSound tx_X5_isSound 9 (i_gf X 10 4 12) := s_getfield hG (ci := 10) (r := (RX5, TX5, 7)) rfl cw_10 (k := 4) (Nat.le_of_ble_eq_true rfl) w_221 rfl (Or.inl rfl) dX5_isSound_9
theorem s_X5_isSound_12 {X : ev_E} {l : Launch} (hG : ev_Good X) (hl : l.stackTraces = false) : ev_Snd X l ev_ms x_X5_isSound tx_X5_isSound 12 (i_il 1 13) := s_iload_n dX5_isSound_12 rfl
theorem s_X5_isSound_13 {X : ev_E} {l : Launch} (hG : ev_Good X) (hl : l.stackTraces = false) : ev_Snd X l ev_ms x_X5_isSound tx_X5_isSound 13 (i_al 0 14) := s_aload_n dX5_isSound_13 rfl
theorem s_X5_isSound_14 {X : ev_E} {l : Launch} (hG : ev_Good X) (hl : l.stackTraces = false) : ev_Snd X l ev_ms x_X5_isSound tx_X5_isSound 14 (i_gf X 10 1 17) := s_getfield hG (ci := 10) (r := (RX5, TX5, 7)) rfl cw_10 (k := 1) (Nat.le_of_ble_eq_true rfl) w_218 rfl (Or.inl rfl) dX5_isSound_14
theorem s_X5_isSound_17 {X : ev_E} {l : Launch} (hG : ev_Good X) (hl : l.stackTraces = false) : ev_Snd X l ev_ms x_X5_isSound tx_X5_isSound 17 (i_il 1 18) := s_iload_n dX5_isSound_17 rfl
theorem s_X5_isSound_18 {X : ev_E} {l : Launch} (hG : ev_Good X) (hl : l.stackTraces = false) : ev_Snd X l ev_ms x_X5_isSound tx_X5_isSound 18 (i_psh (.int (1)) 19) := s_iconst dX5_isSound_18 rfl
theorem s_X5_isSound_19 {X : ev_E} {l : Launch} (hG : ev_Good X) (hl : l.stackTraces = false) : ev_Snd X l ev_ms x_X5_isSound tx_X5_isSound 19 (i_ii (fun a b => a + b) 20) := s_iadd dX5_isSound_19
theorem s_X5_isSound_20 {X : ev_E} {l : Launch} (hG : ev_Good X) (hl : l.stackTraces = false) : ev_Snd X l ev_ms x_X5_isSound tx_X5_isSound 20 (i_cV X 90 1 5 7 23) := s_invokevirtual hG (mi := 90) (n := 1) (ci := 5) (r := (RX0, TX0, 6)) rfl (cal_X0_fewestMisses (Nat.le_of_ble_eq_true rfl)) w_626 w_627 w_628 dX5_isSound_20
theorem s_X5_isSound_23 {X : ev_E} {l : Launch} (hG : ev_Good X) (hl : l.stackTraces = false) : ev_Snd X l ev_ms x_X5_isSound tx_X5_isSound 23 (i_ast ev_tI (fun v => v) 24) := s_iastore hG dX5_isSound_23
theorem s_X5_isSound_24 {X : ev_E} {l : Launch} (hG : ev_Good X) (hl : l.stackTraces = false) : ev_Snd X l ev_ms x_X5_isSound tx_X5_isSound 24 (i_inc 1 (1) 27) := s_iinc dX5_isSound_24 rfl (Nat.le_of_ble_eq_true rfl)
theorem s_X5_isSound_27 {X : ev_E} {l : Launch} (hG : ev_Good X) (hl : l.stackTraces = false) : ev_Snd X l ev_ms x_X5_isSound tx_X5_isSound 27 (i_goto 2) := s_goto dX5_isSound_27 rfl
theorem s_X5_isSound_30 {X : ev_E} {l : Launch} (hG : ev_Good X) (hl : l.stackTraces = false) : ev_Snd X l ev_ms x_X5_isSound tx_X5_isSound 30 (i_al 0 31) := s_aload_n dX5_isSound_30 rfl
theorem s_X5_isSound_31 {X : ev_E} {l : Launch} (hG : ev_Good X) (hl : l.stackTraces = false) : ev_Snd X l ev_ms x_X5_isSound tx_X5_isSound 31 (i_cV X 107 0 10 5 34) := s_invokevirtual hG (mi := 107) (n := 0) (ci := 10) (r := (RX5, TX5, 7)) rfl (cal_X5_isNoTableAboveMost (Nat.le_of_ble_eq_true rfl)) w_640 w_642 w_3 dX5_isSound_31
theorem s_X5_isSound_34 {X : ev_E} {l : Launch} (hG : ev_Good X) (hl : l.stackTraces = false) : ev_Snd X l ev_ms x_X5_isSound tx_X5_isSound 34 (i_ifeq 76 37) := s_ifeq dX5_isSound_34 rfl
theorem s_X5_isSound_37 {X : ev_E} {l : Launch} (hG : ev_Good X) (hl : l.stackTraces = false) : ev_Snd X l ev_ms x_X5_isSound tx_X5_isSound 37 (i_al 0 38) := s_aload_n dX5_isSound_37 rfl
theorem s_X5_isSound_38 {X : ev_E} {l : Launch} (hG : ev_Good X) (hl : l.stackTraces = false) : ev_Snd X l ev_ms x_X5_isSound tx_X5_isSound 38 (i_cV X 147 0 10 5 41) := s_invokevirtual hG (mi := 147) (n := 0) (ci := 10) (r := (RX5, TX5, 7)) rfl (cal_X5_areKeepersLastOfStack (Nat.le_of_ble_eq_true rfl)) w_648 w_650 w_4 dX5_isSound_38
theorem s_X5_isSound_41 {X : ev_E} {l : Launch} (hG : ev_Good X) (hl : l.stackTraces = false) : ev_Snd X l ev_ms x_X5_isSound tx_X5_isSound 41 (i_ifeq 76 44) := s_ifeq dX5_isSound_41 rfl
theorem s_X5_isSound_44 {X : ev_E} {l : Launch} (hG : ev_Good X) (hl : l.stackTraces = false) : ev_Snd X l ev_ms x_X5_isSound tx_X5_isSound 44 (i_al 0 45) := s_aload_n dX5_isSound_44 rfl
theorem s_X5_isSound_45 {X : ev_E} {l : Launch} (hG : ev_Good X) (hl : l.stackTraces = false) : ev_Snd X l ev_ms x_X5_isSound tx_X5_isSound 45 (i_cV X 100 0 10 5 48) := s_invokevirtual hG (mi := 100) (n := 0) (ci := 10) (r := (RX5, TX5, 7)) rfl (cal_X5_areMissesByDepth (Nat.le_of_ble_eq_true rfl)) w_657 w_659 w_5 dX5_isSound_45
theorem s_X5_isSound_48 {X : ev_E} {l : Launch} (hG : ev_Good X) (hl : l.stackTraces = false) : ev_Snd X l ev_ms x_X5_isSound tx_X5_isSound 48 (i_ifeq 76 51) := s_ifeq dX5_isSound_48 rfl
theorem s_X5_isSound_51 {X : ev_E} {l : Launch} (hG : ev_Good X) (hl : l.stackTraces = false) : ev_Snd X l ev_ms x_X5_isSound tx_X5_isSound 51 (i_al 0 52) := s_aload_n dX5_isSound_51 rfl
theorem s_X5_isSound_52 {X : ev_E} {l : Launch} (hG : ev_Good X) (hl : l.stackTraces = false) : ev_Snd X l ev_ms x_X5_isSound tx_X5_isSound 52 (i_cV X 46 0 10 2 55) := s_invokevirtual hG (mi := 46) (n := 0) (ci := 10) (r := (RX5, TX5, 7)) rfl (cal_X5_areBestsWithinMisses (Nat.le_of_ble_eq_true rfl)) w_665 w_667 w_6 dX5_isSound_52
theorem s_X5_isSound_55 {X : ev_E} {l : Launch} (hG : ev_Good X) (hl : l.stackTraces = false) : ev_Snd X l ev_ms x_X5_isSound tx_X5_isSound 55 (i_ifeq 76 58) := s_ifeq dX5_isSound_55 rfl
theorem s_X5_isSound_58 {X : ev_E} {l : Launch} (hG : ev_Good X) (hl : l.stackTraces = false) : ev_Snd X l ev_ms x_X5_isSound tx_X5_isSound 58 (i_al 0 59) := s_aload_n dX5_isSound_58 rfl
theorem s_X5_isSound_59 {X : ev_E} {l : Launch} (hG : ev_Good X) (hl : l.stackTraces = false) : ev_Snd X l ev_ms x_X5_isSound tx_X5_isSound 59 (i_cV X 53 0 10 2 62) := s_invokevirtual hG (mi := 53) (n := 0) (ci := 10) (r := (RX5, TX5, 7)) rfl (cal_X5_isNoneGrowingWithSize (Nat.le_of_ble_eq_true rfl)) w_669 w_671 w_7 dX5_isSound_59
theorem s_X5_isSound_62 {X : ev_E} {l : Launch} (hG : ev_Good X) (hl : l.stackTraces = false) : ev_Snd X l ev_ms x_X5_isSound tx_X5_isSound 62 (i_ifeq 76 65) := s_ifeq dX5_isSound_62 rfl
theorem s_X5_isSound_65 {X : ev_E} {l : Launch} (hG : ev_Good X) (hl : l.stackTraces = false) : ev_Snd X l ev_ms x_X5_isSound tx_X5_isSound 65 (i_al 0 66) := s_aload_n dX5_isSound_65 rfl
theorem s_X5_isSound_66 {X : ev_E} {l : Launch} (hG : ev_Good X) (hl : l.stackTraces = false) : ev_Snd X l ev_ms x_X5_isSound tx_X5_isSound 66 (i_cV X 54 0 10 3 69) := s_invokevirtual hG (mi := 54) (n := 0) (ci := 10) (r := (RX5, TX5, 7)) rfl (cal_X5_isTheoremKept (Nat.le_of_ble_eq_true rfl)) w_673 w_675 w_8 dX5_isSound_66
theorem s_X5_isSound_69 {X : ev_E} {l : Launch} (hG : ev_Good X) (hl : l.stackTraces = false) : ev_Snd X l ev_ms x_X5_isSound tx_X5_isSound 69 (i_ifeq 76 72) := s_ifeq dX5_isSound_69 rfl
theorem s_X5_isSound_72 {X : ev_E} {l : Launch} (hG : ev_Good X) (hl : l.stackTraces = false) : ev_Snd X l ev_ms x_X5_isSound tx_X5_isSound 72 (i_psh (.int (1)) 73) := s_iconst dX5_isSound_72 rfl
theorem s_X5_isSound_73 {X : ev_E} {l : Launch} (hG : ev_Good X) (hl : l.stackTraces = false) : ev_Snd X l ev_ms x_X5_isSound tx_X5_isSound 73 (i_goto 77) := s_goto dX5_isSound_73 rfl
theorem s_X5_isSound_76 {X : ev_E} {l : Launch} (hG : ev_Good X) (hl : l.stackTraces = false) : ev_Snd X l ev_ms x_X5_isSound tx_X5_isSound 76 (i_psh (.int (0)) 77) := s_iconst dX5_isSound_76 rfl
theorem s_X5_isSound_77 {X : ev_E} {l : Launch} (hG : ev_Good X) (hl : l.stackTraces = false) : ev_Snd X l ev_ms x_X5_isSound tx_X5_isSound 77 (i_ir (.boolean)) := s_ireturn rfl dX5_isSound_77
theorem sa_X5_isSound {X : ev_E} {l : Launch} (hG : ev_Good X) (hl : l.stackTraces = false) : ∀ q ∈ tb_X5_isSound X, ev_Snd X l ev_ms x_X5_isSound tx_X5_isSound q.1 q.2 := by
  intro q hq
  unfold tb_X5_isSound at hq
  simp only [List.mem_cons, List.not_mem_nil, or_false] at hq
  rcases hq with rfl | rfl | rfl | rfl | rfl | rfl | rfl | rfl | rfl | rfl | rfl | rfl | rfl | rfl | rfl | rfl | rfl | rfl | rfl | rfl | rfl | rfl | rfl | rfl | rfl | rfl | rfl | rfl | rfl | rfl | rfl | rfl | rfl | rfl | rfl | rfl | rfl | rfl | rfl
  · exact s_X5_isSound_0 hG hl
  · exact s_X5_isSound_1 hG hl
  · exact s_X5_isSound_2 hG hl
  · exact s_X5_isSound_3 hG hl
  · exact s_X5_isSound_5 hG hl
  · exact s_X5_isSound_8 hG hl
  · exact s_X5_isSound_9 hG hl
  · exact s_X5_isSound_12 hG hl
  · exact s_X5_isSound_13 hG hl
  · exact s_X5_isSound_14 hG hl
  · exact s_X5_isSound_17 hG hl
  · exact s_X5_isSound_18 hG hl
  · exact s_X5_isSound_19 hG hl
  · exact s_X5_isSound_20 hG hl
  · exact s_X5_isSound_23 hG hl
  · exact s_X5_isSound_24 hG hl
  · exact s_X5_isSound_27 hG hl
  · exact s_X5_isSound_30 hG hl
  · exact s_X5_isSound_31 hG hl
  · exact s_X5_isSound_34 hG hl
  · exact s_X5_isSound_37 hG hl
  · exact s_X5_isSound_38 hG hl
  · exact s_X5_isSound_41 hG hl
  · exact s_X5_isSound_44 hG hl
  · exact s_X5_isSound_45 hG hl
  · exact s_X5_isSound_48 hG hl
  · exact s_X5_isSound_51 hG hl
  · exact s_X5_isSound_52 hG hl
  · exact s_X5_isSound_55 hG hl
  · exact s_X5_isSound_58 hG hl
  · exact s_X5_isSound_59 hG hl
  · exact s_X5_isSound_62 hG hl
  · exact s_X5_isSound_65 hG hl
  · exact s_X5_isSound_66 hG hl
  · exact s_X5_isSound_69 hG hl
  · exact s_X5_isSound_72 hG hl
  · exact s_X5_isSound_73 hG hl
  · exact s_X5_isSound_76 hG hl
  · exact s_X5_isSound_77 hG hl
def tx_X5_mixedWithKeeper : ev_X := fun _ _ => some none
noncomputable def tb_X5_mixedWithKeeper (X : ev_E) : List (Nat × (ev_S → ev_N)) := [(0, i_ll 1 1), (1, i_ls 4 3), (3, i_ll 4 5), (5, i_al 0 6), (6, i_il 3 7), (7, i_cV X 159 1 10 2 10), (10, i_cS 56 2 3 13), (13, i_ls 4 15), (15, i_ll 4 17), (17, i_al 0 18), (18, i_il 3 19), (19, i_cV X 148 1 10 2 22), (22, i_cS 56 2 3 25), (25, i_ls 4 27), (27, i_ll 4 29), (29, i_al 0 30), (30, i_il 3 31), (31, i_cV X 157 1 10 2 34), (34, i_cS 56 2 3 37), (37, i_ls 4 39), (39, i_psh (.int (0)) 40), (40, i_is 6 42), (42, i_il 6 44), (44, i_psh (.int (20)) 46), (46, i_icge 69 49), (49, i_ll 4 51), (51, i_al 0 52), (52, i_il 3 53), (53, i_il 6 55), (55, i_cV X 162 2 10 4 58), (58, i_cS 56 2 3 61), (61, i_ls 4 63), (63, i_inc 6 (1) 66), (66, i_goto 42), (69, i_ll 4 71), (71, i_lr)]
theorem s_X5_mixedWithKeeper_0 {X : ev_E} {l : Launch} (hG : ev_Good X) (hl : l.stackTraces = false) : ev_Snd X l ev_ms x_X5_mixedWithKeeper tx_X5_mixedWithKeeper 0 (i_ll 1 1) := s_lload_n dX5_mixedWithKeeper_0 rfl
theorem s_X5_mixedWithKeeper_1 {X : ev_E} {l : Launch} (hG : ev_Good X) (hl : l.stackTraces = false) : ev_Snd X l ev_ms x_X5_mixedWithKeeper tx_X5_mixedWithKeeper 1 (i_ls 4 3) := s_lstore dX5_mixedWithKeeper_1 (Nat.le_of_ble_eq_true rfl)
theorem s_X5_mixedWithKeeper_3 {X : ev_E} {l : Launch} (hG : ev_Good X) (hl : l.stackTraces = false) : ev_Snd X l ev_ms x_X5_mixedWithKeeper tx_X5_mixedWithKeeper 3 (i_ll 4 5) := s_lload dX5_mixedWithKeeper_3
theorem s_X5_mixedWithKeeper_5 {X : ev_E} {l : Launch} (hG : ev_Good X) (hl : l.stackTraces = false) : ev_Snd X l ev_ms x_X5_mixedWithKeeper tx_X5_mixedWithKeeper 5 (i_al 0 6) := s_aload_n dX5_mixedWithKeeper_5 rfl
theorem s_X5_mixedWithKeeper_6 {X : ev_E} {l : Launch} (hG : ev_Good X) (hl : l.stackTraces = false) : ev_Snd X l ev_ms x_X5_mixedWithKeeper tx_X5_mixedWithKeeper 6 (i_il 3 7) := s_iload_n dX5_mixedWithKeeper_6 rfl
theorem s_X5_mixedWithKeeper_7 {X : ev_E} {l : Launch} (hG : ev_Good X) (hl : l.stackTraces = false) : ev_Snd X l ev_ms x_X5_mixedWithKeeper tx_X5_mixedWithKeeper 7 (i_cV X 159 1 10 2 10) := s_invokevirtual hG (mi := 159) (n := 1) (ci := 10) (r := (RX5, TX5, 7)) rfl (cal_X5_misses (Nat.le_of_ble_eq_true rfl)) w_772 w_773 w_774 dX5_mixedWithKeeper_7
theorem s_X5_mixedWithKeeper_10 {X : ev_E} {l : Launch} (hG : ev_Good X) (hl : l.stackTraces = false) : ev_Snd X l ev_ms x_X5_mixedWithKeeper tx_X5_mixedWithKeeper 10 (i_cS 56 2 3 13) := s_invokestatic hG (mi := 56) (n := 2) (cal_X5_mixed (Nat.le_of_ble_eq_true rfl)) w_693 w_694 dX5_mixedWithKeeper_10
theorem s_X5_mixedWithKeeper_13 {X : ev_E} {l : Launch} (hG : ev_Good X) (hl : l.stackTraces = false) : ev_Snd X l ev_ms x_X5_mixedWithKeeper tx_X5_mixedWithKeeper 13 (i_ls 4 15) := s_lstore dX5_mixedWithKeeper_13 (Nat.le_of_ble_eq_true rfl)
theorem s_X5_mixedWithKeeper_15 {X : ev_E} {l : Launch} (hG : ev_Good X) (hl : l.stackTraces = false) : ev_Snd X l ev_ms x_X5_mixedWithKeeper tx_X5_mixedWithKeeper 15 (i_ll 4 17) := s_lload dX5_mixedWithKeeper_15
theorem s_X5_mixedWithKeeper_17 {X : ev_E} {l : Launch} (hG : ev_Good X) (hl : l.stackTraces = false) : ev_Snd X l ev_ms x_X5_mixedWithKeeper tx_X5_mixedWithKeeper 17 (i_al 0 18) := s_aload_n dX5_mixedWithKeeper_17 rfl
theorem s_X5_mixedWithKeeper_18 {X : ev_E} {l : Launch} (hG : ev_Good X) (hl : l.stackTraces = false) : ev_Snd X l ev_ms x_X5_mixedWithKeeper tx_X5_mixedWithKeeper 18 (i_il 3 19) := s_iload_n dX5_mixedWithKeeper_18 rfl
theorem s_X5_mixedWithKeeper_19 {X : ev_E} {l : Launch} (hG : ev_Good X) (hl : l.stackTraces = false) : ev_Snd X l ev_ms x_X5_mixedWithKeeper tx_X5_mixedWithKeeper 19 (i_cV X 148 1 10 2 22) := s_invokevirtual hG (mi := 148) (n := 1) (ci := 10) (r := (RX5, TX5, 7)) rfl (cal_X5_best (Nat.le_of_ble_eq_true rfl)) w_784 w_785 w_786 dX5_mixedWithKeeper_19
theorem s_X5_mixedWithKeeper_22 {X : ev_E} {l : Launch} (hG : ev_Good X) (hl : l.stackTraces = false) : ev_Snd X l ev_ms x_X5_mixedWithKeeper tx_X5_mixedWithKeeper 22 (i_cS 56 2 3 25) := s_invokestatic hG (mi := 56) (n := 2) (cal_X5_mixed (Nat.le_of_ble_eq_true rfl)) w_693 w_694 dX5_mixedWithKeeper_22
theorem s_X5_mixedWithKeeper_25 {X : ev_E} {l : Launch} (hG : ev_Good X) (hl : l.stackTraces = false) : ev_Snd X l ev_ms x_X5_mixedWithKeeper tx_X5_mixedWithKeeper 25 (i_ls 4 27) := s_lstore dX5_mixedWithKeeper_25 (Nat.le_of_ble_eq_true rfl)
theorem s_X5_mixedWithKeeper_27 {X : ev_E} {l : Launch} (hG : ev_Good X) (hl : l.stackTraces = false) : ev_Snd X l ev_ms x_X5_mixedWithKeeper tx_X5_mixedWithKeeper 27 (i_ll 4 29) := s_lload dX5_mixedWithKeeper_27
theorem s_X5_mixedWithKeeper_29 {X : ev_E} {l : Launch} (hG : ev_Good X) (hl : l.stackTraces = false) : ev_Snd X l ev_ms x_X5_mixedWithKeeper tx_X5_mixedWithKeeper 29 (i_al 0 30) := s_aload_n dX5_mixedWithKeeper_29 rfl
theorem s_X5_mixedWithKeeper_30 {X : ev_E} {l : Launch} (hG : ev_Good X) (hl : l.stackTraces = false) : ev_Snd X l ev_ms x_X5_mixedWithKeeper tx_X5_mixedWithKeeper 30 (i_il 3 31) := s_iload_n dX5_mixedWithKeeper_30 rfl
theorem s_X5_mixedWithKeeper_31 {X : ev_E} {l : Launch} (hG : ev_Good X) (hl : l.stackTraces = false) : ev_Snd X l ev_ms x_X5_mixedWithKeeper tx_X5_mixedWithKeeper 31 (i_cV X 157 1 10 2 34) := s_invokevirtual hG (mi := 157) (n := 1) (ci := 10) (r := (RX5, TX5, 7)) rfl (cal_X5_lost (Nat.le_of_ble_eq_true rfl)) w_788 w_789 w_790 dX5_mixedWithKeeper_31
theorem s_X5_mixedWithKeeper_34 {X : ev_E} {l : Launch} (hG : ev_Good X) (hl : l.stackTraces = false) : ev_Snd X l ev_ms x_X5_mixedWithKeeper tx_X5_mixedWithKeeper 34 (i_cS 56 2 3 37) := s_invokestatic hG (mi := 56) (n := 2) (cal_X5_mixed (Nat.le_of_ble_eq_true rfl)) w_693 w_694 dX5_mixedWithKeeper_34
theorem s_X5_mixedWithKeeper_37 {X : ev_E} {l : Launch} (hG : ev_Good X) (hl : l.stackTraces = false) : ev_Snd X l ev_ms x_X5_mixedWithKeeper tx_X5_mixedWithKeeper 37 (i_ls 4 39) := s_lstore dX5_mixedWithKeeper_37 (Nat.le_of_ble_eq_true rfl)
theorem s_X5_mixedWithKeeper_39 {X : ev_E} {l : Launch} (hG : ev_Good X) (hl : l.stackTraces = false) : ev_Snd X l ev_ms x_X5_mixedWithKeeper tx_X5_mixedWithKeeper 39 (i_psh (.int (0)) 40) := s_iconst dX5_mixedWithKeeper_39 rfl
theorem s_X5_mixedWithKeeper_40 {X : ev_E} {l : Launch} (hG : ev_Good X) (hl : l.stackTraces = false) : ev_Snd X l ev_ms x_X5_mixedWithKeeper tx_X5_mixedWithKeeper 40 (i_is 6 42) := s_istore dX5_mixedWithKeeper_40 (Nat.le_of_ble_eq_true rfl)
theorem s_X5_mixedWithKeeper_42 {X : ev_E} {l : Launch} (hG : ev_Good X) (hl : l.stackTraces = false) : ev_Snd X l ev_ms x_X5_mixedWithKeeper tx_X5_mixedWithKeeper 42 (i_il 6 44) := s_iload dX5_mixedWithKeeper_42
theorem s_X5_mixedWithKeeper_44 {X : ev_E} {l : Launch} (hG : ev_Good X) (hl : l.stackTraces = false) : ev_Snd X l ev_ms x_X5_mixedWithKeeper tx_X5_mixedWithKeeper 44 (i_psh (.int (20)) 46) := s_bipush dX5_mixedWithKeeper_44 rfl
theorem s_X5_mixedWithKeeper_46 {X : ev_E} {l : Launch} (hG : ev_Good X) (hl : l.stackTraces = false) : ev_Snd X l ev_ms x_X5_mixedWithKeeper tx_X5_mixedWithKeeper 46 (i_icge 69 49) := s_icge dX5_mixedWithKeeper_46 rfl
theorem s_X5_mixedWithKeeper_49 {X : ev_E} {l : Launch} (hG : ev_Good X) (hl : l.stackTraces = false) : ev_Snd X l ev_ms x_X5_mixedWithKeeper tx_X5_mixedWithKeeper 49 (i_ll 4 51) := s_lload dX5_mixedWithKeeper_49
theorem s_X5_mixedWithKeeper_51 {X : ev_E} {l : Launch} (hG : ev_Good X) (hl : l.stackTraces = false) : ev_Snd X l ev_ms x_X5_mixedWithKeeper tx_X5_mixedWithKeeper 51 (i_al 0 52) := s_aload_n dX5_mixedWithKeeper_51 rfl
theorem s_X5_mixedWithKeeper_52 {X : ev_E} {l : Launch} (hG : ev_Good X) (hl : l.stackTraces = false) : ev_Snd X l ev_ms x_X5_mixedWithKeeper tx_X5_mixedWithKeeper 52 (i_il 3 53) := s_iload_n dX5_mixedWithKeeper_52 rfl
theorem s_X5_mixedWithKeeper_53 {X : ev_E} {l : Launch} (hG : ev_Good X) (hl : l.stackTraces = false) : ev_Snd X l ev_ms x_X5_mixedWithKeeper tx_X5_mixedWithKeeper 53 (i_il 6 55) := s_iload dX5_mixedWithKeeper_53
theorem s_X5_mixedWithKeeper_55 {X : ev_E} {l : Launch} (hG : ev_Good X) (hl : l.stackTraces = false) : ev_Snd X l ev_ms x_X5_mixedWithKeeper tx_X5_mixedWithKeeper 55 (i_cV X 162 2 10 4 58) := s_invokevirtual hG (mi := 162) (n := 2) (ci := 10) (r := (RX5, TX5, 7)) rfl (cal_X5_takenAt (Nat.le_of_ble_eq_true rfl)) w_792 w_793 w_794 dX5_mixedWithKeeper_55
theorem s_X5_mixedWithKeeper_58 {X : ev_E} {l : Launch} (hG : ev_Good X) (hl : l.stackTraces = false) : ev_Snd X l ev_ms x_X5_mixedWithKeeper tx_X5_mixedWithKeeper 58 (i_cS 56 2 3 61) := s_invokestatic hG (mi := 56) (n := 2) (cal_X5_mixed (Nat.le_of_ble_eq_true rfl)) w_693 w_694 dX5_mixedWithKeeper_58
theorem s_X5_mixedWithKeeper_61 {X : ev_E} {l : Launch} (hG : ev_Good X) (hl : l.stackTraces = false) : ev_Snd X l ev_ms x_X5_mixedWithKeeper tx_X5_mixedWithKeeper 61 (i_ls 4 63) := s_lstore dX5_mixedWithKeeper_61 (Nat.le_of_ble_eq_true rfl)
theorem s_X5_mixedWithKeeper_63 {X : ev_E} {l : Launch} (hG : ev_Good X) (hl : l.stackTraces = false) : ev_Snd X l ev_ms x_X5_mixedWithKeeper tx_X5_mixedWithKeeper 63 (i_inc 6 (1) 66) := s_iinc dX5_mixedWithKeeper_63 rfl (Nat.le_of_ble_eq_true rfl)
theorem s_X5_mixedWithKeeper_66 {X : ev_E} {l : Launch} (hG : ev_Good X) (hl : l.stackTraces = false) : ev_Snd X l ev_ms x_X5_mixedWithKeeper tx_X5_mixedWithKeeper 66 (i_goto 42) := s_goto dX5_mixedWithKeeper_66 rfl
theorem s_X5_mixedWithKeeper_69 {X : ev_E} {l : Launch} (hG : ev_Good X) (hl : l.stackTraces = false) : ev_Snd X l ev_ms x_X5_mixedWithKeeper tx_X5_mixedWithKeeper 69 (i_ll 4 71) := s_lload dX5_mixedWithKeeper_69
theorem s_X5_mixedWithKeeper_71 {X : ev_E} {l : Launch} (hG : ev_Good X) (hl : l.stackTraces = false) : ev_Snd X l ev_ms x_X5_mixedWithKeeper tx_X5_mixedWithKeeper 71 (i_lr) := s_lreturn rfl dX5_mixedWithKeeper_71
theorem sa_X5_mixedWithKeeper {X : ev_E} {l : Launch} (hG : ev_Good X) (hl : l.stackTraces = false) : ∀ q ∈ tb_X5_mixedWithKeeper X, ev_Snd X l ev_ms x_X5_mixedWithKeeper tx_X5_mixedWithKeeper q.1 q.2 := by
  intro q hq
  unfold tb_X5_mixedWithKeeper at hq
  simp only [List.mem_cons, List.not_mem_nil, or_false] at hq
  rcases hq with rfl | rfl | rfl | rfl | rfl | rfl | rfl | rfl | rfl | rfl | rfl | rfl | rfl | rfl | rfl | rfl | rfl | rfl | rfl | rfl | rfl | rfl | rfl | rfl | rfl | rfl | rfl | rfl | rfl | rfl | rfl | rfl | rfl | rfl | rfl | rfl
  · exact s_X5_mixedWithKeeper_0 hG hl
  · exact s_X5_mixedWithKeeper_1 hG hl
  · exact s_X5_mixedWithKeeper_3 hG hl
  · exact s_X5_mixedWithKeeper_5 hG hl
  · exact s_X5_mixedWithKeeper_6 hG hl
  · exact s_X5_mixedWithKeeper_7 hG hl
  · exact s_X5_mixedWithKeeper_10 hG hl
  · exact s_X5_mixedWithKeeper_13 hG hl
  · exact s_X5_mixedWithKeeper_15 hG hl
  · exact s_X5_mixedWithKeeper_17 hG hl
  · exact s_X5_mixedWithKeeper_18 hG hl
  · exact s_X5_mixedWithKeeper_19 hG hl
  · exact s_X5_mixedWithKeeper_22 hG hl
  · exact s_X5_mixedWithKeeper_25 hG hl
  · exact s_X5_mixedWithKeeper_27 hG hl
  · exact s_X5_mixedWithKeeper_29 hG hl
  · exact s_X5_mixedWithKeeper_30 hG hl
  · exact s_X5_mixedWithKeeper_31 hG hl
  · exact s_X5_mixedWithKeeper_34 hG hl
  · exact s_X5_mixedWithKeeper_37 hG hl
  · exact s_X5_mixedWithKeeper_39 hG hl
  · exact s_X5_mixedWithKeeper_40 hG hl
  · exact s_X5_mixedWithKeeper_42 hG hl
  · exact s_X5_mixedWithKeeper_44 hG hl
  · exact s_X5_mixedWithKeeper_46 hG hl
  · exact s_X5_mixedWithKeeper_49 hG hl
  · exact s_X5_mixedWithKeeper_51 hG hl
  · exact s_X5_mixedWithKeeper_52 hG hl
  · exact s_X5_mixedWithKeeper_53 hG hl
  · exact s_X5_mixedWithKeeper_55 hG hl
  · exact s_X5_mixedWithKeeper_58 hG hl
  · exact s_X5_mixedWithKeeper_61 hG hl
  · exact s_X5_mixedWithKeeper_63 hG hl
  · exact s_X5_mixedWithKeeper_66 hG hl
  · exact s_X5_mixedWithKeeper_69 hG hl
  · exact s_X5_mixedWithKeeper_71 hG hl
def tx_X5_mixedWithTable : ev_X := fun _ _ => some none
noncomputable def tb_X5_mixedWithTable (X : ev_E) : List (Nat × (ev_S → ev_N)) := [(0, i_ll 1 1), (1, i_ls 4 3), (3, i_psh (.int (0)) 4), (4, i_is 6 6), (6, i_il 6 8), (8, i_psh (.int (4)) 9), (9, i_icgt 32 12), (12, i_ll 4 14), (14, i_al 0 15), (15, i_il 3 16), (16, i_il 6 18), (18, i_cV X 110 2 10 4 21), (21, i_cS 56 2 3 24), (24, i_ls 4 26), (26, i_inc 6 (1) 29), (29, i_goto 6), (32, i_psh (.int (0)) 33), (33, i_is 6 35), (35, i_il 6 37), (37, i_al 0 38), (38, i_il 3 39), (39, i_cV X 112 1 10 2 42), (42, i_icge 65 45), (45, i_ll 4 47), (47, i_al 0 48), (48, i_il 3 49), (49, i_il 6 51), (51, i_cV X 160 2 10 3 54), (54, i_cS 56 2 3 57), (57, i_ls 4 59), (59, i_inc 6 (1) 62), (62, i_goto 35), (65, i_ll 4 67), (67, i_al 0 68), (68, i_il 3 69), (69, i_cV X 151 1 10 2 72), (72, i_ifeq 79 75), (75, i_psh (.int (1)) 76), (76, i_goto 80), (79, i_psh (.int (0)) 80), (80, i_cS 56 2 3 83), (83, i_ls 4 85), (85, i_ll 4 87), (87, i_al 0 88), (88, i_il 3 89), (89, i_cV X 108 1 10 2 92), (92, i_ifeq 99 95), (95, i_psh (.int (1)) 96), (96, i_goto 100), (99, i_psh (.int (0)) 100), (100, i_cS 56 2 3 103), (103, i_lr)]
theorem s_X5_mixedWithTable_0 {X : ev_E} {l : Launch} (hG : ev_Good X) (hl : l.stackTraces = false) : ev_Snd X l ev_ms x_X5_mixedWithTable tx_X5_mixedWithTable 0 (i_ll 1 1) := s_lload_n dX5_mixedWithTable_0 rfl
theorem s_X5_mixedWithTable_1 {X : ev_E} {l : Launch} (hG : ev_Good X) (hl : l.stackTraces = false) : ev_Snd X l ev_ms x_X5_mixedWithTable tx_X5_mixedWithTable 1 (i_ls 4 3) := s_lstore dX5_mixedWithTable_1 (Nat.le_of_ble_eq_true rfl)
theorem s_X5_mixedWithTable_3 {X : ev_E} {l : Launch} (hG : ev_Good X) (hl : l.stackTraces = false) : ev_Snd X l ev_ms x_X5_mixedWithTable tx_X5_mixedWithTable 3 (i_psh (.int (0)) 4) := s_iconst dX5_mixedWithTable_3 rfl
theorem s_X5_mixedWithTable_4 {X : ev_E} {l : Launch} (hG : ev_Good X) (hl : l.stackTraces = false) : ev_Snd X l ev_ms x_X5_mixedWithTable tx_X5_mixedWithTable 4 (i_is 6 6) := s_istore dX5_mixedWithTable_4 (Nat.le_of_ble_eq_true rfl)
theorem s_X5_mixedWithTable_6 {X : ev_E} {l : Launch} (hG : ev_Good X) (hl : l.stackTraces = false) : ev_Snd X l ev_ms x_X5_mixedWithTable tx_X5_mixedWithTable 6 (i_il 6 8) := s_iload dX5_mixedWithTable_6
theorem s_X5_mixedWithTable_8 {X : ev_E} {l : Launch} (hG : ev_Good X) (hl : l.stackTraces = false) : ev_Snd X l ev_ms x_X5_mixedWithTable tx_X5_mixedWithTable 8 (i_psh (.int (4)) 9) := s_iconst dX5_mixedWithTable_8 rfl
theorem s_X5_mixedWithTable_9 {X : ev_E} {l : Launch} (hG : ev_Good X) (hl : l.stackTraces = false) : ev_Snd X l ev_ms x_X5_mixedWithTable tx_X5_mixedWithTable 9 (i_icgt 32 12) := s_icgt dX5_mixedWithTable_9 rfl
theorem s_X5_mixedWithTable_12 {X : ev_E} {l : Launch} (hG : ev_Good X) (hl : l.stackTraces = false) : ev_Snd X l ev_ms x_X5_mixedWithTable tx_X5_mixedWithTable 12 (i_ll 4 14) := s_lload dX5_mixedWithTable_12
theorem s_X5_mixedWithTable_14 {X : ev_E} {l : Launch} (hG : ev_Good X) (hl : l.stackTraces = false) : ev_Snd X l ev_ms x_X5_mixedWithTable tx_X5_mixedWithTable 14 (i_al 0 15) := s_aload_n dX5_mixedWithTable_14 rfl
theorem s_X5_mixedWithTable_15 {X : ev_E} {l : Launch} (hG : ev_Good X) (hl : l.stackTraces = false) : ev_Snd X l ev_ms x_X5_mixedWithTable tx_X5_mixedWithTable 15 (i_il 3 16) := s_iload_n dX5_mixedWithTable_15 rfl
theorem s_X5_mixedWithTable_16 {X : ev_E} {l : Launch} (hG : ev_Good X) (hl : l.stackTraces = false) : ev_Snd X l ev_ms x_X5_mixedWithTable tx_X5_mixedWithTable 16 (i_il 6 18) := s_iload dX5_mixedWithTable_16
theorem s_X5_mixedWithTable_18 {X : ev_E} {l : Launch} (hG : ev_Good X) (hl : l.stackTraces = false) : ev_Snd X l ev_ms x_X5_mixedWithTable tx_X5_mixedWithTable 18 (i_cV X 110 2 10 4 21) := s_invokevirtual hG (mi := 110) (n := 2) (ci := 10) (r := (RX5, TX5, 7)) rfl (cal_X5_ofTable (Nat.le_of_ble_eq_true rfl)) w_701 w_702 w_703 dX5_mixedWithTable_18
theorem s_X5_mixedWithTable_21 {X : ev_E} {l : Launch} (hG : ev_Good X) (hl : l.stackTraces = false) : ev_Snd X l ev_ms x_X5_mixedWithTable tx_X5_mixedWithTable 21 (i_cS 56 2 3 24) := s_invokestatic hG (mi := 56) (n := 2) (cal_X5_mixed (Nat.le_of_ble_eq_true rfl)) w_693 w_694 dX5_mixedWithTable_21
theorem s_X5_mixedWithTable_24 {X : ev_E} {l : Launch} (hG : ev_Good X) (hl : l.stackTraces = false) : ev_Snd X l ev_ms x_X5_mixedWithTable tx_X5_mixedWithTable 24 (i_ls 4 26) := s_lstore dX5_mixedWithTable_24 (Nat.le_of_ble_eq_true rfl)
theorem s_X5_mixedWithTable_26 {X : ev_E} {l : Launch} (hG : ev_Good X) (hl : l.stackTraces = false) : ev_Snd X l ev_ms x_X5_mixedWithTable tx_X5_mixedWithTable 26 (i_inc 6 (1) 29) := s_iinc dX5_mixedWithTable_26 rfl (Nat.le_of_ble_eq_true rfl)
theorem s_X5_mixedWithTable_29 {X : ev_E} {l : Launch} (hG : ev_Good X) (hl : l.stackTraces = false) : ev_Snd X l ev_ms x_X5_mixedWithTable tx_X5_mixedWithTable 29 (i_goto 6) := s_goto dX5_mixedWithTable_29 rfl
theorem s_X5_mixedWithTable_32 {X : ev_E} {l : Launch} (hG : ev_Good X) (hl : l.stackTraces = false) : ev_Snd X l ev_ms x_X5_mixedWithTable tx_X5_mixedWithTable 32 (i_psh (.int (0)) 33) := s_iconst dX5_mixedWithTable_32 rfl
theorem s_X5_mixedWithTable_33 {X : ev_E} {l : Launch} (hG : ev_Good X) (hl : l.stackTraces = false) : ev_Snd X l ev_ms x_X5_mixedWithTable tx_X5_mixedWithTable 33 (i_is 6 35) := s_istore dX5_mixedWithTable_33 (Nat.le_of_ble_eq_true rfl)
theorem s_X5_mixedWithTable_35 {X : ev_E} {l : Launch} (hG : ev_Good X) (hl : l.stackTraces = false) : ev_Snd X l ev_ms x_X5_mixedWithTable tx_X5_mixedWithTable 35 (i_il 6 37) := s_iload dX5_mixedWithTable_35
theorem s_X5_mixedWithTable_37 {X : ev_E} {l : Launch} (hG : ev_Good X) (hl : l.stackTraces = false) : ev_Snd X l ev_ms x_X5_mixedWithTable tx_X5_mixedWithTable 37 (i_al 0 38) := s_aload_n dX5_mixedWithTable_37 rfl
theorem s_X5_mixedWithTable_38 {X : ev_E} {l : Launch} (hG : ev_Good X) (hl : l.stackTraces = false) : ev_Snd X l ev_ms x_X5_mixedWithTable tx_X5_mixedWithTable 38 (i_il 3 39) := s_iload_n dX5_mixedWithTable_38 rfl
theorem s_X5_mixedWithTable_39 {X : ev_E} {l : Launch} (hG : ev_Good X) (hl : l.stackTraces = false) : ev_Snd X l ev_ms x_X5_mixedWithTable tx_X5_mixedWithTable 39 (i_cV X 112 1 10 2 42) := s_invokevirtual hG (mi := 112) (n := 1) (ci := 10) (r := (RX5, TX5, 7)) rfl (cal_X5_size (Nat.le_of_ble_eq_true rfl)) w_729 w_730 w_731 dX5_mixedWithTable_39
theorem s_X5_mixedWithTable_42 {X : ev_E} {l : Launch} (hG : ev_Good X) (hl : l.stackTraces = false) : ev_Snd X l ev_ms x_X5_mixedWithTable tx_X5_mixedWithTable 42 (i_icge 65 45) := s_icge dX5_mixedWithTable_42 rfl
theorem s_X5_mixedWithTable_45 {X : ev_E} {l : Launch} (hG : ev_Good X) (hl : l.stackTraces = false) : ev_Snd X l ev_ms x_X5_mixedWithTable tx_X5_mixedWithTable 45 (i_ll 4 47) := s_lload dX5_mixedWithTable_45
theorem s_X5_mixedWithTable_47 {X : ev_E} {l : Launch} (hG : ev_Good X) (hl : l.stackTraces = false) : ev_Snd X l ev_ms x_X5_mixedWithTable tx_X5_mixedWithTable 47 (i_al 0 48) := s_aload_n dX5_mixedWithTable_47 rfl
theorem s_X5_mixedWithTable_48 {X : ev_E} {l : Launch} (hG : ev_Good X) (hl : l.stackTraces = false) : ev_Snd X l ev_ms x_X5_mixedWithTable tx_X5_mixedWithTable 48 (i_il 3 49) := s_iload_n dX5_mixedWithTable_48 rfl
theorem s_X5_mixedWithTable_49 {X : ev_E} {l : Launch} (hG : ev_Good X) (hl : l.stackTraces = false) : ev_Snd X l ev_ms x_X5_mixedWithTable tx_X5_mixedWithTable 49 (i_il 6 51) := s_iload dX5_mixedWithTable_49
theorem s_X5_mixedWithTable_51 {X : ev_E} {l : Launch} (hG : ev_Good X) (hl : l.stackTraces = false) : ev_Snd X l ev_ms x_X5_mixedWithTable tx_X5_mixedWithTable 51 (i_cV X 160 2 10 3 54) := s_invokevirtual hG (mi := 160) (n := 2) (ci := 10) (r := (RX5, TX5, 7)) rfl (cal_X5_pairAt (Nat.le_of_ble_eq_true rfl)) w_733 w_734 w_735 dX5_mixedWithTable_51
theorem s_X5_mixedWithTable_54 {X : ev_E} {l : Launch} (hG : ev_Good X) (hl : l.stackTraces = false) : ev_Snd X l ev_ms x_X5_mixedWithTable tx_X5_mixedWithTable 54 (i_cS 56 2 3 57) := s_invokestatic hG (mi := 56) (n := 2) (cal_X5_mixed (Nat.le_of_ble_eq_true rfl)) w_693 w_694 dX5_mixedWithTable_54
theorem s_X5_mixedWithTable_57 {X : ev_E} {l : Launch} (hG : ev_Good X) (hl : l.stackTraces = false) : ev_Snd X l ev_ms x_X5_mixedWithTable tx_X5_mixedWithTable 57 (i_ls 4 59) := s_lstore dX5_mixedWithTable_57 (Nat.le_of_ble_eq_true rfl)
theorem s_X5_mixedWithTable_59 {X : ev_E} {l : Launch} (hG : ev_Good X) (hl : l.stackTraces = false) : ev_Snd X l ev_ms x_X5_mixedWithTable tx_X5_mixedWithTable 59 (i_inc 6 (1) 62) := s_iinc dX5_mixedWithTable_59 rfl (Nat.le_of_ble_eq_true rfl)
theorem s_X5_mixedWithTable_62 {X : ev_E} {l : Launch} (hG : ev_Good X) (hl : l.stackTraces = false) : ev_Snd X l ev_ms x_X5_mixedWithTable tx_X5_mixedWithTable 62 (i_goto 35) := s_goto dX5_mixedWithTable_62 rfl
theorem s_X5_mixedWithTable_65 {X : ev_E} {l : Launch} (hG : ev_Good X) (hl : l.stackTraces = false) : ev_Snd X l ev_ms x_X5_mixedWithTable tx_X5_mixedWithTable 65 (i_ll 4 67) := s_lload dX5_mixedWithTable_65
theorem s_X5_mixedWithTable_67 {X : ev_E} {l : Launch} (hG : ev_Good X) (hl : l.stackTraces = false) : ev_Snd X l ev_ms x_X5_mixedWithTable tx_X5_mixedWithTable 67 (i_al 0 68) := s_aload_n dX5_mixedWithTable_67 rfl
theorem s_X5_mixedWithTable_68 {X : ev_E} {l : Launch} (hG : ev_Good X) (hl : l.stackTraces = false) : ev_Snd X l ev_ms x_X5_mixedWithTable tx_X5_mixedWithTable 68 (i_il 3 69) := s_iload_n dX5_mixedWithTable_68 rfl
theorem s_X5_mixedWithTable_69 {X : ev_E} {l : Launch} (hG : ev_Good X) (hl : l.stackTraces = false) : ev_Snd X l ev_ms x_X5_mixedWithTable tx_X5_mixedWithTable 69 (i_cV X 151 1 10 2 72) := s_invokevirtual hG (mi := 151) (n := 1) (ci := 10) (r := (RX5, TX5, 7)) rfl (cal_X5_hasMore (Nat.le_of_ble_eq_true rfl)) w_745 w_746 w_747 dX5_mixedWithTable_69
theorem s_X5_mixedWithTable_72 {X : ev_E} {l : Launch} (hG : ev_Good X) (hl : l.stackTraces = false) : ev_Snd X l ev_ms x_X5_mixedWithTable tx_X5_mixedWithTable 72 (i_ifeq 79 75) := s_ifeq dX5_mixedWithTable_72 rfl
theorem s_X5_mixedWithTable_75 {X : ev_E} {l : Launch} (hG : ev_Good X) (hl : l.stackTraces = false) : ev_Snd X l ev_ms x_X5_mixedWithTable tx_X5_mixedWithTable 75 (i_psh (.int (1)) 76) := s_iconst dX5_mixedWithTable_75 rfl
theorem s_X5_mixedWithTable_76 {X : ev_E} {l : Launch} (hG : ev_Good X) (hl : l.stackTraces = false) : ev_Snd X l ev_ms x_X5_mixedWithTable tx_X5_mixedWithTable 76 (i_goto 80) := s_goto dX5_mixedWithTable_76 rfl
theorem s_X5_mixedWithTable_79 {X : ev_E} {l : Launch} (hG : ev_Good X) (hl : l.stackTraces = false) : ev_Snd X l ev_ms x_X5_mixedWithTable tx_X5_mixedWithTable 79 (i_psh (.int (0)) 80) := s_iconst dX5_mixedWithTable_79 rfl
theorem s_X5_mixedWithTable_80 {X : ev_E} {l : Launch} (hG : ev_Good X) (hl : l.stackTraces = false) : ev_Snd X l ev_ms x_X5_mixedWithTable tx_X5_mixedWithTable 80 (i_cS 56 2 3 83) := s_invokestatic hG (mi := 56) (n := 2) (cal_X5_mixed (Nat.le_of_ble_eq_true rfl)) w_693 w_694 dX5_mixedWithTable_80
theorem s_X5_mixedWithTable_83 {X : ev_E} {l : Launch} (hG : ev_Good X) (hl : l.stackTraces = false) : ev_Snd X l ev_ms x_X5_mixedWithTable tx_X5_mixedWithTable 83 (i_ls 4 85) := s_lstore dX5_mixedWithTable_83 (Nat.le_of_ble_eq_true rfl)
theorem s_X5_mixedWithTable_85 {X : ev_E} {l : Launch} (hG : ev_Good X) (hl : l.stackTraces = false) : ev_Snd X l ev_ms x_X5_mixedWithTable tx_X5_mixedWithTable 85 (i_ll 4 87) := s_lload dX5_mixedWithTable_85
theorem s_X5_mixedWithTable_87 {X : ev_E} {l : Launch} (hG : ev_Good X) (hl : l.stackTraces = false) : ev_Snd X l ev_ms x_X5_mixedWithTable tx_X5_mixedWithTable 87 (i_al 0 88) := s_aload_n dX5_mixedWithTable_87 rfl
theorem s_X5_mixedWithTable_88 {X : ev_E} {l : Launch} (hG : ev_Good X) (hl : l.stackTraces = false) : ev_Snd X l ev_ms x_X5_mixedWithTable tx_X5_mixedWithTable 88 (i_il 3 89) := s_iload_n dX5_mixedWithTable_88 rfl
theorem s_X5_mixedWithTable_89 {X : ev_E} {l : Launch} (hG : ev_Good X) (hl : l.stackTraces = false) : ev_Snd X l ev_ms x_X5_mixedWithTable tx_X5_mixedWithTable 89 (i_cV X 108 1 10 2 92) := s_invokevirtual hG (mi := 108) (n := 1) (ci := 10) (r := (RX5, TX5, 7)) rfl (cal_X5_isStale (Nat.le_of_ble_eq_true rfl)) w_758 w_759 w_760 dX5_mixedWithTable_89
theorem s_X5_mixedWithTable_92 {X : ev_E} {l : Launch} (hG : ev_Good X) (hl : l.stackTraces = false) : ev_Snd X l ev_ms x_X5_mixedWithTable tx_X5_mixedWithTable 92 (i_ifeq 99 95) := s_ifeq dX5_mixedWithTable_92 rfl
theorem s_X5_mixedWithTable_95 {X : ev_E} {l : Launch} (hG : ev_Good X) (hl : l.stackTraces = false) : ev_Snd X l ev_ms x_X5_mixedWithTable tx_X5_mixedWithTable 95 (i_psh (.int (1)) 96) := s_iconst dX5_mixedWithTable_95 rfl
theorem s_X5_mixedWithTable_96 {X : ev_E} {l : Launch} (hG : ev_Good X) (hl : l.stackTraces = false) : ev_Snd X l ev_ms x_X5_mixedWithTable tx_X5_mixedWithTable 96 (i_goto 100) := s_goto dX5_mixedWithTable_96 rfl
theorem s_X5_mixedWithTable_99 {X : ev_E} {l : Launch} (hG : ev_Good X) (hl : l.stackTraces = false) : ev_Snd X l ev_ms x_X5_mixedWithTable tx_X5_mixedWithTable 99 (i_psh (.int (0)) 100) := s_iconst dX5_mixedWithTable_99 rfl
theorem s_X5_mixedWithTable_100 {X : ev_E} {l : Launch} (hG : ev_Good X) (hl : l.stackTraces = false) : ev_Snd X l ev_ms x_X5_mixedWithTable tx_X5_mixedWithTable 100 (i_cS 56 2 3 103) := s_invokestatic hG (mi := 56) (n := 2) (cal_X5_mixed (Nat.le_of_ble_eq_true rfl)) w_693 w_694 dX5_mixedWithTable_100
theorem s_X5_mixedWithTable_103 {X : ev_E} {l : Launch} (hG : ev_Good X) (hl : l.stackTraces = false) : ev_Snd X l ev_ms x_X5_mixedWithTable tx_X5_mixedWithTable 103 (i_lr) := s_lreturn rfl dX5_mixedWithTable_103
theorem sa_X5_mixedWithTable {X : ev_E} {l : Launch} (hG : ev_Good X) (hl : l.stackTraces = false) : ∀ q ∈ tb_X5_mixedWithTable X, ev_Snd X l ev_ms x_X5_mixedWithTable tx_X5_mixedWithTable q.1 q.2 := by
  intro q hq
  unfold tb_X5_mixedWithTable at hq
  simp only [List.mem_cons, List.not_mem_nil, or_false] at hq
  rcases hq with rfl | rfl | rfl | rfl | rfl | rfl | rfl | rfl | rfl | rfl | rfl | rfl | rfl | rfl | rfl | rfl | rfl | rfl | rfl | rfl | rfl | rfl | rfl | rfl | rfl | rfl | rfl | rfl | rfl | rfl | rfl | rfl | rfl | rfl | rfl | rfl | rfl | rfl | rfl | rfl | rfl | rfl | rfl | rfl | rfl | rfl | rfl | rfl | rfl | rfl | rfl | rfl
  · exact s_X5_mixedWithTable_0 hG hl
  · exact s_X5_mixedWithTable_1 hG hl
  · exact s_X5_mixedWithTable_3 hG hl
  · exact s_X5_mixedWithTable_4 hG hl
  · exact s_X5_mixedWithTable_6 hG hl
  · exact s_X5_mixedWithTable_8 hG hl
  · exact s_X5_mixedWithTable_9 hG hl
  · exact s_X5_mixedWithTable_12 hG hl
  · exact s_X5_mixedWithTable_14 hG hl
  · exact s_X5_mixedWithTable_15 hG hl
  · exact s_X5_mixedWithTable_16 hG hl
  · exact s_X5_mixedWithTable_18 hG hl
  · exact s_X5_mixedWithTable_21 hG hl
  · exact s_X5_mixedWithTable_24 hG hl
  · exact s_X5_mixedWithTable_26 hG hl
  · exact s_X5_mixedWithTable_29 hG hl
  · exact s_X5_mixedWithTable_32 hG hl
  · exact s_X5_mixedWithTable_33 hG hl
  · exact s_X5_mixedWithTable_35 hG hl
  · exact s_X5_mixedWithTable_37 hG hl
  · exact s_X5_mixedWithTable_38 hG hl
  · exact s_X5_mixedWithTable_39 hG hl
  · exact s_X5_mixedWithTable_42 hG hl
  · exact s_X5_mixedWithTable_45 hG hl
  · exact s_X5_mixedWithTable_47 hG hl
  · exact s_X5_mixedWithTable_48 hG hl
  · exact s_X5_mixedWithTable_49 hG hl
  · exact s_X5_mixedWithTable_51 hG hl
  · exact s_X5_mixedWithTable_54 hG hl
  · exact s_X5_mixedWithTable_57 hG hl
  · exact s_X5_mixedWithTable_59 hG hl
  · exact s_X5_mixedWithTable_62 hG hl
  · exact s_X5_mixedWithTable_65 hG hl
  · exact s_X5_mixedWithTable_67 hG hl
  · exact s_X5_mixedWithTable_68 hG hl
  · exact s_X5_mixedWithTable_69 hG hl
  · exact s_X5_mixedWithTable_72 hG hl
  · exact s_X5_mixedWithTable_75 hG hl
  · exact s_X5_mixedWithTable_76 hG hl
  · exact s_X5_mixedWithTable_79 hG hl
  · exact s_X5_mixedWithTable_80 hG hl
  · exact s_X5_mixedWithTable_83 hG hl
  · exact s_X5_mixedWithTable_85 hG hl
  · exact s_X5_mixedWithTable_87 hG hl
  · exact s_X5_mixedWithTable_88 hG hl
  · exact s_X5_mixedWithTable_89 hG hl
  · exact s_X5_mixedWithTable_92 hG hl
  · exact s_X5_mixedWithTable_95 hG hl
  · exact s_X5_mixedWithTable_96 hG hl
  · exact s_X5_mixedWithTable_99 hG hl
  · exact s_X5_mixedWithTable_100 hG hl
  · exact s_X5_mixedWithTable_103 hG hl
def tx_X5_remove : ev_X := fun _ _ => some none
noncomputable def tb_X5_remove (X : ev_E) : List (Nat × (ev_S → ev_N)) := [(0, i_al 0 1), (1, i_il 1 2), (2, i_cV X 59 1 10 2 5), (5, i_as 3 6), (6, i_il 2 7), (7, i_cS 48 1 1 10), (10, i_al 3 11), (11, i_gf X 8 1 14), (14, i_cV X 45 0 9 1 17), (17, i_al 3 18), (18, i_gf X 8 0 21), (21, i_il 2 22), (22, i_cV X 142 1 7 4 25), (25, i_ir (.int))]
theorem s_X5_remove_0 {X : ev_E} {l : Launch} (hG : ev_Good X) (hl : l.stackTraces = false) : ev_Snd X l ev_ms x_X5_remove tx_X5_remove 0 (i_al 0 1) := s_aload_n dX5_remove_0 rfl
theorem s_X5_remove_1 {X : ev_E} {l : Launch} (hG : ev_Good X) (hl : l.stackTraces = false) : ev_Snd X l ev_ms x_X5_remove tx_X5_remove 1 (i_il 1 2) := s_iload_n dX5_remove_1 rfl
theorem s_X5_remove_2 {X : ev_E} {l : Launch} (hG : ev_Good X) (hl : l.stackTraces = false) : ev_Snd X l ev_ms x_X5_remove tx_X5_remove 2 (i_cV X 59 1 10 2 5) := s_invokevirtual hG (mi := 59) (n := 1) (ci := 10) (r := (RX5, TX5, 7)) rfl (cal_X5_tableOf (Nat.le_of_ble_eq_true rfl)) w_705 w_707 w_11 dX5_remove_2
theorem s_X5_remove_5 {X : ev_E} {l : Launch} (hG : ev_Good X) (hl : l.stackTraces = false) : ev_Snd X l ev_ms x_X5_remove tx_X5_remove 5 (i_as 3 6) := s_astore_n dX5_remove_5 rfl (Nat.le_of_ble_eq_true rfl)
theorem s_X5_remove_6 {X : ev_E} {l : Launch} (hG : ev_Good X) (hl : l.stackTraces = false) : ev_Snd X l ev_ms x_X5_remove tx_X5_remove 6 (i_il 2 7) := s_iload_n dX5_remove_6 rfl
theorem s_X5_remove_7 {X : ev_E} {l : Launch} (hG : ev_Good X) (hl : l.stackTraces = false) : ev_Snd X l ev_ms x_X5_remove tx_X5_remove 7 (i_cS 48 1 1 10) := s_invokestatic hG (mi := 48) (n := 1) (cal_X5_demandKey (Nat.le_of_ble_eq_true rfl)) w_796 w_797 dX5_remove_7
theorem s_X5_remove_10 {X : ev_E} {l : Launch} (hG : ev_Good X) (hl : l.stackTraces = false) : ev_Snd X l ev_ms x_X5_remove tx_X5_remove 10 (i_al 3 11) := s_aload_n dX5_remove_10 rfl
theorem s_X5_remove_11 {X : ev_E} {l : Launch} (hG : ev_Good X) (hl : l.stackTraces = false) : ev_Snd X l ev_ms x_X5_remove tx_X5_remove 11 (i_gf X 8 1 14) := s_getfieldN hG (ci := 8) (r := (RX3, TX3, 2)) rfl cw_8 (k := 1) (Nat.le_of_ble_eq_true rfl) w_191 rfl dX5_remove_11
theorem s_X5_remove_14 {X : ev_E} {l : Launch} (hG : ev_Good X) (hl : l.stackTraces = false) : ev_Snd X l ev_ms x_X5_remove tx_X5_remove 14 (i_cV X 45 0 9 1 17) := s_invokevirtual hG (mi := 45) (n := 0) (ci := 9) (r := (RX4, TX4, 6)) rfl (cal_X4_outdate (Nat.le_of_ble_eq_true rfl)) w_828 w_829 w_830 dX5_remove_14
theorem s_X5_remove_17 {X : ev_E} {l : Launch} (hG : ev_Good X) (hl : l.stackTraces = false) : ev_Snd X l ev_ms x_X5_remove tx_X5_remove 17 (i_al 3 18) := s_aload_n dX5_remove_17 rfl
theorem s_X5_remove_18 {X : ev_E} {l : Launch} (hG : ev_Good X) (hl : l.stackTraces = false) : ev_Snd X l ev_ms x_X5_remove tx_X5_remove 18 (i_gf X 8 0 21) := s_getfieldN hG (ci := 8) (r := (RX3, TX3, 2)) rfl cw_8 (k := 0) (Nat.le_of_ble_eq_true rfl) w_189 rfl dX5_remove_18
theorem s_X5_remove_21 {X : ev_E} {l : Launch} (hG : ev_Good X) (hl : l.stackTraces = false) : ev_Snd X l ev_ms x_X5_remove tx_X5_remove 21 (i_il 2 22) := s_iload_n dX5_remove_21 rfl
theorem s_X5_remove_22 {X : ev_E} {l : Launch} (hG : ev_Good X) (hl : l.stackTraces = false) : ev_Snd X l ev_ms x_X5_remove tx_X5_remove 22 (i_cV X 142 1 7 4 25) := s_invokevirtual hG (mi := 142) (n := 1) (ci := 7) (r := (RX2, TX2, 7)) rfl (cal_X2_dropKey (Nat.le_of_ble_eq_true rfl)) w_923 w_924 w_925 dX5_remove_22
theorem s_X5_remove_25 {X : ev_E} {l : Launch} (hG : ev_Good X) (hl : l.stackTraces = false) : ev_Snd X l ev_ms x_X5_remove tx_X5_remove 25 (i_ir (.int)) := s_ireturn rfl dX5_remove_25
theorem sa_X5_remove {X : ev_E} {l : Launch} (hG : ev_Good X) (hl : l.stackTraces = false) : ∀ q ∈ tb_X5_remove X, ev_Snd X l ev_ms x_X5_remove tx_X5_remove q.1 q.2 := by
  intro q hq
  unfold tb_X5_remove at hq
  simp only [List.mem_cons, List.not_mem_nil, or_false] at hq
  rcases hq with rfl | rfl | rfl | rfl | rfl | rfl | rfl | rfl | rfl | rfl | rfl | rfl | rfl | rfl
  · exact s_X5_remove_0 hG hl
  · exact s_X5_remove_1 hG hl
  · exact s_X5_remove_2 hG hl
  · exact s_X5_remove_5 hG hl
  · exact s_X5_remove_6 hG hl
  · exact s_X5_remove_7 hG hl
  · exact s_X5_remove_10 hG hl
  · exact s_X5_remove_11 hG hl
  · exact s_X5_remove_14 hG hl
  · exact s_X5_remove_17 hG hl
  · exact s_X5_remove_18 hG hl
  · exact s_X5_remove_21 hG hl
  · exact s_X5_remove_22 hG hl
  · exact s_X5_remove_25 hG hl
def tx_X5_step : ev_X := fun _ _ => some none
noncomputable def tb_X5_step (X : ev_E) : List (Nat × (ev_S → ev_N)) := [(0, i_al 0 1), (1, i_il 1 2), (2, i_cV X 59 1 10 2 5), (5, i_as 2 6), (6, i_al 2 7), (7, i_gf X 8 1 10), (10, i_cV X 44 0 9 1 13), (13, i_ifne 21 16), (16, i_al 0 17), (17, i_cV X 58 0 10 1 20), (20, i_ir (.int)), (21, i_al 2 22), (22, i_gf X 8 1 25), (25, i_cV X 99 0 9 1 28), (28, i_ifne 34 31), (31, i_psh (.int (-8)) 33), (33, i_ir (.int)), (34, i_al 2 35), (35, i_gf X 8 1 38), (38, i_cV X 145 0 9 2 41), (41, i_ir (.int))]
theorem s_X5_step_0 {X : ev_E} {l : Launch} (hG : ev_Good X) (hl : l.stackTraces = false) : ev_Snd X l ev_ms x_X5_step tx_X5_step 0 (i_al 0 1) := s_aload_n dX5_step_0 rfl
theorem s_X5_step_1 {X : ev_E} {l : Launch} (hG : ev_Good X) (hl : l.stackTraces = false) : ev_Snd X l ev_ms x_X5_step tx_X5_step 1 (i_il 1 2) := s_iload_n dX5_step_1 rfl
theorem s_X5_step_2 {X : ev_E} {l : Launch} (hG : ev_Good X) (hl : l.stackTraces = false) : ev_Snd X l ev_ms x_X5_step tx_X5_step 2 (i_cV X 59 1 10 2 5) := s_invokevirtual hG (mi := 59) (n := 1) (ci := 10) (r := (RX5, TX5, 7)) rfl (cal_X5_tableOf (Nat.le_of_ble_eq_true rfl)) w_705 w_707 w_11 dX5_step_2
theorem s_X5_step_5 {X : ev_E} {l : Launch} (hG : ev_Good X) (hl : l.stackTraces = false) : ev_Snd X l ev_ms x_X5_step tx_X5_step 5 (i_as 2 6) := s_astore_n dX5_step_5 rfl (Nat.le_of_ble_eq_true rfl)
theorem s_X5_step_6 {X : ev_E} {l : Launch} (hG : ev_Good X) (hl : l.stackTraces = false) : ev_Snd X l ev_ms x_X5_step tx_X5_step 6 (i_al 2 7) := s_aload_n dX5_step_6 rfl
theorem s_X5_step_7 {X : ev_E} {l : Launch} (hG : ev_Good X) (hl : l.stackTraces = false) : ev_Snd X l ev_ms x_X5_step tx_X5_step 7 (i_gf X 8 1 10) := s_getfieldN hG (ci := 8) (r := (RX3, TX3, 2)) rfl cw_8 (k := 1) (Nat.le_of_ble_eq_true rfl) w_191 rfl dX5_step_7
theorem s_X5_step_10 {X : ev_E} {l : Launch} (hG : ev_Good X) (hl : l.stackTraces = false) : ev_Snd X l ev_ms x_X5_step tx_X5_step 10 (i_cV X 44 0 9 1 13) := s_invokevirtual hG (mi := 44) (n := 0) (ci := 9) (r := (RX4, TX4, 6)) rfl (cal_X4_isUsable (Nat.le_of_ble_eq_true rfl)) w_1043 w_754 w_755 dX5_step_10
theorem s_X5_step_13 {X : ev_E} {l : Launch} (hG : ev_Good X) (hl : l.stackTraces = false) : ev_Snd X l ev_ms x_X5_step tx_X5_step 13 (i_ifne 21 16) := s_ifne dX5_step_13 rfl
theorem s_X5_step_16 {X : ev_E} {l : Launch} (hG : ev_Good X) (hl : l.stackTraces = false) : ev_Snd X l ev_ms x_X5_step tx_X5_step 16 (i_al 0 17) := s_aload_n dX5_step_16 rfl
theorem s_X5_step_17 {X : ev_E} {l : Launch} (hG : ev_Good X) (hl : l.stackTraces = false) : ev_Snd X l ev_ms x_X5_step tx_X5_step 17 (i_cV X 58 0 10 1 20) := s_invokevirtual hG (mi := 58) (n := 0) (ci := 10) (r := (RX5, TX5, 7)) rfl (cal_X5_refuse (Nat.le_of_ble_eq_true rfl)) w_943 w_945 w_17 dX5_step_17
theorem s_X5_step_20 {X : ev_E} {l : Launch} (hG : ev_Good X) (hl : l.stackTraces = false) : ev_Snd X l ev_ms x_X5_step tx_X5_step 20 (i_ir (.int)) := s_ireturn rfl dX5_step_20
theorem s_X5_step_21 {X : ev_E} {l : Launch} (hG : ev_Good X) (hl : l.stackTraces = false) : ev_Snd X l ev_ms x_X5_step tx_X5_step 21 (i_al 2 22) := s_aload_n dX5_step_21 rfl
theorem s_X5_step_22 {X : ev_E} {l : Launch} (hG : ev_Good X) (hl : l.stackTraces = false) : ev_Snd X l ev_ms x_X5_step tx_X5_step 22 (i_gf X 8 1 25) := s_getfieldN hG (ci := 8) (r := (RX3, TX3, 2)) rfl cw_8 (k := 1) (Nat.le_of_ble_eq_true rfl) w_191 rfl dX5_step_22
theorem s_X5_step_25 {X : ev_E} {l : Launch} (hG : ev_Good X) (hl : l.stackTraces = false) : ev_Snd X l ev_ms x_X5_step tx_X5_step 25 (i_cV X 99 0 9 1 28) := s_invokevirtual hG (mi := 99) (n := 0) (ci := 9) (r := (RX4, TX4, 6)) rfl (cal_X4_isAnyAhead (Nat.le_of_ble_eq_true rfl)) w_749 w_750 w_751 dX5_step_25
theorem s_X5_step_28 {X : ev_E} {l : Launch} (hG : ev_Good X) (hl : l.stackTraces = false) : ev_Snd X l ev_ms x_X5_step tx_X5_step 28 (i_ifne 34 31) := s_ifne dX5_step_28 rfl
theorem s_X5_step_31 {X : ev_E} {l : Launch} (hG : ev_Good X) (hl : l.stackTraces = false) : ev_Snd X l ev_ms x_X5_step tx_X5_step 31 (i_psh (.int (-8)) 33) := s_bipush dX5_step_31 rfl
theorem s_X5_step_33 {X : ev_E} {l : Launch} (hG : ev_Good X) (hl : l.stackTraces = false) : ev_Snd X l ev_ms x_X5_step tx_X5_step 33 (i_ir (.int)) := s_ireturn rfl dX5_step_33
theorem s_X5_step_34 {X : ev_E} {l : Launch} (hG : ev_Good X) (hl : l.stackTraces = false) : ev_Snd X l ev_ms x_X5_step tx_X5_step 34 (i_al 2 35) := s_aload_n dX5_step_34 rfl
theorem s_X5_step_35 {X : ev_E} {l : Launch} (hG : ev_Good X) (hl : l.stackTraces = false) : ev_Snd X l ev_ms x_X5_step tx_X5_step 35 (i_gf X 8 1 38) := s_getfieldN hG (ci := 8) (r := (RX3, TX3, 2)) rfl cw_8 (k := 1) (Nat.le_of_ble_eq_true rfl) w_191 rfl dX5_step_35
theorem s_X5_step_38 {X : ev_E} {l : Launch} (hG : ev_Good X) (hl : l.stackTraces = false) : ev_Snd X l ev_ms x_X5_step tx_X5_step 38 (i_cV X 145 0 9 2 41) := s_invokevirtual hG (mi := 145) (n := 0) (ci := 9) (r := (RX4, TX4, 6)) rfl (cal_X4_advance (Nat.le_of_ble_eq_true rfl)) w_1044 w_1045 w_1046 dX5_step_38
theorem s_X5_step_41 {X : ev_E} {l : Launch} (hG : ev_Good X) (hl : l.stackTraces = false) : ev_Snd X l ev_ms x_X5_step tx_X5_step 41 (i_ir (.int)) := s_ireturn rfl dX5_step_41
theorem sa_X5_step {X : ev_E} {l : Launch} (hG : ev_Good X) (hl : l.stackTraces = false) : ∀ q ∈ tb_X5_step X, ev_Snd X l ev_ms x_X5_step tx_X5_step q.1 q.2 := by
  intro q hq
  unfold tb_X5_step at hq
  simp only [List.mem_cons, List.not_mem_nil, or_false] at hq
  rcases hq with rfl | rfl | rfl | rfl | rfl | rfl | rfl | rfl | rfl | rfl | rfl | rfl | rfl | rfl | rfl | rfl | rfl | rfl | rfl | rfl | rfl
  · exact s_X5_step_0 hG hl
  · exact s_X5_step_1 hG hl
  · exact s_X5_step_2 hG hl
  · exact s_X5_step_5 hG hl
  · exact s_X5_step_6 hG hl
  · exact s_X5_step_7 hG hl
  · exact s_X5_step_10 hG hl
  · exact s_X5_step_13 hG hl
  · exact s_X5_step_16 hG hl
  · exact s_X5_step_17 hG hl
  · exact s_X5_step_20 hG hl
  · exact s_X5_step_21 hG hl
  · exact s_X5_step_22 hG hl
  · exact s_X5_step_25 hG hl
  · exact s_X5_step_28 hG hl
  · exact s_X5_step_31 hG hl
  · exact s_X5_step_33 hG hl
  · exact s_X5_step_34 hG hl
  · exact s_X5_step_35 hG hl
  · exact s_X5_step_38 hG hl
  · exact s_X5_step_41 hG hl
def tx_X1_meet : ev_X := fun _ _ => some none
noncomputable def tb_X1_meet (X : ev_E) : List (Nat × (ev_S → ev_N)) := [(0, i_al 0 1), (1, i_gf X 6 0 4), (4, i_il 1 5), (5, i_il 2 6), (6, i_cV X 197 2 7 4 9), (9, i_is 3 10), (10, i_il 3 11), (11, i_ifeq 27 14), (14, i_al 0 15), (15, i_dup 16), (16, i_gf X 6 2 19), (19, i_psh (.int (1)) 20), (20, i_ii (fun a b => a + b) 21), (21, i_pf 6 2 (.int) 24), (24, i_goto 37), (27, i_al 0 28), (28, i_dup 29), (29, i_gf X 6 1 32), (32, i_psh (.int (1)) 33), (33, i_ii (fun a b => a + b) 34), (34, i_pf 6 1 (.int) 37), (37, i_il 3 38), (38, i_ir (.boolean))]
theorem s_X1_meet_0 {X : ev_E} {l : Launch} (hG : ev_Good X) (hl : l.stackTraces = false) : ev_Snd X l ev_ms x_X1_meet tx_X1_meet 0 (i_al 0 1) := s_aload_n dX1_meet_0 rfl
theorem s_X1_meet_1 {X : ev_E} {l : Launch} (hG : ev_Good X) (hl : l.stackTraces = false) : ev_Snd X l ev_ms x_X1_meet tx_X1_meet 1 (i_gf X 6 0 4) := s_getfield hG (ci := 6) (r := (RX1, TX1, 3)) rfl cw_6 (k := 0) (Nat.le_of_ble_eq_true rfl) w_204 rfl (Or.inl rfl) dX1_meet_1
theorem s_X1_meet_4 {X : ev_E} {l : Launch} (hG : ev_Good X) (hl : l.stackTraces = false) : ev_Snd X l ev_ms x_X1_meet tx_X1_meet 4 (i_il 1 5) := s_iload_n dX1_meet_4 rfl
theorem s_X1_meet_5 {X : ev_E} {l : Launch} (hG : ev_Good X) (hl : l.stackTraces = false) : ev_Snd X l ev_ms x_X1_meet tx_X1_meet 5 (i_il 2 6) := s_iload_n dX1_meet_5 rfl
theorem s_X1_meet_6 {X : ev_E} {l : Launch} (hG : ev_Good X) (hl : l.stackTraces = false) : ev_Snd X l ev_ms x_X1_meet tx_X1_meet 6 (i_cV X 197 2 7 4 9) := s_invokevirtual hG (mi := 197) (n := 2) (ci := 7) (r := (RX2, TX2, 7)) rfl (cal_X2_fetchOrTakeIn (Nat.le_of_ble_eq_true rfl)) w_1117 w_1118 w_1119 dX1_meet_6
theorem s_X1_meet_9 {X : ev_E} {l : Launch} (hG : ev_Good X) (hl : l.stackTraces = false) : ev_Snd X l ev_ms x_X1_meet tx_X1_meet 9 (i_is 3 10) := s_istore_n dX1_meet_9 rfl (Nat.le_of_ble_eq_true rfl)
theorem s_X1_meet_10 {X : ev_E} {l : Launch} (hG : ev_Good X) (hl : l.stackTraces = false) : ev_Snd X l ev_ms x_X1_meet tx_X1_meet 10 (i_il 3 11) := s_iload_n dX1_meet_10 rfl
theorem s_X1_meet_11 {X : ev_E} {l : Launch} (hG : ev_Good X) (hl : l.stackTraces = false) : ev_Snd X l ev_ms x_X1_meet tx_X1_meet 11 (i_ifeq 27 14) := s_ifeq dX1_meet_11 rfl
theorem s_X1_meet_14 {X : ev_E} {l : Launch} (hG : ev_Good X) (hl : l.stackTraces = false) : ev_Snd X l ev_ms x_X1_meet tx_X1_meet 14 (i_al 0 15) := s_aload_n dX1_meet_14 rfl
theorem s_X1_meet_15 {X : ev_E} {l : Launch} (hG : ev_Good X) (hl : l.stackTraces = false) : ev_Snd X l ev_ms x_X1_meet tx_X1_meet 15 (i_dup 16) := s_dup dX1_meet_15
theorem s_X1_meet_16 {X : ev_E} {l : Launch} (hG : ev_Good X) (hl : l.stackTraces = false) : ev_Snd X l ev_ms x_X1_meet tx_X1_meet 16 (i_gf X 6 2 19) := s_getfield hG (ci := 6) (r := (RX1, TX1, 3)) rfl cw_6 (k := 2) (Nat.le_of_ble_eq_true rfl) w_208 rfl (Or.inl rfl) dX1_meet_16
theorem s_X1_meet_19 {X : ev_E} {l : Launch} (hG : ev_Good X) (hl : l.stackTraces = false) : ev_Snd X l ev_ms x_X1_meet tx_X1_meet 19 (i_psh (.int (1)) 20) := s_iconst dX1_meet_19 rfl
theorem s_X1_meet_20 {X : ev_E} {l : Launch} (hG : ev_Good X) (hl : l.stackTraces = false) : ev_Snd X l ev_ms x_X1_meet tx_X1_meet 20 (i_ii (fun a b => a + b) 21) := s_iadd dX1_meet_20
theorem s_X1_meet_21 {X : ev_E} {l : Launch} (hG : ev_Good X) (hl : l.stackTraces = false) : ev_Snd X l ev_ms x_X1_meet tx_X1_meet 21 (i_pf 6 2 (.int) 24) := s_putfield hG (ci := 6) (r := (RX1, TX1, 3)) rfl cw_6 ap_6 (k := 2) (Nat.le_of_ble_eq_true rfl) rfl (by decide +kernel) w_208 rfl (Or.inl rfl) dX1_meet_21
theorem s_X1_meet_24 {X : ev_E} {l : Launch} (hG : ev_Good X) (hl : l.stackTraces = false) : ev_Snd X l ev_ms x_X1_meet tx_X1_meet 24 (i_goto 37) := s_goto dX1_meet_24 rfl
theorem s_X1_meet_27 {X : ev_E} {l : Launch} (hG : ev_Good X) (hl : l.stackTraces = false) : ev_Snd X l ev_ms x_X1_meet tx_X1_meet 27 (i_al 0 28) := s_aload_n dX1_meet_27 rfl
theorem s_X1_meet_28 {X : ev_E} {l : Launch} (hG : ev_Good X) (hl : l.stackTraces = false) : ev_Snd X l ev_ms x_X1_meet tx_X1_meet 28 (i_dup 29) := s_dup dX1_meet_28
theorem s_X1_meet_29 {X : ev_E} {l : Launch} (hG : ev_Good X) (hl : l.stackTraces = false) : ev_Snd X l ev_ms x_X1_meet tx_X1_meet 29 (i_gf X 6 1 32) := s_getfield hG (ci := 6) (r := (RX1, TX1, 3)) rfl cw_6 (k := 1) (Nat.le_of_ble_eq_true rfl) w_206 rfl (Or.inl rfl) dX1_meet_29
theorem s_X1_meet_32 {X : ev_E} {l : Launch} (hG : ev_Good X) (hl : l.stackTraces = false) : ev_Snd X l ev_ms x_X1_meet tx_X1_meet 32 (i_psh (.int (1)) 33) := s_iconst dX1_meet_32 rfl
theorem s_X1_meet_33 {X : ev_E} {l : Launch} (hG : ev_Good X) (hl : l.stackTraces = false) : ev_Snd X l ev_ms x_X1_meet tx_X1_meet 33 (i_ii (fun a b => a + b) 34) := s_iadd dX1_meet_33
theorem s_X1_meet_34 {X : ev_E} {l : Launch} (hG : ev_Good X) (hl : l.stackTraces = false) : ev_Snd X l ev_ms x_X1_meet tx_X1_meet 34 (i_pf 6 1 (.int) 37) := s_putfield hG (ci := 6) (r := (RX1, TX1, 3)) rfl cw_6 ap_6 (k := 1) (Nat.le_of_ble_eq_true rfl) rfl (by decide +kernel) w_206 rfl (Or.inl rfl) dX1_meet_34
theorem s_X1_meet_37 {X : ev_E} {l : Launch} (hG : ev_Good X) (hl : l.stackTraces = false) : ev_Snd X l ev_ms x_X1_meet tx_X1_meet 37 (i_il 3 38) := s_iload_n dX1_meet_37 rfl
theorem s_X1_meet_38 {X : ev_E} {l : Launch} (hG : ev_Good X) (hl : l.stackTraces = false) : ev_Snd X l ev_ms x_X1_meet tx_X1_meet 38 (i_ir (.boolean)) := s_ireturn rfl dX1_meet_38
theorem sa_X1_meet {X : ev_E} {l : Launch} (hG : ev_Good X) (hl : l.stackTraces = false) : ∀ q ∈ tb_X1_meet X, ev_Snd X l ev_ms x_X1_meet tx_X1_meet q.1 q.2 := by
  intro q hq
  unfold tb_X1_meet at hq
  simp only [List.mem_cons, List.not_mem_nil, or_false] at hq
  rcases hq with rfl | rfl | rfl | rfl | rfl | rfl | rfl | rfl | rfl | rfl | rfl | rfl | rfl | rfl | rfl | rfl | rfl | rfl | rfl | rfl | rfl | rfl | rfl
  · exact s_X1_meet_0 hG hl
  · exact s_X1_meet_1 hG hl
  · exact s_X1_meet_4 hG hl
  · exact s_X1_meet_5 hG hl
  · exact s_X1_meet_6 hG hl
  · exact s_X1_meet_9 hG hl
  · exact s_X1_meet_10 hG hl
  · exact s_X1_meet_11 hG hl
  · exact s_X1_meet_14 hG hl
  · exact s_X1_meet_15 hG hl
  · exact s_X1_meet_16 hG hl
  · exact s_X1_meet_19 hG hl
  · exact s_X1_meet_20 hG hl
  · exact s_X1_meet_21 hG hl
  · exact s_X1_meet_24 hG hl
  · exact s_X1_meet_27 hG hl
  · exact s_X1_meet_28 hG hl
  · exact s_X1_meet_29 hG hl
  · exact s_X1_meet_32 hG hl
  · exact s_X1_meet_33 hG hl
  · exact s_X1_meet_34 hG hl
  · exact s_X1_meet_37 hG hl
  · exact s_X1_meet_38 hG hl
def tx_X2_bringIfAbsent : ev_X := fun _ _ => some none
noncomputable def tb_X2_bringIfAbsent (X : ev_E) : List (Nat × (ev_S → ev_N)) := [(0, i_al 0 1), (1, i_il 1 2), (2, i_cV X 36 1 7 3 5), (5, i_psh (.int (-1)) 6), (6, i_icne 17 9), (9, i_al 0 10), (10, i_il 1 11), (11, i_il 2 12), (12, i_cV X 144 2 7 3 15), (15, i_psh (.int (-1)) 16), (16, i_ir (.int)), (17, i_al 0 18), (18, i_il 1 19), (19, i_psh (.int (-1)) 20), (20, i_cV X 196 2 7 5 23), (23, i_ir (.int))]
theorem s_X2_bringIfAbsent_0 {X : ev_E} {l : Launch} (hG : ev_Good X) (hl : l.stackTraces = false) : ev_Snd X l ev_ms x_X2_bringIfAbsent tx_X2_bringIfAbsent 0 (i_al 0 1) := s_aload_n dX2_bringIfAbsent_0 rfl
theorem s_X2_bringIfAbsent_1 {X : ev_E} {l : Launch} (hG : ev_Good X) (hl : l.stackTraces = false) : ev_Snd X l ev_ms x_X2_bringIfAbsent tx_X2_bringIfAbsent 1 (i_il 1 2) := s_iload_n dX2_bringIfAbsent_1 rfl
theorem s_X2_bringIfAbsent_2 {X : ev_E} {l : Launch} (hG : ev_Good X) (hl : l.stackTraces = false) : ev_Snd X l ev_ms x_X2_bringIfAbsent tx_X2_bringIfAbsent 2 (i_cV X 36 1 7 3 5) := s_invokevirtual hG (mi := 36) (n := 1) (ci := 7) (r := (RX2, TX2, 7)) rfl (cal_X2_find (Nat.le_of_ble_eq_true rfl)) w_847 w_801 w_802 dX2_bringIfAbsent_2
theorem s_X2_bringIfAbsent_5 {X : ev_E} {l : Launch} (hG : ev_Good X) (hl : l.stackTraces = false) : ev_Snd X l ev_ms x_X2_bringIfAbsent tx_X2_bringIfAbsent 5 (i_psh (.int (-1)) 6) := s_iconst dX2_bringIfAbsent_5 rfl
theorem s_X2_bringIfAbsent_6 {X : ev_E} {l : Launch} (hG : ev_Good X) (hl : l.stackTraces = false) : ev_Snd X l ev_ms x_X2_bringIfAbsent tx_X2_bringIfAbsent 6 (i_icne 17 9) := s_icne dX2_bringIfAbsent_6 rfl
theorem s_X2_bringIfAbsent_9 {X : ev_E} {l : Launch} (hG : ev_Good X) (hl : l.stackTraces = false) : ev_Snd X l ev_ms x_X2_bringIfAbsent tx_X2_bringIfAbsent 9 (i_al 0 10) := s_aload_n dX2_bringIfAbsent_9 rfl
theorem s_X2_bringIfAbsent_10 {X : ev_E} {l : Launch} (hG : ev_Good X) (hl : l.stackTraces = false) : ev_Snd X l ev_ms x_X2_bringIfAbsent tx_X2_bringIfAbsent 10 (i_il 1 11) := s_iload_n dX2_bringIfAbsent_10 rfl
theorem s_X2_bringIfAbsent_11 {X : ev_E} {l : Launch} (hG : ev_Good X) (hl : l.stackTraces = false) : ev_Snd X l ev_ms x_X2_bringIfAbsent tx_X2_bringIfAbsent 11 (i_il 2 12) := s_iload_n dX2_bringIfAbsent_11 rfl
theorem s_X2_bringIfAbsent_12 {X : ev_E} {l : Launch} (hG : ev_Good X) (hl : l.stackTraces = false) : ev_Snd X l ev_ms x_X2_bringIfAbsent tx_X2_bringIfAbsent 12 (i_cV X 144 2 7 3 15) := s_invokevirtual hG (mi := 144) (n := 2) (ci := 7) (r := (RX2, TX2, 7)) rfl (cal_X2_takeIn (Nat.le_of_ble_eq_true rfl)) w_848 w_850 w_14 dX2_bringIfAbsent_12
theorem s_X2_bringIfAbsent_15 {X : ev_E} {l : Launch} (hG : ev_Good X) (hl : l.stackTraces = false) : ev_Snd X l ev_ms x_X2_bringIfAbsent tx_X2_bringIfAbsent 15 (i_psh (.int (-1)) 16) := s_iconst dX2_bringIfAbsent_15 rfl
theorem s_X2_bringIfAbsent_16 {X : ev_E} {l : Launch} (hG : ev_Good X) (hl : l.stackTraces = false) : ev_Snd X l ev_ms x_X2_bringIfAbsent tx_X2_bringIfAbsent 16 (i_ir (.int)) := s_ireturn rfl dX2_bringIfAbsent_16
theorem s_X2_bringIfAbsent_17 {X : ev_E} {l : Launch} (hG : ev_Good X) (hl : l.stackTraces = false) : ev_Snd X l ev_ms x_X2_bringIfAbsent tx_X2_bringIfAbsent 17 (i_al 0 18) := s_aload_n dX2_bringIfAbsent_17 rfl
theorem s_X2_bringIfAbsent_18 {X : ev_E} {l : Launch} (hG : ev_Good X) (hl : l.stackTraces = false) : ev_Snd X l ev_ms x_X2_bringIfAbsent tx_X2_bringIfAbsent 18 (i_il 1 19) := s_iload_n dX2_bringIfAbsent_18 rfl
theorem s_X2_bringIfAbsent_19 {X : ev_E} {l : Launch} (hG : ev_Good X) (hl : l.stackTraces = false) : ev_Snd X l ev_ms x_X2_bringIfAbsent tx_X2_bringIfAbsent 19 (i_psh (.int (-1)) 20) := s_iconst dX2_bringIfAbsent_19 rfl
theorem s_X2_bringIfAbsent_20 {X : ev_E} {l : Launch} (hG : ev_Good X) (hl : l.stackTraces = false) : ev_Snd X l ev_ms x_X2_bringIfAbsent tx_X2_bringIfAbsent 20 (i_cV X 196 2 7 5 23) := s_invokevirtual hG (mi := 196) (n := 2) (ci := 7) (r := (RX2, TX2, 7)) rfl (cal_X2_fetch (Nat.le_of_ble_eq_true rfl)) w_897 w_898 w_899 dX2_bringIfAbsent_20
theorem s_X2_bringIfAbsent_23 {X : ev_E} {l : Launch} (hG : ev_Good X) (hl : l.stackTraces = false) : ev_Snd X l ev_ms x_X2_bringIfAbsent tx_X2_bringIfAbsent 23 (i_ir (.int)) := s_ireturn rfl dX2_bringIfAbsent_23
theorem sa_X2_bringIfAbsent {X : ev_E} {l : Launch} (hG : ev_Good X) (hl : l.stackTraces = false) : ∀ q ∈ tb_X2_bringIfAbsent X, ev_Snd X l ev_ms x_X2_bringIfAbsent tx_X2_bringIfAbsent q.1 q.2 := by
  intro q hq
  unfold tb_X2_bringIfAbsent at hq
  simp only [List.mem_cons, List.not_mem_nil, or_false] at hq
  rcases hq with rfl | rfl | rfl | rfl | rfl | rfl | rfl | rfl | rfl | rfl | rfl | rfl | rfl | rfl | rfl | rfl
  · exact s_X2_bringIfAbsent_0 hG hl
  · exact s_X2_bringIfAbsent_1 hG hl
  · exact s_X2_bringIfAbsent_2 hG hl
  · exact s_X2_bringIfAbsent_5 hG hl
  · exact s_X2_bringIfAbsent_6 hG hl
  · exact s_X2_bringIfAbsent_9 hG hl
  · exact s_X2_bringIfAbsent_10 hG hl
  · exact s_X2_bringIfAbsent_11 hG hl
  · exact s_X2_bringIfAbsent_12 hG hl
  · exact s_X2_bringIfAbsent_15 hG hl
  · exact s_X2_bringIfAbsent_16 hG hl
  · exact s_X2_bringIfAbsent_17 hG hl
  · exact s_X2_bringIfAbsent_18 hG hl
  · exact s_X2_bringIfAbsent_19 hG hl
  · exact s_X2_bringIfAbsent_20 hG hl
  · exact s_X2_bringIfAbsent_23 hG hl
def tx_X5_digest : ev_X := fun _ _ => some none
noncomputable def tb_X5_digest_c0 (X : ev_E) : List (Nat × (ev_S → ev_N)) := [(0, i_psh (.long 7808) 3), (3, i_ls 1 4), (4, i_psh (.int (0)) 5), (5, i_is 3 6), (6, i_il 3 7), (7, i_psh (.int (4)) 8), (8, i_icgt 27 11), (11, i_ll 1 12), (12, i_al 0 13), (13, i_il 3 14), (14, i_cV X 106 1 10 2 17), (17, i_cS 56 2 3 20), (20, i_ls 1 21), (21, i_inc 3 (1) 24), (24, i_goto 6), (27, i_psh (.int (0)) 28), (28, i_is 3 29), (29, i_il 3 30), (30, i_psh (.int (4)) 31), (31, i_icge 47 34), (34, i_al 0 35), (35, i_ll 1 36), (36, i_il 3 37), (37, i_cV X 204 2 10 7 40), (40, i_ls 1 41), (41, i_inc 3 (1) 44), (44, i_goto 29), (47, i_psh (.int (0)) 48), (48, i_is 3 49), (49, i_il 3 50), (50, i_al 0 51), (51, i_gf X 10 1 54), (54, i_gf X 5 5 57), (57, i_icge 86 60), (60, i_ll 1 61), (61, i_al 0 62), (62, i_il 3 63), (63, i_cV X 101 1 10 2 66), (66, i_cS 56 2 3 69), (69, i_ls 1 70), (70, i_ll 1 71), (71, i_al 0 72), (72, i_il 3 73), (73, i_cV X 103 1 10 2 76), (76, i_cS 56 2 3 79), (79, i_ls 1 80), (80, i_inc 3 (1) 83), (83, i_goto 49), (86, i_psh (.int (0)) 87), (87, i_is 3 88), (88, i_il 3 89), (89, i_al 0 90), (90, i_gf X 10 2 93), (93, i_gf X 7 2 96), (96, i_icge 119 99), (99, i_ll 1 100), (100, i_al 0 101), (101, i_gf X 10 2 104), (104, i_il 3 105), (105, i_psh (.int (0)) 106)]
noncomputable def tb_X5_digest_c1 (X : ev_E) : List (Nat × (ev_S → ev_N)) := [(106, i_cV X 96 2 7 3 109), (109, i_cS 56 2 3 112), (112, i_ls 1 113), (113, i_inc 3 (1) 116), (116, i_goto 88), (119, i_psh (.int (1)) 120), (120, i_is 3 121), (121, i_il 3 122), (122, i_psh (.int (6)) 124), (124, i_icgt 140 127), (127, i_al 0 128), (128, i_ll 1 129), (129, i_il 3 130), (130, i_cV X 203 2 10 7 133), (133, i_ls 1 134), (134, i_inc 3 (1) 137), (137, i_goto 121), (140, i_ll 1 141), (141, i_al 0 142), (142, i_cV X 202 0 10 2 145), (145, i_ifeq 152 148), (148, i_psh (.int (1)) 149), (149, i_goto 153), (152, i_psh (.int (0)) 153), (153, i_cS 56 2 3 156), (156, i_lr)]
noncomputable def tb_X5_digest (X : ev_E) : List (Nat × (ev_S → ev_N)) := tb_X5_digest_c0 X ++ (tb_X5_digest_c1 X)
theorem s_X5_digest_0 {X : ev_E} {l : Launch} (hG : ev_Good X) (hl : l.stackTraces = false) : ev_Snd X l ev_ms x_X5_digest tx_X5_digest 0 (i_psh (.long 7808) 3) := s_ldc2 hG w_681 rfl dX5_digest_0
theorem s_X5_digest_3 {X : ev_E} {l : Launch} (hG : ev_Good X) (hl : l.stackTraces = false) : ev_Snd X l ev_ms x_X5_digest tx_X5_digest 3 (i_ls 1 4) := s_lstore_n dX5_digest_3 rfl (Nat.le_of_ble_eq_true rfl)
theorem s_X5_digest_4 {X : ev_E} {l : Launch} (hG : ev_Good X) (hl : l.stackTraces = false) : ev_Snd X l ev_ms x_X5_digest tx_X5_digest 4 (i_psh (.int (0)) 5) := s_iconst dX5_digest_4 rfl
theorem s_X5_digest_5 {X : ev_E} {l : Launch} (hG : ev_Good X) (hl : l.stackTraces = false) : ev_Snd X l ev_ms x_X5_digest tx_X5_digest 5 (i_is 3 6) := s_istore_n dX5_digest_5 rfl (Nat.le_of_ble_eq_true rfl)
theorem s_X5_digest_6 {X : ev_E} {l : Launch} (hG : ev_Good X) (hl : l.stackTraces = false) : ev_Snd X l ev_ms x_X5_digest tx_X5_digest 6 (i_il 3 7) := s_iload_n dX5_digest_6 rfl
theorem s_X5_digest_7 {X : ev_E} {l : Launch} (hG : ev_Good X) (hl : l.stackTraces = false) : ev_Snd X l ev_ms x_X5_digest tx_X5_digest 7 (i_psh (.int (4)) 8) := s_iconst dX5_digest_7 rfl
theorem s_X5_digest_8 {X : ev_E} {l : Launch} (hG : ev_Good X) (hl : l.stackTraces = false) : ev_Snd X l ev_ms x_X5_digest tx_X5_digest 8 (i_icgt 27 11) := s_icgt dX5_digest_8 rfl
theorem s_X5_digest_11 {X : ev_E} {l : Launch} (hG : ev_Good X) (hl : l.stackTraces = false) : ev_Snd X l ev_ms x_X5_digest tx_X5_digest 11 (i_ll 1 12) := s_lload_n dX5_digest_11 rfl
theorem s_X5_digest_12 {X : ev_E} {l : Launch} (hG : ev_Good X) (hl : l.stackTraces = false) : ev_Snd X l ev_ms x_X5_digest tx_X5_digest 12 (i_al 0 13) := s_aload_n dX5_digest_12 rfl
theorem s_X5_digest_13 {X : ev_E} {l : Launch} (hG : ev_Good X) (hl : l.stackTraces = false) : ev_Snd X l ev_ms x_X5_digest tx_X5_digest 13 (i_il 3 14) := s_iload_n dX5_digest_13 rfl
theorem s_X5_digest_14 {X : ev_E} {l : Launch} (hG : ev_Good X) (hl : l.stackTraces = false) : ev_Snd X l ev_ms x_X5_digest tx_X5_digest 14 (i_cV X 106 1 10 2 17) := s_invokevirtual hG (mi := 106) (n := 1) (ci := 10) (r := (RX5, TX5, 7)) rfl (cal_X5_house (Nat.le_of_ble_eq_true rfl)) w_682 w_683 w_684 dX5_digest_14
theorem s_X5_digest_17 {X : ev_E} {l : Launch} (hG : ev_Good X) (hl : l.stackTraces = false) : ev_Snd X l ev_ms x_X5_digest tx_X5_digest 17 (i_cS 56 2 3 20) := s_invokestatic hG (mi := 56) (n := 2) (cal_X5_mixed (Nat.le_of_ble_eq_true rfl)) w_693 w_694 dX5_digest_17
theorem s_X5_digest_20 {X : ev_E} {l : Launch} (hG : ev_Good X) (hl : l.stackTraces = false) : ev_Snd X l ev_ms x_X5_digest tx_X5_digest 20 (i_ls 1 21) := s_lstore_n dX5_digest_20 rfl (Nat.le_of_ble_eq_true rfl)
theorem s_X5_digest_21 {X : ev_E} {l : Launch} (hG : ev_Good X) (hl : l.stackTraces = false) : ev_Snd X l ev_ms x_X5_digest tx_X5_digest 21 (i_inc 3 (1) 24) := s_iinc dX5_digest_21 rfl (Nat.le_of_ble_eq_true rfl)
theorem s_X5_digest_24 {X : ev_E} {l : Launch} (hG : ev_Good X) (hl : l.stackTraces = false) : ev_Snd X l ev_ms x_X5_digest tx_X5_digest 24 (i_goto 6) := s_goto dX5_digest_24 rfl
theorem s_X5_digest_27 {X : ev_E} {l : Launch} (hG : ev_Good X) (hl : l.stackTraces = false) : ev_Snd X l ev_ms x_X5_digest tx_X5_digest 27 (i_psh (.int (0)) 28) := s_iconst dX5_digest_27 rfl
theorem s_X5_digest_28 {X : ev_E} {l : Launch} (hG : ev_Good X) (hl : l.stackTraces = false) : ev_Snd X l ev_ms x_X5_digest tx_X5_digest 28 (i_is 3 29) := s_istore_n dX5_digest_28 rfl (Nat.le_of_ble_eq_true rfl)
theorem s_X5_digest_29 {X : ev_E} {l : Launch} (hG : ev_Good X) (hl : l.stackTraces = false) : ev_Snd X l ev_ms x_X5_digest tx_X5_digest 29 (i_il 3 30) := s_iload_n dX5_digest_29 rfl
theorem s_X5_digest_30 {X : ev_E} {l : Launch} (hG : ev_Good X) (hl : l.stackTraces = false) : ev_Snd X l ev_ms x_X5_digest tx_X5_digest 30 (i_psh (.int (4)) 31) := s_iconst dX5_digest_30 rfl
theorem s_X5_digest_31 {X : ev_E} {l : Launch} (hG : ev_Good X) (hl : l.stackTraces = false) : ev_Snd X l ev_ms x_X5_digest tx_X5_digest 31 (i_icge 47 34) := s_icge dX5_digest_31 rfl
theorem s_X5_digest_34 {X : ev_E} {l : Launch} (hG : ev_Good X) (hl : l.stackTraces = false) : ev_Snd X l ev_ms x_X5_digest tx_X5_digest 34 (i_al 0 35) := s_aload_n dX5_digest_34 rfl
theorem s_X5_digest_35 {X : ev_E} {l : Launch} (hG : ev_Good X) (hl : l.stackTraces = false) : ev_Snd X l ev_ms x_X5_digest tx_X5_digest 35 (i_ll 1 36) := s_lload_n dX5_digest_35 rfl
theorem s_X5_digest_36 {X : ev_E} {l : Launch} (hG : ev_Good X) (hl : l.stackTraces = false) : ev_Snd X l ev_ms x_X5_digest tx_X5_digest 36 (i_il 3 37) := s_iload_n dX5_digest_36 rfl
theorem s_X5_digest_37 {X : ev_E} {l : Launch} (hG : ev_Good X) (hl : l.stackTraces = false) : ev_Snd X l ev_ms x_X5_digest tx_X5_digest 37 (i_cV X 204 2 10 7 40) := s_invokevirtual hG (mi := 204) (n := 2) (ci := 10) (r := (RX5, TX5, 7)) rfl (cal_X5_mixedWithTable (Nat.le_of_ble_eq_true rfl)) w_697 w_699 w_10 dX5_digest_37
theorem s_X5_digest_40 {X : ev_E} {l : Launch} (hG : ev_Good X) (hl : l.stackTraces = false) : ev_Snd X l ev_ms x_X5_digest tx_X5_digest 40 (i_ls 1 41) := s_lstore_n dX5_digest_40 rfl (Nat.le_of_ble_eq_true rfl)
theorem s_X5_digest_41 {X : ev_E} {l : Launch} (hG : ev_Good X) (hl : l.stackTraces = false) : ev_Snd X l ev_ms x_X5_digest tx_X5_digest 41 (i_inc 3 (1) 44) := s_iinc dX5_digest_41 rfl (Nat.le_of_ble_eq_true rfl)
theorem s_X5_digest_44 {X : ev_E} {l : Launch} (hG : ev_Good X) (hl : l.stackTraces = false) : ev_Snd X l ev_ms x_X5_digest tx_X5_digest 44 (i_goto 29) := s_goto dX5_digest_44 rfl
theorem s_X5_digest_47 {X : ev_E} {l : Launch} (hG : ev_Good X) (hl : l.stackTraces = false) : ev_Snd X l ev_ms x_X5_digest tx_X5_digest 47 (i_psh (.int (0)) 48) := s_iconst dX5_digest_47 rfl
theorem s_X5_digest_48 {X : ev_E} {l : Launch} (hG : ev_Good X) (hl : l.stackTraces = false) : ev_Snd X l ev_ms x_X5_digest tx_X5_digest 48 (i_is 3 49) := s_istore_n dX5_digest_48 rfl (Nat.le_of_ble_eq_true rfl)
theorem s_X5_digest_49 {X : ev_E} {l : Launch} (hG : ev_Good X) (hl : l.stackTraces = false) : ev_Snd X l ev_ms x_X5_digest tx_X5_digest 49 (i_il 3 50) := s_iload_n dX5_digest_49 rfl
theorem s_X5_digest_50 {X : ev_E} {l : Launch} (hG : ev_Good X) (hl : l.stackTraces = false) : ev_Snd X l ev_ms x_X5_digest tx_X5_digest 50 (i_al 0 51) := s_aload_n dX5_digest_50 rfl
theorem s_X5_digest_51 {X : ev_E} {l : Launch} (hG : ev_Good X) (hl : l.stackTraces = false) : ev_Snd X l ev_ms x_X5_digest tx_X5_digest 51 (i_gf X 10 1 54) := s_getfield hG (ci := 10) (r := (RX5, TX5, 7)) rfl cw_10 (k := 1) (Nat.le_of_ble_eq_true rfl) w_218 rfl (Or.inl rfl) dX5_digest_51
theorem s_X5_digest_54 {X : ev_E} {l : Launch} (hG : ev_Good X) (hl : l.stackTraces = false) : ev_Snd X l ev_ms x_X5_digest tx_X5_digest 54 (i_gf X 5 5 57) := s_getfieldN hG (ci := 5) (r := (RX0, TX0, 6)) rfl cw_5 (k := 5) (Nat.le_of_ble_eq_true rfl) w_106 rfl dX5_digest_54
theorem s_X5_digest_57 {X : ev_E} {l : Launch} (hG : ev_Good X) (hl : l.stackTraces = false) : ev_Snd X l ev_ms x_X5_digest tx_X5_digest 57 (i_icge 86 60) := s_icge dX5_digest_57 rfl
theorem s_X5_digest_60 {X : ev_E} {l : Launch} (hG : ev_Good X) (hl : l.stackTraces = false) : ev_Snd X l ev_ms x_X5_digest tx_X5_digest 60 (i_ll 1 61) := s_lload_n dX5_digest_60 rfl
theorem s_X5_digest_61 {X : ev_E} {l : Launch} (hG : ev_Good X) (hl : l.stackTraces = false) : ev_Snd X l ev_ms x_X5_digest tx_X5_digest 61 (i_al 0 62) := s_aload_n dX5_digest_61 rfl
theorem s_X5_digest_62 {X : ev_E} {l : Launch} (hG : ev_Good X) (hl : l.stackTraces = false) : ev_Snd X l ev_ms x_X5_digest tx_X5_digest 62 (i_il 3 63) := s_iload_n dX5_digest_62 rfl
theorem s_X5_digest_63 {X : ev_E} {l : Launch} (hG : ev_Good X) (hl : l.stackTraces = false) : ev_Snd X l ev_ms x_X5_digest tx_X5_digest 63 (i_cV X 101 1 10 2 66) := s_invokevirtual hG (mi := 101) (n := 1) (ci := 10) (r := (RX5, TX5, 7)) rfl (cal_X5_askedAt (Nat.le_of_ble_eq_true rfl)) w_766 w_261 w_262 dX5_digest_63
theorem s_X5_digest_66 {X : ev_E} {l : Launch} (hG : ev_Good X) (hl : l.stackTraces = false) : ev_Snd X l ev_ms x_X5_digest tx_X5_digest 66 (i_cS 56 2 3 69) := s_invokestatic hG (mi := 56) (n := 2) (cal_X5_mixed (Nat.le_of_ble_eq_true rfl)) w_693 w_694 dX5_digest_66
theorem s_X5_digest_69 {X : ev_E} {l : Launch} (hG : ev_Good X) (hl : l.stackTraces = false) : ev_Snd X l ev_ms x_X5_digest tx_X5_digest 69 (i_ls 1 70) := s_lstore_n dX5_digest_69 rfl (Nat.le_of_ble_eq_true rfl)
theorem s_X5_digest_70 {X : ev_E} {l : Launch} (hG : ev_Good X) (hl : l.stackTraces = false) : ev_Snd X l ev_ms x_X5_digest tx_X5_digest 70 (i_ll 1 71) := s_lload_n dX5_digest_70 rfl
theorem s_X5_digest_71 {X : ev_E} {l : Launch} (hG : ev_Good X) (hl : l.stackTraces = false) : ev_Snd X l ev_ms x_X5_digest tx_X5_digest 71 (i_al 0 72) := s_aload_n dX5_digest_71 rfl
theorem s_X5_digest_72 {X : ev_E} {l : Launch} (hG : ev_Good X) (hl : l.stackTraces = false) : ev_Snd X l ev_ms x_X5_digest tx_X5_digest 72 (i_il 3 73) := s_iload_n dX5_digest_72 rfl
theorem s_X5_digest_73 {X : ev_E} {l : Launch} (hG : ev_Good X) (hl : l.stackTraces = false) : ev_Snd X l ev_ms x_X5_digest tx_X5_digest 73 (i_cV X 103 1 10 2 76) := s_invokevirtual hG (mi := 103) (n := 1) (ci := 10) (r := (RX5, TX5, 7)) rfl (cal_X5_depthAt (Nat.le_of_ble_eq_true rfl)) w_767 w_269 w_270 dX5_digest_73
theorem s_X5_digest_76 {X : ev_E} {l : Launch} (hG : ev_Good X) (hl : l.stackTraces = false) : ev_Snd X l ev_ms x_X5_digest tx_X5_digest 76 (i_cS 56 2 3 79) := s_invokestatic hG (mi := 56) (n := 2) (cal_X5_mixed (Nat.le_of_ble_eq_true rfl)) w_693 w_694 dX5_digest_76
theorem s_X5_digest_79 {X : ev_E} {l : Launch} (hG : ev_Good X) (hl : l.stackTraces = false) : ev_Snd X l ev_ms x_X5_digest tx_X5_digest 79 (i_ls 1 80) := s_lstore_n dX5_digest_79 rfl (Nat.le_of_ble_eq_true rfl)
theorem s_X5_digest_80 {X : ev_E} {l : Launch} (hG : ev_Good X) (hl : l.stackTraces = false) : ev_Snd X l ev_ms x_X5_digest tx_X5_digest 80 (i_inc 3 (1) 83) := s_iinc dX5_digest_80 rfl (Nat.le_of_ble_eq_true rfl)
theorem s_X5_digest_83 {X : ev_E} {l : Launch} (hG : ev_Good X) (hl : l.stackTraces = false) : ev_Snd X l ev_ms x_X5_digest tx_X5_digest 83 (i_goto 49) := s_goto dX5_digest_83 rfl
theorem s_X5_digest_86 {X : ev_E} {l : Launch} (hG : ev_Good X) (hl : l.stackTraces = false) : ev_Snd X l ev_ms x_X5_digest tx_X5_digest 86 (i_psh (.int (0)) 87) := s_iconst dX5_digest_86 rfl
theorem s_X5_digest_87 {X : ev_E} {l : Launch} (hG : ev_Good X) (hl : l.stackTraces = false) : ev_Snd X l ev_ms x_X5_digest tx_X5_digest 87 (i_is 3 88) := s_istore_n dX5_digest_87 rfl (Nat.le_of_ble_eq_true rfl)
theorem s_X5_digest_88 {X : ev_E} {l : Launch} (hG : ev_Good X) (hl : l.stackTraces = false) : ev_Snd X l ev_ms x_X5_digest tx_X5_digest 88 (i_il 3 89) := s_iload_n dX5_digest_88 rfl
theorem s_X5_digest_89 {X : ev_E} {l : Launch} (hG : ev_Good X) (hl : l.stackTraces = false) : ev_Snd X l ev_ms x_X5_digest tx_X5_digest 89 (i_al 0 90) := s_aload_n dX5_digest_89 rfl
theorem s_X5_digest_90 {X : ev_E} {l : Launch} (hG : ev_Good X) (hl : l.stackTraces = false) : ev_Snd X l ev_ms x_X5_digest tx_X5_digest 90 (i_gf X 10 2 93) := s_getfield hG (ci := 10) (r := (RX5, TX5, 7)) rfl cw_10 (k := 2) (Nat.le_of_ble_eq_true rfl) w_219 rfl (Or.inl rfl) dX5_digest_90
theorem s_X5_digest_93 {X : ev_E} {l : Launch} (hG : ev_Good X) (hl : l.stackTraces = false) : ev_Snd X l ev_ms x_X5_digest tx_X5_digest 93 (i_gf X 7 2 96) := s_getfieldN hG (ci := 7) (r := (RX2, TX2, 7)) rfl cw_7 (k := 2) (Nat.le_of_ble_eq_true rfl) w_131 rfl dX5_digest_93
theorem s_X5_digest_96 {X : ev_E} {l : Launch} (hG : ev_Good X) (hl : l.stackTraces = false) : ev_Snd X l ev_ms x_X5_digest tx_X5_digest 96 (i_icge 119 99) := s_icge dX5_digest_96 rfl
theorem s_X5_digest_99 {X : ev_E} {l : Launch} (hG : ev_Good X) (hl : l.stackTraces = false) : ev_Snd X l ev_ms x_X5_digest tx_X5_digest 99 (i_ll 1 100) := s_lload_n dX5_digest_99 rfl
theorem s_X5_digest_100 {X : ev_E} {l : Launch} (hG : ev_Good X) (hl : l.stackTraces = false) : ev_Snd X l ev_ms x_X5_digest tx_X5_digest 100 (i_al 0 101) := s_aload_n dX5_digest_100 rfl
theorem s_X5_digest_101 {X : ev_E} {l : Launch} (hG : ev_Good X) (hl : l.stackTraces = false) : ev_Snd X l ev_ms x_X5_digest tx_X5_digest 101 (i_gf X 10 2 104) := s_getfield hG (ci := 10) (r := (RX5, TX5, 7)) rfl cw_10 (k := 2) (Nat.le_of_ble_eq_true rfl) w_219 rfl (Or.inl rfl) dX5_digest_101
theorem s_X5_digest_104 {X : ev_E} {l : Launch} (hG : ev_Good X) (hl : l.stackTraces = false) : ev_Snd X l ev_ms x_X5_digest tx_X5_digest 104 (i_il 3 105) := s_iload_n dX5_digest_104 rfl
theorem s_X5_digest_105 {X : ev_E} {l : Launch} (hG : ev_Good X) (hl : l.stackTraces = false) : ev_Snd X l ev_ms x_X5_digest tx_X5_digest 105 (i_psh (.int (0)) 106) := s_iconst dX5_digest_105 rfl
theorem s_X5_digest_106 {X : ev_E} {l : Launch} (hG : ev_Good X) (hl : l.stackTraces = false) : ev_Snd X l ev_ms x_X5_digest tx_X5_digest 106 (i_cV X 96 2 7 3 109) := s_invokevirtual hG (mi := 96) (n := 2) (ci := 7) (r := (RX2, TX2, 7)) rfl (cal_X2_told (Nat.le_of_ble_eq_true rfl)) w_737 w_738 w_739 dX5_digest_106
theorem s_X5_digest_109 {X : ev_E} {l : Launch} (hG : ev_Good X) (hl : l.stackTraces = false) : ev_Snd X l ev_ms x_X5_digest tx_X5_digest 109 (i_cS 56 2 3 112) := s_invokestatic hG (mi := 56) (n := 2) (cal_X5_mixed (Nat.le_of_ble_eq_true rfl)) w_693 w_694 dX5_digest_109
theorem s_X5_digest_112 {X : ev_E} {l : Launch} (hG : ev_Good X) (hl : l.stackTraces = false) : ev_Snd X l ev_ms x_X5_digest tx_X5_digest 112 (i_ls 1 113) := s_lstore_n dX5_digest_112 rfl (Nat.le_of_ble_eq_true rfl)
theorem s_X5_digest_113 {X : ev_E} {l : Launch} (hG : ev_Good X) (hl : l.stackTraces = false) : ev_Snd X l ev_ms x_X5_digest tx_X5_digest 113 (i_inc 3 (1) 116) := s_iinc dX5_digest_113 rfl (Nat.le_of_ble_eq_true rfl)
theorem s_X5_digest_116 {X : ev_E} {l : Launch} (hG : ev_Good X) (hl : l.stackTraces = false) : ev_Snd X l ev_ms x_X5_digest tx_X5_digest 116 (i_goto 88) := s_goto dX5_digest_116 rfl
theorem s_X5_digest_119 {X : ev_E} {l : Launch} (hG : ev_Good X) (hl : l.stackTraces = false) : ev_Snd X l ev_ms x_X5_digest tx_X5_digest 119 (i_psh (.int (1)) 120) := s_iconst dX5_digest_119 rfl
theorem s_X5_digest_120 {X : ev_E} {l : Launch} (hG : ev_Good X) (hl : l.stackTraces = false) : ev_Snd X l ev_ms x_X5_digest tx_X5_digest 120 (i_is 3 121) := s_istore_n dX5_digest_120 rfl (Nat.le_of_ble_eq_true rfl)
theorem s_X5_digest_121 {X : ev_E} {l : Launch} (hG : ev_Good X) (hl : l.stackTraces = false) : ev_Snd X l ev_ms x_X5_digest tx_X5_digest 121 (i_il 3 122) := s_iload_n dX5_digest_121 rfl
theorem s_X5_digest_122 {X : ev_E} {l : Launch} (hG : ev_Good X) (hl : l.stackTraces = false) : ev_Snd X l ev_ms x_X5_digest tx_X5_digest 122 (i_psh (.int (6)) 124) := s_bipush dX5_digest_122 rfl
theorem s_X5_digest_124 {X : ev_E} {l : Launch} (hG : ev_Good X) (hl : l.stackTraces = false) : ev_Snd X l ev_ms x_X5_digest tx_X5_digest 124 (i_icgt 140 127) := s_icgt dX5_digest_124 rfl
theorem s_X5_digest_127 {X : ev_E} {l : Launch} (hG : ev_Good X) (hl : l.stackTraces = false) : ev_Snd X l ev_ms x_X5_digest tx_X5_digest 127 (i_al 0 128) := s_aload_n dX5_digest_127 rfl
theorem s_X5_digest_128 {X : ev_E} {l : Launch} (hG : ev_Good X) (hl : l.stackTraces = false) : ev_Snd X l ev_ms x_X5_digest tx_X5_digest 128 (i_ll 1 129) := s_lload_n dX5_digest_128 rfl
theorem s_X5_digest_129 {X : ev_E} {l : Launch} (hG : ev_Good X) (hl : l.stackTraces = false) : ev_Snd X l ev_ms x_X5_digest tx_X5_digest 129 (i_il 3 130) := s_iload_n dX5_digest_129 rfl
theorem s_X5_digest_130 {X : ev_E} {l : Launch} (hG : ev_Good X) (hl : l.stackTraces = false) : ev_Snd X l ev_ms x_X5_digest tx_X5_digest 130 (i_cV X 203 2 10 7 133) := s_invokevirtual hG (mi := 203) (n := 2) (ci := 10) (r := (RX5, TX5, 7)) rfl (cal_X5_mixedWithKeeper (Nat.le_of_ble_eq_true rfl)) w_768 w_770 w_12 dX5_digest_130
theorem s_X5_digest_133 {X : ev_E} {l : Launch} (hG : ev_Good X) (hl : l.stackTraces = false) : ev_Snd X l ev_ms x_X5_digest tx_X5_digest 133 (i_ls 1 134) := s_lstore_n dX5_digest_133 rfl (Nat.le_of_ble_eq_true rfl)
theorem s_X5_digest_134 {X : ev_E} {l : Launch} (hG : ev_Good X) (hl : l.stackTraces = false) : ev_Snd X l ev_ms x_X5_digest tx_X5_digest 134 (i_inc 3 (1) 137) := s_iinc dX5_digest_134 rfl (Nat.le_of_ble_eq_true rfl)
theorem s_X5_digest_137 {X : ev_E} {l : Launch} (hG : ev_Good X) (hl : l.stackTraces = false) : ev_Snd X l ev_ms x_X5_digest tx_X5_digest 137 (i_goto 121) := s_goto dX5_digest_137 rfl
theorem s_X5_digest_140 {X : ev_E} {l : Launch} (hG : ev_Good X) (hl : l.stackTraces = false) : ev_Snd X l ev_ms x_X5_digest tx_X5_digest 140 (i_ll 1 141) := s_lload_n dX5_digest_140 rfl
theorem s_X5_digest_141 {X : ev_E} {l : Launch} (hG : ev_Good X) (hl : l.stackTraces = false) : ev_Snd X l ev_ms x_X5_digest tx_X5_digest 141 (i_al 0 142) := s_aload_n dX5_digest_141 rfl
theorem s_X5_digest_142 {X : ev_E} {l : Launch} (hG : ev_Good X) (hl : l.stackTraces = false) : ev_Snd X l ev_ms x_X5_digest tx_X5_digest 142 (i_cV X 202 0 10 2 145) := s_invokevirtual hG (mi := 202) (n := 0) (ci := 10) (r := (RX5, TX5, 7)) rfl (cal_X5_isSound (Nat.le_of_ble_eq_true rfl)) w_804 w_623 w_624 dX5_digest_142
theorem s_X5_digest_145 {X : ev_E} {l : Launch} (hG : ev_Good X) (hl : l.stackTraces = false) : ev_Snd X l ev_ms x_X5_digest tx_X5_digest 145 (i_ifeq 152 148) := s_ifeq dX5_digest_145 rfl
theorem s_X5_digest_148 {X : ev_E} {l : Launch} (hG : ev_Good X) (hl : l.stackTraces = false) : ev_Snd X l ev_ms x_X5_digest tx_X5_digest 148 (i_psh (.int (1)) 149) := s_iconst dX5_digest_148 rfl
theorem s_X5_digest_149 {X : ev_E} {l : Launch} (hG : ev_Good X) (hl : l.stackTraces = false) : ev_Snd X l ev_ms x_X5_digest tx_X5_digest 149 (i_goto 153) := s_goto dX5_digest_149 rfl
theorem s_X5_digest_152 {X : ev_E} {l : Launch} (hG : ev_Good X) (hl : l.stackTraces = false) : ev_Snd X l ev_ms x_X5_digest tx_X5_digest 152 (i_psh (.int (0)) 153) := s_iconst dX5_digest_152 rfl
theorem s_X5_digest_153 {X : ev_E} {l : Launch} (hG : ev_Good X) (hl : l.stackTraces = false) : ev_Snd X l ev_ms x_X5_digest tx_X5_digest 153 (i_cS 56 2 3 156) := s_invokestatic hG (mi := 56) (n := 2) (cal_X5_mixed (Nat.le_of_ble_eq_true rfl)) w_693 w_694 dX5_digest_153
theorem s_X5_digest_156 {X : ev_E} {l : Launch} (hG : ev_Good X) (hl : l.stackTraces = false) : ev_Snd X l ev_ms x_X5_digest tx_X5_digest 156 (i_lr) := s_lreturn rfl dX5_digest_156
theorem sa_X5_digest_c0 {X : ev_E} {l : Launch} (hG : ev_Good X) (hl : l.stackTraces = false) : ∀ q ∈ tb_X5_digest_c0 X, ev_Snd X l ev_ms x_X5_digest tx_X5_digest q.1 q.2 := by
  intro q hq
  unfold tb_X5_digest_c0 at hq
  simp only [List.mem_cons, List.not_mem_nil, or_false] at hq
  rcases hq with rfl | rfl | rfl | rfl | rfl | rfl | rfl | rfl | rfl | rfl | rfl | rfl | rfl | rfl | rfl | rfl | rfl | rfl | rfl | rfl | rfl | rfl | rfl | rfl | rfl | rfl | rfl | rfl | rfl | rfl | rfl | rfl | rfl | rfl | rfl | rfl | rfl | rfl | rfl | rfl | rfl | rfl | rfl | rfl | rfl | rfl | rfl | rfl | rfl | rfl | rfl | rfl | rfl | rfl | rfl | rfl | rfl | rfl | rfl | rfl
  · exact s_X5_digest_0 hG hl
  · exact s_X5_digest_3 hG hl
  · exact s_X5_digest_4 hG hl
  · exact s_X5_digest_5 hG hl
  · exact s_X5_digest_6 hG hl
  · exact s_X5_digest_7 hG hl
  · exact s_X5_digest_8 hG hl
  · exact s_X5_digest_11 hG hl
  · exact s_X5_digest_12 hG hl
  · exact s_X5_digest_13 hG hl
  · exact s_X5_digest_14 hG hl
  · exact s_X5_digest_17 hG hl
  · exact s_X5_digest_20 hG hl
  · exact s_X5_digest_21 hG hl
  · exact s_X5_digest_24 hG hl
  · exact s_X5_digest_27 hG hl
  · exact s_X5_digest_28 hG hl
  · exact s_X5_digest_29 hG hl
  · exact s_X5_digest_30 hG hl
  · exact s_X5_digest_31 hG hl
  · exact s_X5_digest_34 hG hl
  · exact s_X5_digest_35 hG hl
  · exact s_X5_digest_36 hG hl
  · exact s_X5_digest_37 hG hl
  · exact s_X5_digest_40 hG hl
  · exact s_X5_digest_41 hG hl
  · exact s_X5_digest_44 hG hl
  · exact s_X5_digest_47 hG hl
  · exact s_X5_digest_48 hG hl
  · exact s_X5_digest_49 hG hl
  · exact s_X5_digest_50 hG hl
  · exact s_X5_digest_51 hG hl
  · exact s_X5_digest_54 hG hl
  · exact s_X5_digest_57 hG hl
  · exact s_X5_digest_60 hG hl
  · exact s_X5_digest_61 hG hl
  · exact s_X5_digest_62 hG hl
  · exact s_X5_digest_63 hG hl
  · exact s_X5_digest_66 hG hl
  · exact s_X5_digest_69 hG hl
  · exact s_X5_digest_70 hG hl
  · exact s_X5_digest_71 hG hl
  · exact s_X5_digest_72 hG hl
  · exact s_X5_digest_73 hG hl
  · exact s_X5_digest_76 hG hl
  · exact s_X5_digest_79 hG hl
  · exact s_X5_digest_80 hG hl
  · exact s_X5_digest_83 hG hl
  · exact s_X5_digest_86 hG hl
  · exact s_X5_digest_87 hG hl
  · exact s_X5_digest_88 hG hl
  · exact s_X5_digest_89 hG hl
  · exact s_X5_digest_90 hG hl
  · exact s_X5_digest_93 hG hl
  · exact s_X5_digest_96 hG hl
  · exact s_X5_digest_99 hG hl
  · exact s_X5_digest_100 hG hl
  · exact s_X5_digest_101 hG hl
  · exact s_X5_digest_104 hG hl
  · exact s_X5_digest_105 hG hl
theorem sa_X5_digest_c1 {X : ev_E} {l : Launch} (hG : ev_Good X) (hl : l.stackTraces = false) : ∀ q ∈ tb_X5_digest_c1 X, ev_Snd X l ev_ms x_X5_digest tx_X5_digest q.1 q.2 := by
  intro q hq
  unfold tb_X5_digest_c1 at hq
  simp only [List.mem_cons, List.not_mem_nil, or_false] at hq
  rcases hq with rfl | rfl | rfl | rfl | rfl | rfl | rfl | rfl | rfl | rfl | rfl | rfl | rfl | rfl | rfl | rfl | rfl | rfl | rfl | rfl | rfl | rfl | rfl | rfl | rfl | rfl
  · exact s_X5_digest_106 hG hl
  · exact s_X5_digest_109 hG hl
  · exact s_X5_digest_112 hG hl
  · exact s_X5_digest_113 hG hl
  · exact s_X5_digest_116 hG hl
  · exact s_X5_digest_119 hG hl
  · exact s_X5_digest_120 hG hl
  · exact s_X5_digest_121 hG hl
  · exact s_X5_digest_122 hG hl
  · exact s_X5_digest_124 hG hl
  · exact s_X5_digest_127 hG hl
  · exact s_X5_digest_128 hG hl
  · exact s_X5_digest_129 hG hl
  · exact s_X5_digest_130 hG hl
  · exact s_X5_digest_133 hG hl
  · exact s_X5_digest_134 hG hl
  · exact s_X5_digest_137 hG hl
  · exact s_X5_digest_140 hG hl
  · exact s_X5_digest_141 hG hl
  · exact s_X5_digest_142 hG hl
  · exact s_X5_digest_145 hG hl
  · exact s_X5_digest_148 hG hl
  · exact s_X5_digest_149 hG hl
  · exact s_X5_digest_152 hG hl
  · exact s_X5_digest_153 hG hl
  · exact s_X5_digest_156 hG hl
theorem sa_X5_digest {X : ev_E} {l : Launch} (hG : ev_Good X) (hl : l.stackTraces = false) : ∀ q ∈ tb_X5_digest X, ev_Snd X l ev_ms x_X5_digest tx_X5_digest q.1 q.2 := List.forall_mem_append.mpr ⟨sa_X5_digest_c0 hG hl, sa_X5_digest_c1 hG hl⟩
def tx_X5_get : ev_X := fun _ _ => some none
noncomputable def tb_X5_get (X : ev_E) : List (Nat × (ev_S → ev_N)) := [(0, i_al 0 1), (1, i_il 1 2), (2, i_cV X 59 1 10 2 5), (5, i_as 3 6), (6, i_il 2 7), (7, i_cS 48 1 1 10), (10, i_al 3 11), (11, i_gf X 8 1 14), (14, i_cV X 45 0 9 1 17), (17, i_al 3 18), (18, i_gf X 8 0 21), (21, i_il 2 22), (22, i_psh (.int (-1)) 23), (23, i_cV X 196 2 7 5 26), (26, i_ir (.int))]
theorem s_X5_get_0 {X : ev_E} {l : Launch} (hG : ev_Good X) (hl : l.stackTraces = false) : ev_Snd X l ev_ms x_X5_get tx_X5_get 0 (i_al 0 1) := s_aload_n dX5_get_0 rfl
theorem s_X5_get_1 {X : ev_E} {l : Launch} (hG : ev_Good X) (hl : l.stackTraces = false) : ev_Snd X l ev_ms x_X5_get tx_X5_get 1 (i_il 1 2) := s_iload_n dX5_get_1 rfl
theorem s_X5_get_2 {X : ev_E} {l : Launch} (hG : ev_Good X) (hl : l.stackTraces = false) : ev_Snd X l ev_ms x_X5_get tx_X5_get 2 (i_cV X 59 1 10 2 5) := s_invokevirtual hG (mi := 59) (n := 1) (ci := 10) (r := (RX5, TX5, 7)) rfl (cal_X5_tableOf (Nat.le_of_ble_eq_true rfl)) w_705 w_707 w_11 dX5_get_2
theorem s_X5_get_5 {X : ev_E} {l : Launch} (hG : ev_Good X) (hl : l.stackTraces = false) : ev_Snd X l ev_ms x_X5_get tx_X5_get 5 (i_as 3 6) := s_astore_n dX5_get_5 rfl (Nat.le_of_ble_eq_true rfl)
theorem s_X5_get_6 {X : ev_E} {l : Launch} (hG : ev_Good X) (hl : l.stackTraces = false) : ev_Snd X l ev_ms x_X5_get tx_X5_get 6 (i_il 2 7) := s_iload_n dX5_get_6 rfl
theorem s_X5_get_7 {X : ev_E} {l : Launch} (hG : ev_Good X) (hl : l.stackTraces = false) : ev_Snd X l ev_ms x_X5_get tx_X5_get 7 (i_cS 48 1 1 10) := s_invokestatic hG (mi := 48) (n := 1) (cal_X5_demandKey (Nat.le_of_ble_eq_true rfl)) w_796 w_797 dX5_get_7
theorem s_X5_get_10 {X : ev_E} {l : Launch} (hG : ev_Good X) (hl : l.stackTraces = false) : ev_Snd X l ev_ms x_X5_get tx_X5_get 10 (i_al 3 11) := s_aload_n dX5_get_10 rfl
theorem s_X5_get_11 {X : ev_E} {l : Launch} (hG : ev_Good X) (hl : l.stackTraces = false) : ev_Snd X l ev_ms x_X5_get tx_X5_get 11 (i_gf X 8 1 14) := s_getfieldN hG (ci := 8) (r := (RX3, TX3, 2)) rfl cw_8 (k := 1) (Nat.le_of_ble_eq_true rfl) w_191 rfl dX5_get_11
theorem s_X5_get_14 {X : ev_E} {l : Launch} (hG : ev_Good X) (hl : l.stackTraces = false) : ev_Snd X l ev_ms x_X5_get tx_X5_get 14 (i_cV X 45 0 9 1 17) := s_invokevirtual hG (mi := 45) (n := 0) (ci := 9) (r := (RX4, TX4, 6)) rfl (cal_X4_outdate (Nat.le_of_ble_eq_true rfl)) w_828 w_829 w_830 dX5_get_14
theorem s_X5_get_17 {X : ev_E} {l : Launch} (hG : ev_Good X) (hl : l.stackTraces = false) : ev_Snd X l ev_ms x_X5_get tx_X5_get 17 (i_al 3 18) := s_aload_n dX5_get_17 rfl
theorem s_X5_get_18 {X : ev_E} {l : Launch} (hG : ev_Good X) (hl : l.stackTraces = false) : ev_Snd X l ev_ms x_X5_get tx_X5_get 18 (i_gf X 8 0 21) := s_getfieldN hG (ci := 8) (r := (RX3, TX3, 2)) rfl cw_8 (k := 0) (Nat.le_of_ble_eq_true rfl) w_189 rfl dX5_get_18
theorem s_X5_get_21 {X : ev_E} {l : Launch} (hG : ev_Good X) (hl : l.stackTraces = false) : ev_Snd X l ev_ms x_X5_get tx_X5_get 21 (i_il 2 22) := s_iload_n dX5_get_21 rfl
theorem s_X5_get_22 {X : ev_E} {l : Launch} (hG : ev_Good X) (hl : l.stackTraces = false) : ev_Snd X l ev_ms x_X5_get tx_X5_get 22 (i_psh (.int (-1)) 23) := s_iconst dX5_get_22 rfl
theorem s_X5_get_23 {X : ev_E} {l : Launch} (hG : ev_Good X) (hl : l.stackTraces = false) : ev_Snd X l ev_ms x_X5_get tx_X5_get 23 (i_cV X 196 2 7 5 26) := s_invokevirtual hG (mi := 196) (n := 2) (ci := 7) (r := (RX2, TX2, 7)) rfl (cal_X2_fetch (Nat.le_of_ble_eq_true rfl)) w_908 w_898 w_899 dX5_get_23
theorem s_X5_get_26 {X : ev_E} {l : Launch} (hG : ev_Good X) (hl : l.stackTraces = false) : ev_Snd X l ev_ms x_X5_get tx_X5_get 26 (i_ir (.int)) := s_ireturn rfl dX5_get_26
theorem sa_X5_get {X : ev_E} {l : Launch} (hG : ev_Good X) (hl : l.stackTraces = false) : ∀ q ∈ tb_X5_get X, ev_Snd X l ev_ms x_X5_get tx_X5_get q.1 q.2 := by
  intro q hq
  unfold tb_X5_get at hq
  simp only [List.mem_cons, List.not_mem_nil, or_false] at hq
  rcases hq with rfl | rfl | rfl | rfl | rfl | rfl | rfl | rfl | rfl | rfl | rfl | rfl | rfl | rfl | rfl
  · exact s_X5_get_0 hG hl
  · exact s_X5_get_1 hG hl
  · exact s_X5_get_2 hG hl
  · exact s_X5_get_5 hG hl
  · exact s_X5_get_6 hG hl
  · exact s_X5_get_7 hG hl
  · exact s_X5_get_10 hG hl
  · exact s_X5_get_11 hG hl
  · exact s_X5_get_14 hG hl
  · exact s_X5_get_17 hG hl
  · exact s_X5_get_18 hG hl
  · exact s_X5_get_21 hG hl
  · exact s_X5_get_22 hG hl
  · exact s_X5_get_23 hG hl
  · exact s_X5_get_26 hG hl
def tx_X5_getOr : ev_X := fun _ _ => some none
noncomputable def tb_X5_getOr (X : ev_E) : List (Nat × (ev_S → ev_N)) := [(0, i_al 0 1), (1, i_il 1 2), (2, i_cV X 59 1 10 2 5), (5, i_as 4 7), (7, i_il 2 8), (8, i_cS 48 1 1 11), (11, i_al 4 13), (13, i_gf X 8 1 16), (16, i_cV X 45 0 9 1 19), (19, i_al 4 21), (21, i_gf X 8 0 24), (24, i_il 2 25), (25, i_il 3 26), (26, i_cV X 196 2 7 5 29), (29, i_ir (.int))]
theorem s_X5_getOr_0 {X : ev_E} {l : Launch} (hG : ev_Good X) (hl : l.stackTraces = false) : ev_Snd X l ev_ms x_X5_getOr tx_X5_getOr 0 (i_al 0 1) := s_aload_n dX5_getOr_0 rfl
theorem s_X5_getOr_1 {X : ev_E} {l : Launch} (hG : ev_Good X) (hl : l.stackTraces = false) : ev_Snd X l ev_ms x_X5_getOr tx_X5_getOr 1 (i_il 1 2) := s_iload_n dX5_getOr_1 rfl
theorem s_X5_getOr_2 {X : ev_E} {l : Launch} (hG : ev_Good X) (hl : l.stackTraces = false) : ev_Snd X l ev_ms x_X5_getOr tx_X5_getOr 2 (i_cV X 59 1 10 2 5) := s_invokevirtual hG (mi := 59) (n := 1) (ci := 10) (r := (RX5, TX5, 7)) rfl (cal_X5_tableOf (Nat.le_of_ble_eq_true rfl)) w_705 w_707 w_11 dX5_getOr_2
theorem s_X5_getOr_5 {X : ev_E} {l : Launch} (hG : ev_Good X) (hl : l.stackTraces = false) : ev_Snd X l ev_ms x_X5_getOr tx_X5_getOr 5 (i_as 4 7) := s_astore dX5_getOr_5 (Nat.le_of_ble_eq_true rfl)
theorem s_X5_getOr_7 {X : ev_E} {l : Launch} (hG : ev_Good X) (hl : l.stackTraces = false) : ev_Snd X l ev_ms x_X5_getOr tx_X5_getOr 7 (i_il 2 8) := s_iload_n dX5_getOr_7 rfl
theorem s_X5_getOr_8 {X : ev_E} {l : Launch} (hG : ev_Good X) (hl : l.stackTraces = false) : ev_Snd X l ev_ms x_X5_getOr tx_X5_getOr 8 (i_cS 48 1 1 11) := s_invokestatic hG (mi := 48) (n := 1) (cal_X5_demandKey (Nat.le_of_ble_eq_true rfl)) w_796 w_797 dX5_getOr_8
theorem s_X5_getOr_11 {X : ev_E} {l : Launch} (hG : ev_Good X) (hl : l.stackTraces = false) : ev_Snd X l ev_ms x_X5_getOr tx_X5_getOr 11 (i_al 4 13) := s_aload dX5_getOr_11
theorem s_X5_getOr_13 {X : ev_E} {l : Launch} (hG : ev_Good X) (hl : l.stackTraces = false) : ev_Snd X l ev_ms x_X5_getOr tx_X5_getOr 13 (i_gf X 8 1 16) := s_getfieldN hG (ci := 8) (r := (RX3, TX3, 2)) rfl cw_8 (k := 1) (Nat.le_of_ble_eq_true rfl) w_191 rfl dX5_getOr_13
theorem s_X5_getOr_16 {X : ev_E} {l : Launch} (hG : ev_Good X) (hl : l.stackTraces = false) : ev_Snd X l ev_ms x_X5_getOr tx_X5_getOr 16 (i_cV X 45 0 9 1 19) := s_invokevirtual hG (mi := 45) (n := 0) (ci := 9) (r := (RX4, TX4, 6)) rfl (cal_X4_outdate (Nat.le_of_ble_eq_true rfl)) w_828 w_829 w_830 dX5_getOr_16
theorem s_X5_getOr_19 {X : ev_E} {l : Launch} (hG : ev_Good X) (hl : l.stackTraces = false) : ev_Snd X l ev_ms x_X5_getOr tx_X5_getOr 19 (i_al 4 21) := s_aload dX5_getOr_19
theorem s_X5_getOr_21 {X : ev_E} {l : Launch} (hG : ev_Good X) (hl : l.stackTraces = false) : ev_Snd X l ev_ms x_X5_getOr tx_X5_getOr 21 (i_gf X 8 0 24) := s_getfieldN hG (ci := 8) (r := (RX3, TX3, 2)) rfl cw_8 (k := 0) (Nat.le_of_ble_eq_true rfl) w_189 rfl dX5_getOr_21
theorem s_X5_getOr_24 {X : ev_E} {l : Launch} (hG : ev_Good X) (hl : l.stackTraces = false) : ev_Snd X l ev_ms x_X5_getOr tx_X5_getOr 24 (i_il 2 25) := s_iload_n dX5_getOr_24 rfl
theorem s_X5_getOr_25 {X : ev_E} {l : Launch} (hG : ev_Good X) (hl : l.stackTraces = false) : ev_Snd X l ev_ms x_X5_getOr tx_X5_getOr 25 (i_il 3 26) := s_iload_n dX5_getOr_25 rfl
theorem s_X5_getOr_26 {X : ev_E} {l : Launch} (hG : ev_Good X) (hl : l.stackTraces = false) : ev_Snd X l ev_ms x_X5_getOr tx_X5_getOr 26 (i_cV X 196 2 7 5 29) := s_invokevirtual hG (mi := 196) (n := 2) (ci := 7) (r := (RX2, TX2, 7)) rfl (cal_X2_fetch (Nat.le_of_ble_eq_true rfl)) w_908 w_898 w_899 dX5_getOr_26
theorem s_X5_getOr_29 {X : ev_E} {l : Launch} (hG : ev_Good X) (hl : l.stackTraces = false) : ev_Snd X l ev_ms x_X5_getOr tx_X5_getOr 29 (i_ir (.int)) := s_ireturn rfl dX5_getOr_29
theorem sa_X5_getOr {X : ev_E} {l : Launch} (hG : ev_Good X) (hl : l.stackTraces = false) : ∀ q ∈ tb_X5_getOr X, ev_Snd X l ev_ms x_X5_getOr tx_X5_getOr q.1 q.2 := by
  intro q hq
  unfold tb_X5_getOr at hq
  simp only [List.mem_cons, List.not_mem_nil, or_false] at hq
  rcases hq with rfl | rfl | rfl | rfl | rfl | rfl | rfl | rfl | rfl | rfl | rfl | rfl | rfl | rfl | rfl
  · exact s_X5_getOr_0 hG hl
  · exact s_X5_getOr_1 hG hl
  · exact s_X5_getOr_2 hG hl
  · exact s_X5_getOr_5 hG hl
  · exact s_X5_getOr_7 hG hl
  · exact s_X5_getOr_8 hG hl
  · exact s_X5_getOr_11 hG hl
  · exact s_X5_getOr_13 hG hl
  · exact s_X5_getOr_16 hG hl
  · exact s_X5_getOr_19 hG hl
  · exact s_X5_getOr_21 hG hl
  · exact s_X5_getOr_24 hG hl
  · exact s_X5_getOr_25 hG hl
  · exact s_X5_getOr_26 hG hl
  · exact s_X5_getOr_29 hG hl
def tx_X5_put : ev_X := fun _ _ => some none
noncomputable def tb_X5_put (X : ev_E) : List (Nat × (ev_S → ev_N)) := [(0, i_al 0 1), (1, i_il 1 2), (2, i_cV X 59 1 10 2 5), (5, i_as 4 7), (7, i_il 2 8), (8, i_cS 48 1 1 11), (11, i_il 3 12), (12, i_cS 52 1 1 15), (15, i_al 4 17), (17, i_gf X 8 1 20), (20, i_cV X 45 0 9 1 23), (23, i_al 4 25), (25, i_gf X 8 0 28), (28, i_il 2 29), (29, i_il 3 30), (30, i_cV X 195 2 7 5 33), (33, i_ir (.int))]
theorem s_X5_put_0 {X : ev_E} {l : Launch} (hG : ev_Good X) (hl : l.stackTraces = false) : ev_Snd X l ev_ms x_X5_put tx_X5_put 0 (i_al 0 1) := s_aload_n dX5_put_0 rfl
theorem s_X5_put_1 {X : ev_E} {l : Launch} (hG : ev_Good X) (hl : l.stackTraces = false) : ev_Snd X l ev_ms x_X5_put tx_X5_put 1 (i_il 1 2) := s_iload_n dX5_put_1 rfl
theorem s_X5_put_2 {X : ev_E} {l : Launch} (hG : ev_Good X) (hl : l.stackTraces = false) : ev_Snd X l ev_ms x_X5_put tx_X5_put 2 (i_cV X 59 1 10 2 5) := s_invokevirtual hG (mi := 59) (n := 1) (ci := 10) (r := (RX5, TX5, 7)) rfl (cal_X5_tableOf (Nat.le_of_ble_eq_true rfl)) w_705 w_707 w_11 dX5_put_2
theorem s_X5_put_5 {X : ev_E} {l : Launch} (hG : ev_Good X) (hl : l.stackTraces = false) : ev_Snd X l ev_ms x_X5_put tx_X5_put 5 (i_as 4 7) := s_astore dX5_put_5 (Nat.le_of_ble_eq_true rfl)
theorem s_X5_put_7 {X : ev_E} {l : Launch} (hG : ev_Good X) (hl : l.stackTraces = false) : ev_Snd X l ev_ms x_X5_put tx_X5_put 7 (i_il 2 8) := s_iload_n dX5_put_7 rfl
theorem s_X5_put_8 {X : ev_E} {l : Launch} (hG : ev_Good X) (hl : l.stackTraces = false) : ev_Snd X l ev_ms x_X5_put tx_X5_put 8 (i_cS 48 1 1 11) := s_invokestatic hG (mi := 48) (n := 1) (cal_X5_demandKey (Nat.le_of_ble_eq_true rfl)) w_796 w_797 dX5_put_8
theorem s_X5_put_11 {X : ev_E} {l : Launch} (hG : ev_Good X) (hl : l.stackTraces = false) : ev_Snd X l ev_ms x_X5_put tx_X5_put 11 (i_il 3 12) := s_iload_n dX5_put_11 rfl
theorem s_X5_put_12 {X : ev_E} {l : Launch} (hG : ev_Good X) (hl : l.stackTraces = false) : ev_Snd X l ev_ms x_X5_put tx_X5_put 12 (i_cS 52 1 1 15) := s_invokestatic hG (mi := 52) (n := 1) (cal_X5_demandValue (Nat.le_of_ble_eq_true rfl)) w_839 w_840 dX5_put_12
theorem s_X5_put_15 {X : ev_E} {l : Launch} (hG : ev_Good X) (hl : l.stackTraces = false) : ev_Snd X l ev_ms x_X5_put tx_X5_put 15 (i_al 4 17) := s_aload dX5_put_15
theorem s_X5_put_17 {X : ev_E} {l : Launch} (hG : ev_Good X) (hl : l.stackTraces = false) : ev_Snd X l ev_ms x_X5_put tx_X5_put 17 (i_gf X 8 1 20) := s_getfieldN hG (ci := 8) (r := (RX3, TX3, 2)) rfl cw_8 (k := 1) (Nat.le_of_ble_eq_true rfl) w_191 rfl dX5_put_17
theorem s_X5_put_20 {X : ev_E} {l : Launch} (hG : ev_Good X) (hl : l.stackTraces = false) : ev_Snd X l ev_ms x_X5_put tx_X5_put 20 (i_cV X 45 0 9 1 23) := s_invokevirtual hG (mi := 45) (n := 0) (ci := 9) (r := (RX4, TX4, 6)) rfl (cal_X4_outdate (Nat.le_of_ble_eq_true rfl)) w_828 w_829 w_830 dX5_put_20
theorem s_X5_put_23 {X : ev_E} {l : Launch} (hG : ev_Good X) (hl : l.stackTraces = false) : ev_Snd X l ev_ms x_X5_put tx_X5_put 23 (i_al 4 25) := s_aload dX5_put_23
theorem s_X5_put_25 {X : ev_E} {l : Launch} (hG : ev_Good X) (hl : l.stackTraces = false) : ev_Snd X l ev_ms x_X5_put tx_X5_put 25 (i_gf X 8 0 28) := s_getfieldN hG (ci := 8) (r := (RX3, TX3, 2)) rfl cw_8 (k := 0) (Nat.le_of_ble_eq_true rfl) w_189 rfl dX5_put_25
theorem s_X5_put_28 {X : ev_E} {l : Launch} (hG : ev_Good X) (hl : l.stackTraces = false) : ev_Snd X l ev_ms x_X5_put tx_X5_put 28 (i_il 2 29) := s_iload_n dX5_put_28 rfl
theorem s_X5_put_29 {X : ev_E} {l : Launch} (hG : ev_Good X) (hl : l.stackTraces = false) : ev_Snd X l ev_ms x_X5_put tx_X5_put 29 (i_il 3 30) := s_iload_n dX5_put_29 rfl
theorem s_X5_put_30 {X : ev_E} {l : Launch} (hG : ev_Good X) (hl : l.stackTraces = false) : ev_Snd X l ev_ms x_X5_put tx_X5_put 30 (i_cV X 195 2 7 5 33) := s_invokevirtual hG (mi := 195) (n := 2) (ci := 7) (r := (RX2, TX2, 7)) rfl (cal_X2_bring (Nat.le_of_ble_eq_true rfl)) w_843 w_844 w_845 dX5_put_30
theorem s_X5_put_33 {X : ev_E} {l : Launch} (hG : ev_Good X) (hl : l.stackTraces = false) : ev_Snd X l ev_ms x_X5_put tx_X5_put 33 (i_ir (.int)) := s_ireturn rfl dX5_put_33
theorem sa_X5_put {X : ev_E} {l : Launch} (hG : ev_Good X) (hl : l.stackTraces = false) : ∀ q ∈ tb_X5_put X, ev_Snd X l ev_ms x_X5_put tx_X5_put q.1 q.2 := by
  intro q hq
  unfold tb_X5_put at hq
  simp only [List.mem_cons, List.not_mem_nil, or_false] at hq
  rcases hq with rfl | rfl | rfl | rfl | rfl | rfl | rfl | rfl | rfl | rfl | rfl | rfl | rfl | rfl | rfl | rfl | rfl
  · exact s_X5_put_0 hG hl
  · exact s_X5_put_1 hG hl
  · exact s_X5_put_2 hG hl
  · exact s_X5_put_5 hG hl
  · exact s_X5_put_7 hG hl
  · exact s_X5_put_8 hG hl
  · exact s_X5_put_11 hG hl
  · exact s_X5_put_12 hG hl
  · exact s_X5_put_15 hG hl
  · exact s_X5_put_17 hG hl
  · exact s_X5_put_20 hG hl
  · exact s_X5_put_23 hG hl
  · exact s_X5_put_25 hG hl
  · exact s_X5_put_28 hG hl
  · exact s_X5_put_29 hG hl
  · exact s_X5_put_30 hG hl
  · exact s_X5_put_33 hG hl
def tx_X5_rest : ev_X := fun _ _ => some none
noncomputable def tb_X5_rest (X : ev_E) : List (Nat × (ev_S → ev_N)) := [(0, i_al 0 1), (1, i_il 1 2), (2, i_cV X 59 1 10 2 5), (5, i_as 2 6), (6, i_al 2 7), (7, i_gf X 8 1 10), (10, i_cV X 44 0 9 1 13), (13, i_ifne 21 16), (16, i_al 0 17), (17, i_cV X 58 0 10 1 20), (20, i_ir (.int)), (21, i_al 2 22), (22, i_gf X 8 1 25), (25, i_cV X 198 0 9 4 28), (28, i_ir (.int))]
theorem s_X5_rest_0 {X : ev_E} {l : Launch} (hG : ev_Good X) (hl : l.stackTraces = false) : ev_Snd X l ev_ms x_X5_rest tx_X5_rest 0 (i_al 0 1) := s_aload_n dX5_rest_0 rfl
theorem s_X5_rest_1 {X : ev_E} {l : Launch} (hG : ev_Good X) (hl : l.stackTraces = false) : ev_Snd X l ev_ms x_X5_rest tx_X5_rest 1 (i_il 1 2) := s_iload_n dX5_rest_1 rfl
theorem s_X5_rest_2 {X : ev_E} {l : Launch} (hG : ev_Good X) (hl : l.stackTraces = false) : ev_Snd X l ev_ms x_X5_rest tx_X5_rest 2 (i_cV X 59 1 10 2 5) := s_invokevirtual hG (mi := 59) (n := 1) (ci := 10) (r := (RX5, TX5, 7)) rfl (cal_X5_tableOf (Nat.le_of_ble_eq_true rfl)) w_705 w_707 w_11 dX5_rest_2
theorem s_X5_rest_5 {X : ev_E} {l : Launch} (hG : ev_Good X) (hl : l.stackTraces = false) : ev_Snd X l ev_ms x_X5_rest tx_X5_rest 5 (i_as 2 6) := s_astore_n dX5_rest_5 rfl (Nat.le_of_ble_eq_true rfl)
theorem s_X5_rest_6 {X : ev_E} {l : Launch} (hG : ev_Good X) (hl : l.stackTraces = false) : ev_Snd X l ev_ms x_X5_rest tx_X5_rest 6 (i_al 2 7) := s_aload_n dX5_rest_6 rfl
theorem s_X5_rest_7 {X : ev_E} {l : Launch} (hG : ev_Good X) (hl : l.stackTraces = false) : ev_Snd X l ev_ms x_X5_rest tx_X5_rest 7 (i_gf X 8 1 10) := s_getfieldN hG (ci := 8) (r := (RX3, TX3, 2)) rfl cw_8 (k := 1) (Nat.le_of_ble_eq_true rfl) w_191 rfl dX5_rest_7
theorem s_X5_rest_10 {X : ev_E} {l : Launch} (hG : ev_Good X) (hl : l.stackTraces = false) : ev_Snd X l ev_ms x_X5_rest tx_X5_rest 10 (i_cV X 44 0 9 1 13) := s_invokevirtual hG (mi := 44) (n := 0) (ci := 9) (r := (RX4, TX4, 6)) rfl (cal_X4_isUsable (Nat.le_of_ble_eq_true rfl)) w_1043 w_754 w_755 dX5_rest_10
theorem s_X5_rest_13 {X : ev_E} {l : Launch} (hG : ev_Good X) (hl : l.stackTraces = false) : ev_Snd X l ev_ms x_X5_rest tx_X5_rest 13 (i_ifne 21 16) := s_ifne dX5_rest_13 rfl
theorem s_X5_rest_16 {X : ev_E} {l : Launch} (hG : ev_Good X) (hl : l.stackTraces = false) : ev_Snd X l ev_ms x_X5_rest tx_X5_rest 16 (i_al 0 17) := s_aload_n dX5_rest_16 rfl
theorem s_X5_rest_17 {X : ev_E} {l : Launch} (hG : ev_Good X) (hl : l.stackTraces = false) : ev_Snd X l ev_ms x_X5_rest tx_X5_rest 17 (i_cV X 58 0 10 1 20) := s_invokevirtual hG (mi := 58) (n := 0) (ci := 10) (r := (RX5, TX5, 7)) rfl (cal_X5_refuse (Nat.le_of_ble_eq_true rfl)) w_943 w_945 w_17 dX5_rest_17
theorem s_X5_rest_20 {X : ev_E} {l : Launch} (hG : ev_Good X) (hl : l.stackTraces = false) : ev_Snd X l ev_ms x_X5_rest tx_X5_rest 20 (i_ir (.int)) := s_ireturn rfl dX5_rest_20
theorem s_X5_rest_21 {X : ev_E} {l : Launch} (hG : ev_Good X) (hl : l.stackTraces = false) : ev_Snd X l ev_ms x_X5_rest tx_X5_rest 21 (i_al 2 22) := s_aload_n dX5_rest_21 rfl
theorem s_X5_rest_22 {X : ev_E} {l : Launch} (hG : ev_Good X) (hl : l.stackTraces = false) : ev_Snd X l ev_ms x_X5_rest tx_X5_rest 22 (i_gf X 8 1 25) := s_getfieldN hG (ci := 8) (r := (RX3, TX3, 2)) rfl cw_8 (k := 1) (Nat.le_of_ble_eq_true rfl) w_191 rfl dX5_rest_22
theorem s_X5_rest_25 {X : ev_E} {l : Launch} (hG : ev_Good X) (hl : l.stackTraces = false) : ev_Snd X l ev_ms x_X5_rest tx_X5_rest 25 (i_cV X 198 0 9 4 28) := s_invokevirtual hG (mi := 198) (n := 0) (ci := 9) (r := (RX4, TX4, 6)) rfl (cal_X4_advanceToEnd (Nat.le_of_ble_eq_true rfl)) w_1080 w_1081 w_1082 dX5_rest_25
theorem s_X5_rest_28 {X : ev_E} {l : Launch} (hG : ev_Good X) (hl : l.stackTraces = false) : ev_Snd X l ev_ms x_X5_rest tx_X5_rest 28 (i_ir (.int)) := s_ireturn rfl dX5_rest_28
theorem sa_X5_rest {X : ev_E} {l : Launch} (hG : ev_Good X) (hl : l.stackTraces = false) : ∀ q ∈ tb_X5_rest X, ev_Snd X l ev_ms x_X5_rest tx_X5_rest q.1 q.2 := by
  intro q hq
  unfold tb_X5_rest at hq
  simp only [List.mem_cons, List.not_mem_nil, or_false] at hq
  rcases hq with rfl | rfl | rfl | rfl | rfl | rfl | rfl | rfl | rfl | rfl | rfl | rfl | rfl | rfl | rfl
  · exact s_X5_rest_0 hG hl
  · exact s_X5_rest_1 hG hl
  · exact s_X5_rest_2 hG hl
  · exact s_X5_rest_5 hG hl
  · exact s_X5_rest_6 hG hl
  · exact s_X5_rest_7 hG hl
  · exact s_X5_rest_10 hG hl
  · exact s_X5_rest_13 hG hl
  · exact s_X5_rest_16 hG hl
  · exact s_X5_rest_17 hG hl
  · exact s_X5_rest_20 hG hl
  · exact s_X5_rest_21 hG hl
  · exact s_X5_rest_22 hG hl
  · exact s_X5_rest_25 hG hl
  · exact s_X5_rest_28 hG hl
def tx_X5_askOne : ev_X := fun _ _ => some none
noncomputable def tb_X5_askOne (X : ev_E) : List (Nat × (ev_S → ev_N)) := [(0, i_al 0 1), (1, i_gf X 10 1 4), (4, i_gf X 5 5 7), (7, i_is 2 8), (8, i_al 0 9), (9, i_gf X 10 1 12), (12, i_il 1 13), (13, i_al 0 14), (14, i_il 1 15), (15, i_cV X 104 1 10 3 18), (18, i_cV X 89 2 5 3 21), (21, i_psh (.int (0)) 22), (22, i_is 3 23), (23, i_al 0 24), (24, i_gf X 10 3 27), (27, i_as 4 29), (29, i_al 4 31), (31, i_len X 32), (32, i_is 5 34), (34, i_psh (.int (0)) 35), (35, i_is 6 37), (37, i_il 6 39), (39, i_il 5 41), (41, i_icge 70 44), (44, i_al 4 46), (46, i_il 6 48), (48, i_ald X FieldType.isReference 49), (49, i_as 7 51), (51, i_al 7 53), (53, i_il 1 54), (54, i_il 2 55), (55, i_cV X 225 2 6 4 58), (58, i_ifeq 64 61), (61, i_inc 3 (1) 64), (64, i_inc 6 (1) 67), (67, i_goto 37), (70, i_al 0 71), (71, i_gf X 10 2 74), (74, i_il 1 75), (75, i_il 2 76), (76, i_cV X 197 2 7 4 79), (79, i_pop 80), (80, i_il 3 81), (81, i_ir (.int))]
theorem s_X5_askOne_0 {X : ev_E} {l : Launch} (hG : ev_Good X) (hl : l.stackTraces = false) : ev_Snd X l ev_ms x_X5_askOne tx_X5_askOne 0 (i_al 0 1) := s_aload_n dX5_askOne_0 rfl
theorem s_X5_askOne_1 {X : ev_E} {l : Launch} (hG : ev_Good X) (hl : l.stackTraces = false) : ev_Snd X l ev_ms x_X5_askOne tx_X5_askOne 1 (i_gf X 10 1 4) := s_getfield hG (ci := 10) (r := (RX5, TX5, 7)) rfl cw_10 (k := 1) (Nat.le_of_ble_eq_true rfl) w_218 rfl (Or.inl rfl) dX5_askOne_1
theorem s_X5_askOne_4 {X : ev_E} {l : Launch} (hG : ev_Good X) (hl : l.stackTraces = false) : ev_Snd X l ev_ms x_X5_askOne tx_X5_askOne 4 (i_gf X 5 5 7) := s_getfieldN hG (ci := 5) (r := (RX0, TX0, 6)) rfl cw_5 (k := 5) (Nat.le_of_ble_eq_true rfl) w_106 rfl dX5_askOne_4
theorem s_X5_askOne_7 {X : ev_E} {l : Launch} (hG : ev_Good X) (hl : l.stackTraces = false) : ev_Snd X l ev_ms x_X5_askOne tx_X5_askOne 7 (i_is 2 8) := s_istore_n dX5_askOne_7 rfl (Nat.le_of_ble_eq_true rfl)
theorem s_X5_askOne_8 {X : ev_E} {l : Launch} (hG : ev_Good X) (hl : l.stackTraces = false) : ev_Snd X l ev_ms x_X5_askOne tx_X5_askOne 8 (i_al 0 9) := s_aload_n dX5_askOne_8 rfl
theorem s_X5_askOne_9 {X : ev_E} {l : Launch} (hG : ev_Good X) (hl : l.stackTraces = false) : ev_Snd X l ev_ms x_X5_askOne tx_X5_askOne 9 (i_gf X 10 1 12) := s_getfield hG (ci := 10) (r := (RX5, TX5, 7)) rfl cw_10 (k := 1) (Nat.le_of_ble_eq_true rfl) w_218 rfl (Or.inl rfl) dX5_askOne_9
theorem s_X5_askOne_12 {X : ev_E} {l : Launch} (hG : ev_Good X) (hl : l.stackTraces = false) : ev_Snd X l ev_ms x_X5_askOne tx_X5_askOne 12 (i_il 1 13) := s_iload_n dX5_askOne_12 rfl
theorem s_X5_askOne_13 {X : ev_E} {l : Launch} (hG : ev_Good X) (hl : l.stackTraces = false) : ev_Snd X l ev_ms x_X5_askOne tx_X5_askOne 13 (i_al 0 14) := s_aload_n dX5_askOne_13 rfl
theorem s_X5_askOne_14 {X : ev_E} {l : Launch} (hG : ev_Good X) (hl : l.stackTraces = false) : ev_Snd X l ev_ms x_X5_askOne tx_X5_askOne 14 (i_il 1 15) := s_iload_n dX5_askOne_14 rfl
theorem s_X5_askOne_15 {X : ev_E} {l : Launch} (hG : ev_Good X) (hl : l.stackTraces = false) : ev_Snd X l ev_ms x_X5_askOne tx_X5_askOne 15 (i_cV X 104 1 10 3 18) := s_invokevirtual hG (mi := 104) (n := 1) (ci := 10) (r := (RX5, TX5, 7)) rfl (cal_X5_depthNow (Nat.le_of_ble_eq_true rfl)) w_1101 w_1103 w_20 dX5_askOne_15
theorem s_X5_askOne_18 {X : ev_E} {l : Launch} (hG : ev_Good X) (hl : l.stackTraces = false) : ev_Snd X l ev_ms x_X5_askOne tx_X5_askOne 18 (i_cV X 89 2 5 3 21) := s_invokevirtual hG (mi := 89) (n := 2) (ci := 5) (r := (RX0, TX0, 6)) rfl (cal_X0_add (Nat.le_of_ble_eq_true rfl)) w_1105 w_1106 w_1107 dX5_askOne_18
theorem s_X5_askOne_21 {X : ev_E} {l : Launch} (hG : ev_Good X) (hl : l.stackTraces = false) : ev_Snd X l ev_ms x_X5_askOne tx_X5_askOne 21 (i_psh (.int (0)) 22) := s_iconst dX5_askOne_21 rfl
theorem s_X5_askOne_22 {X : ev_E} {l : Launch} (hG : ev_Good X) (hl : l.stackTraces = false) : ev_Snd X l ev_ms x_X5_askOne tx_X5_askOne 22 (i_is 3 23) := s_istore_n dX5_askOne_22 rfl (Nat.le_of_ble_eq_true rfl)
theorem s_X5_askOne_23 {X : ev_E} {l : Launch} (hG : ev_Good X) (hl : l.stackTraces = false) : ev_Snd X l ev_ms x_X5_askOne tx_X5_askOne 23 (i_al 0 24) := s_aload_n dX5_askOne_23 rfl
theorem s_X5_askOne_24 {X : ev_E} {l : Launch} (hG : ev_Good X) (hl : l.stackTraces = false) : ev_Snd X l ev_ms x_X5_askOne tx_X5_askOne 24 (i_gf X 10 3 27) := s_getfield hG (ci := 10) (r := (RX5, TX5, 7)) rfl cw_10 (k := 3) (Nat.le_of_ble_eq_true rfl) w_220 rfl (Or.inl rfl) dX5_askOne_24
theorem s_X5_askOne_27 {X : ev_E} {l : Launch} (hG : ev_Good X) (hl : l.stackTraces = false) : ev_Snd X l ev_ms x_X5_askOne tx_X5_askOne 27 (i_as 4 29) := s_astore dX5_askOne_27 (Nat.le_of_ble_eq_true rfl)
theorem s_X5_askOne_29 {X : ev_E} {l : Launch} (hG : ev_Good X) (hl : l.stackTraces = false) : ev_Snd X l ev_ms x_X5_askOne tx_X5_askOne 29 (i_al 4 31) := s_aload dX5_askOne_29
theorem s_X5_askOne_31 {X : ev_E} {l : Launch} (hG : ev_Good X) (hl : l.stackTraces = false) : ev_Snd X l ev_ms x_X5_askOne tx_X5_askOne 31 (i_len X 32) := s_arraylength hG dX5_askOne_31
theorem s_X5_askOne_32 {X : ev_E} {l : Launch} (hG : ev_Good X) (hl : l.stackTraces = false) : ev_Snd X l ev_ms x_X5_askOne tx_X5_askOne 32 (i_is 5 34) := s_istore dX5_askOne_32 (Nat.le_of_ble_eq_true rfl)
theorem s_X5_askOne_34 {X : ev_E} {l : Launch} (hG : ev_Good X) (hl : l.stackTraces = false) : ev_Snd X l ev_ms x_X5_askOne tx_X5_askOne 34 (i_psh (.int (0)) 35) := s_iconst dX5_askOne_34 rfl
theorem s_X5_askOne_35 {X : ev_E} {l : Launch} (hG : ev_Good X) (hl : l.stackTraces = false) : ev_Snd X l ev_ms x_X5_askOne tx_X5_askOne 35 (i_is 6 37) := s_istore dX5_askOne_35 (Nat.le_of_ble_eq_true rfl)
theorem s_X5_askOne_37 {X : ev_E} {l : Launch} (hG : ev_Good X) (hl : l.stackTraces = false) : ev_Snd X l ev_ms x_X5_askOne tx_X5_askOne 37 (i_il 6 39) := s_iload dX5_askOne_37
theorem s_X5_askOne_39 {X : ev_E} {l : Launch} (hG : ev_Good X) (hl : l.stackTraces = false) : ev_Snd X l ev_ms x_X5_askOne tx_X5_askOne 39 (i_il 5 41) := s_iload dX5_askOne_39
theorem s_X5_askOne_41 {X : ev_E} {l : Launch} (hG : ev_Good X) (hl : l.stackTraces = false) : ev_Snd X l ev_ms x_X5_askOne tx_X5_askOne 41 (i_icge 70 44) := s_icge dX5_askOne_41 rfl
theorem s_X5_askOne_44 {X : ev_E} {l : Launch} (hG : ev_Good X) (hl : l.stackTraces = false) : ev_Snd X l ev_ms x_X5_askOne tx_X5_askOne 44 (i_al 4 46) := s_aload dX5_askOne_44
theorem s_X5_askOne_46 {X : ev_E} {l : Launch} (hG : ev_Good X) (hl : l.stackTraces = false) : ev_Snd X l ev_ms x_X5_askOne tx_X5_askOne 46 (i_il 6 48) := s_iload dX5_askOne_46
theorem s_X5_askOne_48 {X : ev_E} {l : Launch} (hG : ev_Good X) (hl : l.stackTraces = false) : ev_Snd X l ev_ms x_X5_askOne tx_X5_askOne 48 (i_ald X FieldType.isReference 49) := s_aaload hG dX5_askOne_48
theorem s_X5_askOne_49 {X : ev_E} {l : Launch} (hG : ev_Good X) (hl : l.stackTraces = false) : ev_Snd X l ev_ms x_X5_askOne tx_X5_askOne 49 (i_as 7 51) := s_astore dX5_askOne_49 (Nat.le_of_ble_eq_true rfl)
theorem s_X5_askOne_51 {X : ev_E} {l : Launch} (hG : ev_Good X) (hl : l.stackTraces = false) : ev_Snd X l ev_ms x_X5_askOne tx_X5_askOne 51 (i_al 7 53) := s_aload dX5_askOne_51
theorem s_X5_askOne_53 {X : ev_E} {l : Launch} (hG : ev_Good X) (hl : l.stackTraces = false) : ev_Snd X l ev_ms x_X5_askOne tx_X5_askOne 53 (i_il 1 54) := s_iload_n dX5_askOne_53 rfl
theorem s_X5_askOne_54 {X : ev_E} {l : Launch} (hG : ev_Good X) (hl : l.stackTraces = false) : ev_Snd X l ev_ms x_X5_askOne tx_X5_askOne 54 (i_il 2 55) := s_iload_n dX5_askOne_54 rfl
theorem s_X5_askOne_55 {X : ev_E} {l : Launch} (hG : ev_Good X) (hl : l.stackTraces = false) : ev_Snd X l ev_ms x_X5_askOne tx_X5_askOne 55 (i_cV X 225 2 6 4 58) := s_invokevirtual hG (mi := 225) (n := 2) (ci := 6) (r := (RX1, TX1, 3)) rfl (cal_X1_meet (Nat.le_of_ble_eq_true rfl)) w_1113 w_1114 w_1115 dX5_askOne_55
theorem s_X5_askOne_58 {X : ev_E} {l : Launch} (hG : ev_Good X) (hl : l.stackTraces = false) : ev_Snd X l ev_ms x_X5_askOne tx_X5_askOne 58 (i_ifeq 64 61) := s_ifeq dX5_askOne_58 rfl
theorem s_X5_askOne_61 {X : ev_E} {l : Launch} (hG : ev_Good X) (hl : l.stackTraces = false) : ev_Snd X l ev_ms x_X5_askOne tx_X5_askOne 61 (i_inc 3 (1) 64) := s_iinc dX5_askOne_61 rfl (Nat.le_of_ble_eq_true rfl)
theorem s_X5_askOne_64 {X : ev_E} {l : Launch} (hG : ev_Good X) (hl : l.stackTraces = false) : ev_Snd X l ev_ms x_X5_askOne tx_X5_askOne 64 (i_inc 6 (1) 67) := s_iinc dX5_askOne_64 rfl (Nat.le_of_ble_eq_true rfl)
theorem s_X5_askOne_67 {X : ev_E} {l : Launch} (hG : ev_Good X) (hl : l.stackTraces = false) : ev_Snd X l ev_ms x_X5_askOne tx_X5_askOne 67 (i_goto 37) := s_goto dX5_askOne_67 rfl
theorem s_X5_askOne_70 {X : ev_E} {l : Launch} (hG : ev_Good X) (hl : l.stackTraces = false) : ev_Snd X l ev_ms x_X5_askOne tx_X5_askOne 70 (i_al 0 71) := s_aload_n dX5_askOne_70 rfl
theorem s_X5_askOne_71 {X : ev_E} {l : Launch} (hG : ev_Good X) (hl : l.stackTraces = false) : ev_Snd X l ev_ms x_X5_askOne tx_X5_askOne 71 (i_gf X 10 2 74) := s_getfield hG (ci := 10) (r := (RX5, TX5, 7)) rfl cw_10 (k := 2) (Nat.le_of_ble_eq_true rfl) w_219 rfl (Or.inl rfl) dX5_askOne_71
theorem s_X5_askOne_74 {X : ev_E} {l : Launch} (hG : ev_Good X) (hl : l.stackTraces = false) : ev_Snd X l ev_ms x_X5_askOne tx_X5_askOne 74 (i_il 1 75) := s_iload_n dX5_askOne_74 rfl
theorem s_X5_askOne_75 {X : ev_E} {l : Launch} (hG : ev_Good X) (hl : l.stackTraces = false) : ev_Snd X l ev_ms x_X5_askOne tx_X5_askOne 75 (i_il 2 76) := s_iload_n dX5_askOne_75 rfl
theorem s_X5_askOne_76 {X : ev_E} {l : Launch} (hG : ev_Good X) (hl : l.stackTraces = false) : ev_Snd X l ev_ms x_X5_askOne tx_X5_askOne 76 (i_cV X 197 2 7 4 79) := s_invokevirtual hG (mi := 197) (n := 2) (ci := 7) (r := (RX2, TX2, 7)) rfl (cal_X2_fetchOrTakeIn (Nat.le_of_ble_eq_true rfl)) w_1121 w_1118 w_1119 dX5_askOne_76
theorem s_X5_askOne_79 {X : ev_E} {l : Launch} (hG : ev_Good X) (hl : l.stackTraces = false) : ev_Snd X l ev_ms x_X5_askOne tx_X5_askOne 79 (i_pop 80) := s_pop dX5_askOne_79
theorem s_X5_askOne_80 {X : ev_E} {l : Launch} (hG : ev_Good X) (hl : l.stackTraces = false) : ev_Snd X l ev_ms x_X5_askOne tx_X5_askOne 80 (i_il 3 81) := s_iload_n dX5_askOne_80 rfl
theorem s_X5_askOne_81 {X : ev_E} {l : Launch} (hG : ev_Good X) (hl : l.stackTraces = false) : ev_Snd X l ev_ms x_X5_askOne tx_X5_askOne 81 (i_ir (.int)) := s_ireturn rfl dX5_askOne_81
theorem sa_X5_askOne {X : ev_E} {l : Launch} (hG : ev_Good X) (hl : l.stackTraces = false) : ∀ q ∈ tb_X5_askOne X, ev_Snd X l ev_ms x_X5_askOne tx_X5_askOne q.1 q.2 := by
  intro q hq
  unfold tb_X5_askOne at hq
  simp only [List.mem_cons, List.not_mem_nil, or_false] at hq
  rcases hq with rfl | rfl | rfl | rfl | rfl | rfl | rfl | rfl | rfl | rfl | rfl | rfl | rfl | rfl | rfl | rfl | rfl | rfl | rfl | rfl | rfl | rfl | rfl | rfl | rfl | rfl | rfl | rfl | rfl | rfl | rfl | rfl | rfl | rfl | rfl | rfl | rfl | rfl | rfl | rfl | rfl | rfl | rfl | rfl
  · exact s_X5_askOne_0 hG hl
  · exact s_X5_askOne_1 hG hl
  · exact s_X5_askOne_4 hG hl
  · exact s_X5_askOne_7 hG hl
  · exact s_X5_askOne_8 hG hl
  · exact s_X5_askOne_9 hG hl
  · exact s_X5_askOne_12 hG hl
  · exact s_X5_askOne_13 hG hl
  · exact s_X5_askOne_14 hG hl
  · exact s_X5_askOne_15 hG hl
  · exact s_X5_askOne_18 hG hl
  · exact s_X5_askOne_21 hG hl
  · exact s_X5_askOne_22 hG hl
  · exact s_X5_askOne_23 hG hl
  · exact s_X5_askOne_24 hG hl
  · exact s_X5_askOne_27 hG hl
  · exact s_X5_askOne_29 hG hl
  · exact s_X5_askOne_31 hG hl
  · exact s_X5_askOne_32 hG hl
  · exact s_X5_askOne_34 hG hl
  · exact s_X5_askOne_35 hG hl
  · exact s_X5_askOne_37 hG hl
  · exact s_X5_askOne_39 hG hl
  · exact s_X5_askOne_41 hG hl
  · exact s_X5_askOne_44 hG hl
  · exact s_X5_askOne_46 hG hl
  · exact s_X5_askOne_48 hG hl
  · exact s_X5_askOne_49 hG hl
  · exact s_X5_askOne_51 hG hl
  · exact s_X5_askOne_53 hG hl
  · exact s_X5_askOne_54 hG hl
  · exact s_X5_askOne_55 hG hl
  · exact s_X5_askOne_58 hG hl
  · exact s_X5_askOne_61 hG hl
  · exact s_X5_askOne_64 hG hl
  · exact s_X5_askOne_67 hG hl
  · exact s_X5_askOne_70 hG hl
  · exact s_X5_askOne_71 hG hl
  · exact s_X5_askOne_74 hG hl
  · exact s_X5_askOne_75 hG hl
  · exact s_X5_askOne_76 hG hl
  · exact s_X5_askOne_79 hG hl
  · exact s_X5_askOne_80 hG hl
  · exact s_X5_askOne_81 hG hl
def tx_X5_putIfAbsent : ev_X := fun _ _ => some none
noncomputable def tb_X5_putIfAbsent (X : ev_E) : List (Nat × (ev_S → ev_N)) := [(0, i_al 0 1), (1, i_il 1 2), (2, i_cV X 59 1 10 2 5), (5, i_as 4 7), (7, i_il 2 8), (8, i_cS 48 1 1 11), (11, i_il 3 12), (12, i_cS 52 1 1 15), (15, i_al 4 17), (17, i_gf X 8 0 20), (20, i_gf X 7 4 23), (23, i_psh (.int (-1)) 24), (24, i_iceq 37 27), (27, i_thr 2), (37, i_al 4 39), (39, i_gf X 8 1 42), (42, i_cV X 45 0 9 1 45), (45, i_al 4 47), (47, i_gf X 8 0 50), (50, i_il 2 51), (51, i_il 3 52), (52, i_cV X 226 2 7 3 55), (55, i_ir (.int))]
theorem s_X5_putIfAbsent_0 {X : ev_E} {l : Launch} (hG : ev_Good X) (hl : l.stackTraces = false) : ev_Snd X l ev_ms x_X5_putIfAbsent tx_X5_putIfAbsent 0 (i_al 0 1) := s_aload_n dX5_putIfAbsent_0 rfl
theorem s_X5_putIfAbsent_1 {X : ev_E} {l : Launch} (hG : ev_Good X) (hl : l.stackTraces = false) : ev_Snd X l ev_ms x_X5_putIfAbsent tx_X5_putIfAbsent 1 (i_il 1 2) := s_iload_n dX5_putIfAbsent_1 rfl
theorem s_X5_putIfAbsent_2 {X : ev_E} {l : Launch} (hG : ev_Good X) (hl : l.stackTraces = false) : ev_Snd X l ev_ms x_X5_putIfAbsent tx_X5_putIfAbsent 2 (i_cV X 59 1 10 2 5) := s_invokevirtual hG (mi := 59) (n := 1) (ci := 10) (r := (RX5, TX5, 7)) rfl (cal_X5_tableOf (Nat.le_of_ble_eq_true rfl)) w_705 w_707 w_11 dX5_putIfAbsent_2
theorem s_X5_putIfAbsent_5 {X : ev_E} {l : Launch} (hG : ev_Good X) (hl : l.stackTraces = false) : ev_Snd X l ev_ms x_X5_putIfAbsent tx_X5_putIfAbsent 5 (i_as 4 7) := s_astore dX5_putIfAbsent_5 (Nat.le_of_ble_eq_true rfl)
theorem s_X5_putIfAbsent_7 {X : ev_E} {l : Launch} (hG : ev_Good X) (hl : l.stackTraces = false) : ev_Snd X l ev_ms x_X5_putIfAbsent tx_X5_putIfAbsent 7 (i_il 2 8) := s_iload_n dX5_putIfAbsent_7 rfl
theorem s_X5_putIfAbsent_8 {X : ev_E} {l : Launch} (hG : ev_Good X) (hl : l.stackTraces = false) : ev_Snd X l ev_ms x_X5_putIfAbsent tx_X5_putIfAbsent 8 (i_cS 48 1 1 11) := s_invokestatic hG (mi := 48) (n := 1) (cal_X5_demandKey (Nat.le_of_ble_eq_true rfl)) w_796 w_797 dX5_putIfAbsent_8
theorem s_X5_putIfAbsent_11 {X : ev_E} {l : Launch} (hG : ev_Good X) (hl : l.stackTraces = false) : ev_Snd X l ev_ms x_X5_putIfAbsent tx_X5_putIfAbsent 11 (i_il 3 12) := s_iload_n dX5_putIfAbsent_11 rfl
theorem s_X5_putIfAbsent_12 {X : ev_E} {l : Launch} (hG : ev_Good X) (hl : l.stackTraces = false) : ev_Snd X l ev_ms x_X5_putIfAbsent tx_X5_putIfAbsent 12 (i_cS 52 1 1 15) := s_invokestatic hG (mi := 52) (n := 1) (cal_X5_demandValue (Nat.le_of_ble_eq_true rfl)) w_839 w_840 dX5_putIfAbsent_12
theorem s_X5_putIfAbsent_15 {X : ev_E} {l : Launch} (hG : ev_Good X) (hl : l.stackTraces = false) : ev_Snd X l ev_ms x_X5_putIfAbsent tx_X5_putIfAbsent 15 (i_al 4 17) := s_aload dX5_putIfAbsent_15
theorem s_X5_putIfAbsent_17 {X : ev_E} {l : Launch} (hG : ev_Good X) (hl : l.stackTraces = false) : ev_Snd X l ev_ms x_X5_putIfAbsent tx_X5_putIfAbsent 17 (i_gf X 8 0 20) := s_getfieldN hG (ci := 8) (r := (RX3, TX3, 2)) rfl cw_8 (k := 0) (Nat.le_of_ble_eq_true rfl) w_189 rfl dX5_putIfAbsent_17
theorem s_X5_putIfAbsent_20 {X : ev_E} {l : Launch} (hG : ev_Good X) (hl : l.stackTraces = false) : ev_Snd X l ev_ms x_X5_putIfAbsent tx_X5_putIfAbsent 20 (i_gf X 7 4 23) := s_getfieldN hG (ci := 7) (r := (RX2, TX2, 7)) rfl cw_7 (k := 4) (Nat.le_of_ble_eq_true rfl) w_136 rfl dX5_putIfAbsent_20
theorem s_X5_putIfAbsent_23 {X : ev_E} {l : Launch} (hG : ev_Good X) (hl : l.stackTraces = false) : ev_Snd X l ev_ms x_X5_putIfAbsent tx_X5_putIfAbsent 23 (i_psh (.int (-1)) 24) := s_iconst dX5_putIfAbsent_23 rfl
theorem s_X5_putIfAbsent_24 {X : ev_E} {l : Launch} (hG : ev_Good X) (hl : l.stackTraces = false) : ev_Snd X l ev_ms x_X5_putIfAbsent tx_X5_putIfAbsent 24 (i_iceq 37 27) := s_iceq dX5_putIfAbsent_24 rfl
theorem s_X5_putIfAbsent_27 {X : ev_E} {l : Launch} (hG : ev_Good X) (hl : l.stackTraces = false) : ev_Snd X l ev_ms x_X5_putIfAbsent tx_X5_putIfAbsent 27 (i_thr 2) := s_throw hG hl (E := 2) (text := "the table has a most") (names := ["java/lang/RuntimeException", "java/lang/Exception"]) (by decide +kernel) (by decide +kernel) (by decide) rfl w_877 w_72 (ta_RX5_98_2 (i := 94)).1 (ta_RX5_98_2 (i := 94)).2 (str_RX5_96 hG) dX5_putIfAbsent_27 dX5_putIfAbsent_30 dX5_putIfAbsent_31 dX5_putIfAbsent_33 dX5_putIfAbsent_36
theorem s_X5_putIfAbsent_37 {X : ev_E} {l : Launch} (hG : ev_Good X) (hl : l.stackTraces = false) : ev_Snd X l ev_ms x_X5_putIfAbsent tx_X5_putIfAbsent 37 (i_al 4 39) := s_aload dX5_putIfAbsent_37
theorem s_X5_putIfAbsent_39 {X : ev_E} {l : Launch} (hG : ev_Good X) (hl : l.stackTraces = false) : ev_Snd X l ev_ms x_X5_putIfAbsent tx_X5_putIfAbsent 39 (i_gf X 8 1 42) := s_getfieldN hG (ci := 8) (r := (RX3, TX3, 2)) rfl cw_8 (k := 1) (Nat.le_of_ble_eq_true rfl) w_191 rfl dX5_putIfAbsent_39
theorem s_X5_putIfAbsent_42 {X : ev_E} {l : Launch} (hG : ev_Good X) (hl : l.stackTraces = false) : ev_Snd X l ev_ms x_X5_putIfAbsent tx_X5_putIfAbsent 42 (i_cV X 45 0 9 1 45) := s_invokevirtual hG (mi := 45) (n := 0) (ci := 9) (r := (RX4, TX4, 6)) rfl (cal_X4_outdate (Nat.le_of_ble_eq_true rfl)) w_828 w_829 w_830 dX5_putIfAbsent_42
theorem s_X5_putIfAbsent_45 {X : ev_E} {l : Launch} (hG : ev_Good X) (hl : l.stackTraces = false) : ev_Snd X l ev_ms x_X5_putIfAbsent tx_X5_putIfAbsent 45 (i_al 4 47) := s_aload dX5_putIfAbsent_45
theorem s_X5_putIfAbsent_47 {X : ev_E} {l : Launch} (hG : ev_Good X) (hl : l.stackTraces = false) : ev_Snd X l ev_ms x_X5_putIfAbsent tx_X5_putIfAbsent 47 (i_gf X 8 0 50) := s_getfieldN hG (ci := 8) (r := (RX3, TX3, 2)) rfl cw_8 (k := 0) (Nat.le_of_ble_eq_true rfl) w_189 rfl dX5_putIfAbsent_47
theorem s_X5_putIfAbsent_50 {X : ev_E} {l : Launch} (hG : ev_Good X) (hl : l.stackTraces = false) : ev_Snd X l ev_ms x_X5_putIfAbsent tx_X5_putIfAbsent 50 (i_il 2 51) := s_iload_n dX5_putIfAbsent_50 rfl
theorem s_X5_putIfAbsent_51 {X : ev_E} {l : Launch} (hG : ev_Good X) (hl : l.stackTraces = false) : ev_Snd X l ev_ms x_X5_putIfAbsent tx_X5_putIfAbsent 51 (i_il 3 52) := s_iload_n dX5_putIfAbsent_51 rfl
theorem s_X5_putIfAbsent_52 {X : ev_E} {l : Launch} (hG : ev_Good X) (hl : l.stackTraces = false) : ev_Snd X l ev_ms x_X5_putIfAbsent tx_X5_putIfAbsent 52 (i_cV X 226 2 7 3 55) := s_invokevirtual hG (mi := 226) (n := 2) (ci := 7) (r := (RX2, TX2, 7)) rfl (cal_X2_bringIfAbsent (Nat.le_of_ble_eq_true rfl)) w_893 w_894 w_895 dX5_putIfAbsent_52
theorem s_X5_putIfAbsent_55 {X : ev_E} {l : Launch} (hG : ev_Good X) (hl : l.stackTraces = false) : ev_Snd X l ev_ms x_X5_putIfAbsent tx_X5_putIfAbsent 55 (i_ir (.int)) := s_ireturn rfl dX5_putIfAbsent_55
theorem sa_X5_putIfAbsent {X : ev_E} {l : Launch} (hG : ev_Good X) (hl : l.stackTraces = false) : ∀ q ∈ tb_X5_putIfAbsent X, ev_Snd X l ev_ms x_X5_putIfAbsent tx_X5_putIfAbsent q.1 q.2 := by
  intro q hq
  unfold tb_X5_putIfAbsent at hq
  simp only [List.mem_cons, List.not_mem_nil, or_false] at hq
  rcases hq with rfl | rfl | rfl | rfl | rfl | rfl | rfl | rfl | rfl | rfl | rfl | rfl | rfl | rfl | rfl | rfl | rfl | rfl | rfl | rfl | rfl | rfl | rfl
  · exact s_X5_putIfAbsent_0 hG hl
  · exact s_X5_putIfAbsent_1 hG hl
  · exact s_X5_putIfAbsent_2 hG hl
  · exact s_X5_putIfAbsent_5 hG hl
  · exact s_X5_putIfAbsent_7 hG hl
  · exact s_X5_putIfAbsent_8 hG hl
  · exact s_X5_putIfAbsent_11 hG hl
  · exact s_X5_putIfAbsent_12 hG hl
  · exact s_X5_putIfAbsent_15 hG hl
  · exact s_X5_putIfAbsent_17 hG hl
  · exact s_X5_putIfAbsent_20 hG hl
  · exact s_X5_putIfAbsent_23 hG hl
  · exact s_X5_putIfAbsent_24 hG hl
  · exact s_X5_putIfAbsent_27 hG hl
  · exact s_X5_putIfAbsent_37 hG hl
  · exact s_X5_putIfAbsent_39 hG hl
  · exact s_X5_putIfAbsent_42 hG hl
  · exact s_X5_putIfAbsent_45 hG hl
  · exact s_X5_putIfAbsent_47 hG hl
  · exact s_X5_putIfAbsent_50 hG hl
  · exact s_X5_putIfAbsent_51 hG hl
  · exact s_X5_putIfAbsent_52 hG hl
  · exact s_X5_putIfAbsent_55 hG hl
def tx_X5_ask : ev_X := fun _ _ => some none
noncomputable def tb_X5_ask (X : ev_E) : List (Nat × (ev_S → ev_N)) := [(0, i_il 1 1), (1, i_cS 48 1 1 4), (4, i_al 0 5), (5, i_psh (.int (1)) 6), (6, i_cV X 50 1 10 2 9), (9, i_al 0 10), (10, i_il 1 11), (11, i_cV X 254 1 10 8 14), (14, i_ir (.int))]
theorem s_X5_ask_0 {X : ev_E} {l : Launch} (hG : ev_Good X) (hl : l.stackTraces = false) : ev_Snd X l ev_ms x_X5_ask tx_X5_ask 0 (i_il 1 1) := s_iload_n dX5_ask_0 rfl
theorem s_X5_ask_1 {X : ev_E} {l : Launch} (hG : ev_Good X) (hl : l.stackTraces = false) : ev_Snd X l ev_ms x_X5_ask tx_X5_ask 1 (i_cS 48 1 1 4) := s_invokestatic hG (mi := 48) (n := 1) (cal_X5_demandKey (Nat.le_of_ble_eq_true rfl)) w_796 w_797 dX5_ask_1
theorem s_X5_ask_4 {X : ev_E} {l : Launch} (hG : ev_Good X) (hl : l.stackTraces = false) : ev_Snd X l ev_ms x_X5_ask tx_X5_ask 4 (i_al 0 5) := s_aload_n dX5_ask_4 rfl
theorem s_X5_ask_5 {X : ev_E} {l : Launch} (hG : ev_Good X) (hl : l.stackTraces = false) : ev_Snd X l ev_ms x_X5_ask tx_X5_ask 5 (i_psh (.int (1)) 6) := s_iconst dX5_ask_5 rfl
theorem s_X5_ask_6 {X : ev_E} {l : Launch} (hG : ev_Good X) (hl : l.stackTraces = false) : ev_Snd X l ev_ms x_X5_ask tx_X5_ask 6 (i_cV X 50 1 10 2 9) := s_invokevirtual hG (mi := 50) (n := 1) (ci := 10) (r := (RX5, TX5, 7)) rfl (cal_X5_demandRoomFor (Nat.le_of_ble_eq_true rfl)) w_1092 w_1094 w_18 dX5_ask_6
theorem s_X5_ask_9 {X : ev_E} {l : Launch} (hG : ev_Good X) (hl : l.stackTraces = false) : ev_Snd X l ev_ms x_X5_ask tx_X5_ask 9 (i_al 0 10) := s_aload_n dX5_ask_9 rfl
theorem s_X5_ask_10 {X : ev_E} {l : Launch} (hG : ev_Good X) (hl : l.stackTraces = false) : ev_Snd X l ev_ms x_X5_ask tx_X5_ask 10 (i_il 1 11) := s_iload_n dX5_ask_10 rfl
theorem s_X5_ask_11 {X : ev_E} {l : Launch} (hG : ev_Good X) (hl : l.stackTraces = false) : ev_Snd X l ev_ms x_X5_ask tx_X5_ask 11 (i_cV X 254 1 10 8 14) := s_invokevirtual hG (mi := 254) (n := 1) (ci := 10) (r := (RX5, TX5, 7)) rfl (cal_X5_askOne (Nat.le_of_ble_eq_true rfl)) w_1097 w_1099 w_19 dX5_ask_11
theorem s_X5_ask_14 {X : ev_E} {l : Launch} (hG : ev_Good X) (hl : l.stackTraces = false) : ev_Snd X l ev_ms x_X5_ask tx_X5_ask 14 (i_ir (.int)) := s_ireturn rfl dX5_ask_14
theorem sa_X5_ask {X : ev_E} {l : Launch} (hG : ev_Good X) (hl : l.stackTraces = false) : ∀ q ∈ tb_X5_ask X, ev_Snd X l ev_ms x_X5_ask tx_X5_ask q.1 q.2 := by
  intro q hq
  unfold tb_X5_ask at hq
  simp only [List.mem_cons, List.not_mem_nil, or_false] at hq
  rcases hq with rfl | rfl | rfl | rfl | rfl | rfl | rfl | rfl | rfl
  · exact s_X5_ask_0 hG hl
  · exact s_X5_ask_1 hG hl
  · exact s_X5_ask_4 hG hl
  · exact s_X5_ask_5 hG hl
  · exact s_X5_ask_6 hG hl
  · exact s_X5_ask_9 hG hl
  · exact s_X5_ask_10 hG hl
  · exact s_X5_ask_11 hG hl
  · exact s_X5_ask_14 hG hl
def tx_X5_askRow : ev_X := fun _ _ => some none
noncomputable def tb_X5_askRow (X : ev_E) : List (Nat × (ev_S → ev_N)) := [(0, i_il 1 1), (1, i_cS 48 1 1 4), (4, i_il 2 5), (5, i_iflt 14 8), (8, i_il 2 9), (9, i_psh (.int (20)) 11), (11, i_iclt 24 14), (14, i_thr 1), (24, i_il 3 25), (25, i_psh (.int (1)) 26), (26, i_iclt 35 29), (29, i_il 3 30), (30, i_psh (.int (12)) 32), (32, i_icle 45 35), (35, i_thr 1), (45, i_al 0 46), (46, i_il 3 47), (47, i_cV X 50 1 10 2 50), (50, i_psh (.int (0)) 51), (51, i_is 4 53), (53, i_psh (.int (0)) 54), (54, i_is 5 56), (56, i_il 5 58), (58, i_il 3 59), (59, i_icge 86 62), (62, i_il 4 64), (64, i_al 0 65), (65, i_il 1 66), (66, i_il 5 68), (68, i_il 2 69), (69, i_ii (fun a b => a * b) 70), (70, i_ii (fun a b => a + b) 71), (71, i_psh (.int (20)) 73), (73, i_iid (fun a b => a - a / b * b) 74), (74, i_cV X 254 1 10 8 77), (77, i_ii (fun a b => a + b) 78), (78, i_is 4 80), (80, i_inc 5 (1) 83), (83, i_goto 56), (86, i_il 4 88), (88, i_ir (.int))]
theorem s_X5_askRow_0 {X : ev_E} {l : Launch} (hG : ev_Good X) (hl : l.stackTraces = false) : ev_Snd X l ev_ms x_X5_askRow tx_X5_askRow 0 (i_il 1 1) := s_iload_n dX5_askRow_0 rfl
theorem s_X5_askRow_1 {X : ev_E} {l : Launch} (hG : ev_Good X) (hl : l.stackTraces = false) : ev_Snd X l ev_ms x_X5_askRow tx_X5_askRow 1 (i_cS 48 1 1 4) := s_invokestatic hG (mi := 48) (n := 1) (cal_X5_demandKey (Nat.le_of_ble_eq_true rfl)) w_796 w_797 dX5_askRow_1
theorem s_X5_askRow_4 {X : ev_E} {l : Launch} (hG : ev_Good X) (hl : l.stackTraces = false) : ev_Snd X l ev_ms x_X5_askRow tx_X5_askRow 4 (i_il 2 5) := s_iload_n dX5_askRow_4 rfl
theorem s_X5_askRow_5 {X : ev_E} {l : Launch} (hG : ev_Good X) (hl : l.stackTraces = false) : ev_Snd X l ev_ms x_X5_askRow tx_X5_askRow 5 (i_iflt 14 8) := s_iflt dX5_askRow_5 rfl
theorem s_X5_askRow_8 {X : ev_E} {l : Launch} (hG : ev_Good X) (hl : l.stackTraces = false) : ev_Snd X l ev_ms x_X5_askRow tx_X5_askRow 8 (i_il 2 9) := s_iload_n dX5_askRow_8 rfl
theorem s_X5_askRow_9 {X : ev_E} {l : Launch} (hG : ev_Good X) (hl : l.stackTraces = false) : ev_Snd X l ev_ms x_X5_askRow tx_X5_askRow 9 (i_psh (.int (20)) 11) := s_bipush dX5_askRow_9 rfl
theorem s_X5_askRow_11 {X : ev_E} {l : Launch} (hG : ev_Good X) (hl : l.stackTraces = false) : ev_Snd X l ev_ms x_X5_askRow tx_X5_askRow 11 (i_iclt 24 14) := s_iclt dX5_askRow_11 rfl
theorem s_X5_askRow_14 {X : ev_E} {l : Launch} (hG : ev_Good X) (hl : l.stackTraces = false) : ev_Snd X l ev_ms x_X5_askRow tx_X5_askRow 14 (i_thr 1) := s_throw hG hl (E := 1) (text := "step is not 0 to 19") (names := ["java/lang/RuntimeException", "java/lang/Exception"]) (by decide +kernel) (by decide +kernel) (by decide) rfl w_690 w_65 (ta_RX5_62_1 (i := 58)).1 (ta_RX5_62_1 (i := 58)).2 (str_RX5_188 hG) dX5_askRow_14 dX5_askRow_17 dX5_askRow_18 dX5_askRow_20 dX5_askRow_23
theorem s_X5_askRow_24 {X : ev_E} {l : Launch} (hG : ev_Good X) (hl : l.stackTraces = false) : ev_Snd X l ev_ms x_X5_askRow tx_X5_askRow 24 (i_il 3 25) := s_iload_n dX5_askRow_24 rfl
theorem s_X5_askRow_25 {X : ev_E} {l : Launch} (hG : ev_Good X) (hl : l.stackTraces = false) : ev_Snd X l ev_ms x_X5_askRow tx_X5_askRow 25 (i_psh (.int (1)) 26) := s_iconst dX5_askRow_25 rfl
theorem s_X5_askRow_26 {X : ev_E} {l : Launch} (hG : ev_Good X) (hl : l.stackTraces = false) : ev_Snd X l ev_ms x_X5_askRow tx_X5_askRow 26 (i_iclt 35 29) := s_iclt dX5_askRow_26 rfl
theorem s_X5_askRow_29 {X : ev_E} {l : Launch} (hG : ev_Good X) (hl : l.stackTraces = false) : ev_Snd X l ev_ms x_X5_askRow tx_X5_askRow 29 (i_il 3 30) := s_iload_n dX5_askRow_29 rfl
theorem s_X5_askRow_30 {X : ev_E} {l : Launch} (hG : ev_Good X) (hl : l.stackTraces = false) : ev_Snd X l ev_ms x_X5_askRow tx_X5_askRow 30 (i_psh (.int (12)) 32) := s_bipush dX5_askRow_30 rfl
theorem s_X5_askRow_32 {X : ev_E} {l : Launch} (hG : ev_Good X) (hl : l.stackTraces = false) : ev_Snd X l ev_ms x_X5_askRow tx_X5_askRow 32 (i_icle 45 35) := s_icle dX5_askRow_32 rfl
theorem s_X5_askRow_35 {X : ev_E} {l : Launch} (hG : ev_Good X) (hl : l.stackTraces = false) : ev_Snd X l ev_ms x_X5_askRow tx_X5_askRow 35 (i_thr 1) := s_throw hG hl (E := 1) (text := "many is not 1 to 12") (names := ["java/lang/RuntimeException", "java/lang/Exception"]) (by decide +kernel) (by decide +kernel) (by decide) rfl w_690 w_65 (ta_RX5_62_1 (i := 58)).1 (ta_RX5_62_1 (i := 58)).2 (str_RX5_190 hG) dX5_askRow_35 dX5_askRow_38 dX5_askRow_39 dX5_askRow_41 dX5_askRow_44
theorem s_X5_askRow_45 {X : ev_E} {l : Launch} (hG : ev_Good X) (hl : l.stackTraces = false) : ev_Snd X l ev_ms x_X5_askRow tx_X5_askRow 45 (i_al 0 46) := s_aload_n dX5_askRow_45 rfl
theorem s_X5_askRow_46 {X : ev_E} {l : Launch} (hG : ev_Good X) (hl : l.stackTraces = false) : ev_Snd X l ev_ms x_X5_askRow tx_X5_askRow 46 (i_il 3 47) := s_iload_n dX5_askRow_46 rfl
theorem s_X5_askRow_47 {X : ev_E} {l : Launch} (hG : ev_Good X) (hl : l.stackTraces = false) : ev_Snd X l ev_ms x_X5_askRow tx_X5_askRow 47 (i_cV X 50 1 10 2 50) := s_invokevirtual hG (mi := 50) (n := 1) (ci := 10) (r := (RX5, TX5, 7)) rfl (cal_X5_demandRoomFor (Nat.le_of_ble_eq_true rfl)) w_1092 w_1094 w_18 dX5_askRow_47
theorem s_X5_askRow_50 {X : ev_E} {l : Launch} (hG : ev_Good X) (hl : l.stackTraces = false) : ev_Snd X l ev_ms x_X5_askRow tx_X5_askRow 50 (i_psh (.int (0)) 51) := s_iconst dX5_askRow_50 rfl
theorem s_X5_askRow_51 {X : ev_E} {l : Launch} (hG : ev_Good X) (hl : l.stackTraces = false) : ev_Snd X l ev_ms x_X5_askRow tx_X5_askRow 51 (i_is 4 53) := s_istore dX5_askRow_51 (Nat.le_of_ble_eq_true rfl)
theorem s_X5_askRow_53 {X : ev_E} {l : Launch} (hG : ev_Good X) (hl : l.stackTraces = false) : ev_Snd X l ev_ms x_X5_askRow tx_X5_askRow 53 (i_psh (.int (0)) 54) := s_iconst dX5_askRow_53 rfl
theorem s_X5_askRow_54 {X : ev_E} {l : Launch} (hG : ev_Good X) (hl : l.stackTraces = false) : ev_Snd X l ev_ms x_X5_askRow tx_X5_askRow 54 (i_is 5 56) := s_istore dX5_askRow_54 (Nat.le_of_ble_eq_true rfl)
theorem s_X5_askRow_56 {X : ev_E} {l : Launch} (hG : ev_Good X) (hl : l.stackTraces = false) : ev_Snd X l ev_ms x_X5_askRow tx_X5_askRow 56 (i_il 5 58) := s_iload dX5_askRow_56
theorem s_X5_askRow_58 {X : ev_E} {l : Launch} (hG : ev_Good X) (hl : l.stackTraces = false) : ev_Snd X l ev_ms x_X5_askRow tx_X5_askRow 58 (i_il 3 59) := s_iload_n dX5_askRow_58 rfl
theorem s_X5_askRow_59 {X : ev_E} {l : Launch} (hG : ev_Good X) (hl : l.stackTraces = false) : ev_Snd X l ev_ms x_X5_askRow tx_X5_askRow 59 (i_icge 86 62) := s_icge dX5_askRow_59 rfl
theorem s_X5_askRow_62 {X : ev_E} {l : Launch} (hG : ev_Good X) (hl : l.stackTraces = false) : ev_Snd X l ev_ms x_X5_askRow tx_X5_askRow 62 (i_il 4 64) := s_iload dX5_askRow_62
theorem s_X5_askRow_64 {X : ev_E} {l : Launch} (hG : ev_Good X) (hl : l.stackTraces = false) : ev_Snd X l ev_ms x_X5_askRow tx_X5_askRow 64 (i_al 0 65) := s_aload_n dX5_askRow_64 rfl
theorem s_X5_askRow_65 {X : ev_E} {l : Launch} (hG : ev_Good X) (hl : l.stackTraces = false) : ev_Snd X l ev_ms x_X5_askRow tx_X5_askRow 65 (i_il 1 66) := s_iload_n dX5_askRow_65 rfl
theorem s_X5_askRow_66 {X : ev_E} {l : Launch} (hG : ev_Good X) (hl : l.stackTraces = false) : ev_Snd X l ev_ms x_X5_askRow tx_X5_askRow 66 (i_il 5 68) := s_iload dX5_askRow_66
theorem s_X5_askRow_68 {X : ev_E} {l : Launch} (hG : ev_Good X) (hl : l.stackTraces = false) : ev_Snd X l ev_ms x_X5_askRow tx_X5_askRow 68 (i_il 2 69) := s_iload_n dX5_askRow_68 rfl
theorem s_X5_askRow_69 {X : ev_E} {l : Launch} (hG : ev_Good X) (hl : l.stackTraces = false) : ev_Snd X l ev_ms x_X5_askRow tx_X5_askRow 69 (i_ii (fun a b => a * b) 70) := s_imul dX5_askRow_69
theorem s_X5_askRow_70 {X : ev_E} {l : Launch} (hG : ev_Good X) (hl : l.stackTraces = false) : ev_Snd X l ev_ms x_X5_askRow tx_X5_askRow 70 (i_ii (fun a b => a + b) 71) := s_iadd dX5_askRow_70
theorem s_X5_askRow_71 {X : ev_E} {l : Launch} (hG : ev_Good X) (hl : l.stackTraces = false) : ev_Snd X l ev_ms x_X5_askRow tx_X5_askRow 71 (i_psh (.int (20)) 73) := s_bipush dX5_askRow_71 rfl
theorem s_X5_askRow_73 {X : ev_E} {l : Launch} (hG : ev_Good X) (hl : l.stackTraces = false) : ev_Snd X l ev_ms x_X5_askRow tx_X5_askRow 73 (i_iid (fun a b => a - a / b * b) 74) := s_irem dX5_askRow_73
theorem s_X5_askRow_74 {X : ev_E} {l : Launch} (hG : ev_Good X) (hl : l.stackTraces = false) : ev_Snd X l ev_ms x_X5_askRow tx_X5_askRow 74 (i_cV X 254 1 10 8 77) := s_invokevirtual hG (mi := 254) (n := 1) (ci := 10) (r := (RX5, TX5, 7)) rfl (cal_X5_askOne (Nat.le_of_ble_eq_true rfl)) w_1097 w_1099 w_19 dX5_askRow_74
theorem s_X5_askRow_77 {X : ev_E} {l : Launch} (hG : ev_Good X) (hl : l.stackTraces = false) : ev_Snd X l ev_ms x_X5_askRow tx_X5_askRow 77 (i_ii (fun a b => a + b) 78) := s_iadd dX5_askRow_77
theorem s_X5_askRow_78 {X : ev_E} {l : Launch} (hG : ev_Good X) (hl : l.stackTraces = false) : ev_Snd X l ev_ms x_X5_askRow tx_X5_askRow 78 (i_is 4 80) := s_istore dX5_askRow_78 (Nat.le_of_ble_eq_true rfl)
theorem s_X5_askRow_80 {X : ev_E} {l : Launch} (hG : ev_Good X) (hl : l.stackTraces = false) : ev_Snd X l ev_ms x_X5_askRow tx_X5_askRow 80 (i_inc 5 (1) 83) := s_iinc dX5_askRow_80 rfl (Nat.le_of_ble_eq_true rfl)
theorem s_X5_askRow_83 {X : ev_E} {l : Launch} (hG : ev_Good X) (hl : l.stackTraces = false) : ev_Snd X l ev_ms x_X5_askRow tx_X5_askRow 83 (i_goto 56) := s_goto dX5_askRow_83 rfl
theorem s_X5_askRow_86 {X : ev_E} {l : Launch} (hG : ev_Good X) (hl : l.stackTraces = false) : ev_Snd X l ev_ms x_X5_askRow tx_X5_askRow 86 (i_il 4 88) := s_iload dX5_askRow_86
theorem s_X5_askRow_88 {X : ev_E} {l : Launch} (hG : ev_Good X) (hl : l.stackTraces = false) : ev_Snd X l ev_ms x_X5_askRow tx_X5_askRow 88 (i_ir (.int)) := s_ireturn rfl dX5_askRow_88
theorem sa_X5_askRow {X : ev_E} {l : Launch} (hG : ev_Good X) (hl : l.stackTraces = false) : ∀ q ∈ tb_X5_askRow X, ev_Snd X l ev_ms x_X5_askRow tx_X5_askRow q.1 q.2 := by
  intro q hq
  unfold tb_X5_askRow at hq
  simp only [List.mem_cons, List.not_mem_nil, or_false] at hq
  rcases hq with rfl | rfl | rfl | rfl | rfl | rfl | rfl | rfl | rfl | rfl | rfl | rfl | rfl | rfl | rfl | rfl | rfl | rfl | rfl | rfl | rfl | rfl | rfl | rfl | rfl | rfl | rfl | rfl | rfl | rfl | rfl | rfl | rfl | rfl | rfl | rfl | rfl | rfl | rfl | rfl | rfl
  · exact s_X5_askRow_0 hG hl
  · exact s_X5_askRow_1 hG hl
  · exact s_X5_askRow_4 hG hl
  · exact s_X5_askRow_5 hG hl
  · exact s_X5_askRow_8 hG hl
  · exact s_X5_askRow_9 hG hl
  · exact s_X5_askRow_11 hG hl
  · exact s_X5_askRow_14 hG hl
  · exact s_X5_askRow_24 hG hl
  · exact s_X5_askRow_25 hG hl
  · exact s_X5_askRow_26 hG hl
  · exact s_X5_askRow_29 hG hl
  · exact s_X5_askRow_30 hG hl
  · exact s_X5_askRow_32 hG hl
  · exact s_X5_askRow_35 hG hl
  · exact s_X5_askRow_45 hG hl
  · exact s_X5_askRow_46 hG hl
  · exact s_X5_askRow_47 hG hl
  · exact s_X5_askRow_50 hG hl
  · exact s_X5_askRow_51 hG hl
  · exact s_X5_askRow_53 hG hl
  · exact s_X5_askRow_54 hG hl
  · exact s_X5_askRow_56 hG hl
  · exact s_X5_askRow_58 hG hl
  · exact s_X5_askRow_59 hG hl
  · exact s_X5_askRow_62 hG hl
  · exact s_X5_askRow_64 hG hl
  · exact s_X5_askRow_65 hG hl
  · exact s_X5_askRow_66 hG hl
  · exact s_X5_askRow_68 hG hl
  · exact s_X5_askRow_69 hG hl
  · exact s_X5_askRow_70 hG hl
  · exact s_X5_askRow_71 hG hl
  · exact s_X5_askRow_73 hG hl
  · exact s_X5_askRow_74 hG hl
  · exact s_X5_askRow_77 hG hl
  · exact s_X5_askRow_78 hG hl
  · exact s_X5_askRow_80 hG hl
  · exact s_X5_askRow_83 hG hl
  · exact s_X5_askRow_86 hG hl
  · exact s_X5_askRow_88 hG hl
def tx_X2_written : ev_X := fun pc _ => bif List.elem pc [4] then none else some none
noncomputable def tb_X2_written (X : ev_E) : List (Nat × (ev_S → ev_N)) := [(0, i_nw 1 4 [.null, .int 0, .int 0, .int 0] 3), (3, i_dup 4), (4, i_cI 177 0 1 7), (7, i_as 2 8), (8, i_psh (.int (0)) 9), (9, i_is 3 10), (10, i_il 3 11), (11, i_al 0 12), (12, i_gf X 7 2 15), (15, i_icge 78 18), (18, i_il 3 19), (19, i_ifle 29 22), (22, i_al 2 23), (23, i_psh (.int (32)) 25), (25, i_cV X 273 1 1 2 28), (28, i_pop 29), (29, i_il 1 30), (30, i_psh (.int (1)) 31), (31, i_iceq 45 34), (34, i_al 2 35), (35, i_al 0 36), (36, i_gf X 7 0 39), (39, i_il 3 40), (40, i_ald X ev_tI 41), (41, i_cV X 247 1 1 2 44), (44, i_pop 45), (45, i_il 1 46), (46, i_psh (.int (2)) 47), (47, i_icne 57 50), (50, i_al 2 51), (51, i_psh (.int (61)) 53), (53, i_cV X 273 1 1 2 56), (56, i_pop 57), (57, i_il 1 58), (58, i_ifeq 72 61), (61, i_al 2 62), (62, i_al 0 63), (63, i_gf X 7 1 66), (66, i_il 3 67), (67, i_ald X ev_tI 68), (68, i_cV X 247 1 1 2 71), (71, i_pop 72), (72, i_inc 3 (1) 75), (75, i_goto 10), (78, i_al 2 79), (79, i_cV X 274 0 1 1 82), (82, i_ar)]
theorem s_X2_written_0 {X : ev_E} {l : Launch} (hG : ev_Good X) (hl : l.stackTraces = false) : ev_Snd X l ev_ms x_X2_written tx_X2_written 0 (i_nw 1 4 [.null, .int 0, .int 0, .int 0] 3) := s_new hG (ci := 1) (r := (RJ4, TJ4, 4)) rfl cw_1 tyJ4 tyJ4_ok (fun j hj => nw_1 j hj) w_280 rfl w_281 rfl w_75 rfl dX2_written_0
theorem s_X2_written_3 {X : ev_E} {l : Launch} (hG : ev_Good X) (hl : l.stackTraces = false) : ev_Snd X l ev_ms x_X2_written tx_X2_written 3 (i_dup 4) := s_dup dX2_written_3
theorem s_X2_written_4 {X : ev_E} {l : Launch} (hG : ev_Good X) (hl : l.stackTraces = false) : ev_Snd X l ev_ms x_X2_written tx_X2_written 4 (i_cI 177 0 1 7) := s_invokeinit hG (mi := 177) (n := 0) (cal_J4_init_da8c8 (Nat.le_of_ble_eq_true rfl)) rfl w_282 w_283 rfl (fun _ => rfl) dX2_written_4
theorem s_X2_written_7 {X : ev_E} {l : Launch} (hG : ev_Good X) (hl : l.stackTraces = false) : ev_Snd X l ev_ms x_X2_written tx_X2_written 7 (i_as 2 8) := s_astore_n dX2_written_7 rfl (Nat.le_of_ble_eq_true rfl)
theorem s_X2_written_8 {X : ev_E} {l : Launch} (hG : ev_Good X) (hl : l.stackTraces = false) : ev_Snd X l ev_ms x_X2_written tx_X2_written 8 (i_psh (.int (0)) 9) := s_iconst dX2_written_8 rfl
theorem s_X2_written_9 {X : ev_E} {l : Launch} (hG : ev_Good X) (hl : l.stackTraces = false) : ev_Snd X l ev_ms x_X2_written tx_X2_written 9 (i_is 3 10) := s_istore_n dX2_written_9 rfl (Nat.le_of_ble_eq_true rfl)
theorem s_X2_written_10 {X : ev_E} {l : Launch} (hG : ev_Good X) (hl : l.stackTraces = false) : ev_Snd X l ev_ms x_X2_written tx_X2_written 10 (i_il 3 11) := s_iload_n dX2_written_10 rfl
theorem s_X2_written_11 {X : ev_E} {l : Launch} (hG : ev_Good X) (hl : l.stackTraces = false) : ev_Snd X l ev_ms x_X2_written tx_X2_written 11 (i_al 0 12) := s_aload_n dX2_written_11 rfl
theorem s_X2_written_12 {X : ev_E} {l : Launch} (hG : ev_Good X) (hl : l.stackTraces = false) : ev_Snd X l ev_ms x_X2_written tx_X2_written 12 (i_gf X 7 2 15) := s_getfield hG (ci := 7) (r := (RX2, TX2, 7)) rfl cw_7 (k := 2) (Nat.le_of_ble_eq_true rfl) w_129 rfl (Or.inl rfl) dX2_written_12
theorem s_X2_written_15 {X : ev_E} {l : Launch} (hG : ev_Good X) (hl : l.stackTraces = false) : ev_Snd X l ev_ms x_X2_written tx_X2_written 15 (i_icge 78 18) := s_icge dX2_written_15 rfl
theorem s_X2_written_18 {X : ev_E} {l : Launch} (hG : ev_Good X) (hl : l.stackTraces = false) : ev_Snd X l ev_ms x_X2_written tx_X2_written 18 (i_il 3 19) := s_iload_n dX2_written_18 rfl
theorem s_X2_written_19 {X : ev_E} {l : Launch} (hG : ev_Good X) (hl : l.stackTraces = false) : ev_Snd X l ev_ms x_X2_written tx_X2_written 19 (i_ifle 29 22) := s_ifle dX2_written_19 rfl
theorem s_X2_written_22 {X : ev_E} {l : Launch} (hG : ev_Good X) (hl : l.stackTraces = false) : ev_Snd X l ev_ms x_X2_written tx_X2_written 22 (i_al 2 23) := s_aload_n dX2_written_22 rfl
theorem s_X2_written_23 {X : ev_E} {l : Launch} (hG : ev_Good X) (hl : l.stackTraces = false) : ev_Snd X l ev_ms x_X2_written tx_X2_written 23 (i_psh (.int (32)) 25) := s_bipush dX2_written_23 rfl
theorem s_X2_written_25 {X : ev_E} {l : Launch} (hG : ev_Good X) (hl : l.stackTraces = false) : ev_Snd X l ev_ms x_X2_written tx_X2_written 25 (i_cV X 273 1 1 2 28) := s_invokevirtual hG (mi := 273) (n := 1) (ci := 1) (r := (RJ4, TJ4, 4)) rfl (cal_J4_append_cf468 (Nat.le_of_ble_eq_true rfl)) w_312 w_313 w_314 dX2_written_25
theorem s_X2_written_28 {X : ev_E} {l : Launch} (hG : ev_Good X) (hl : l.stackTraces = false) : ev_Snd X l ev_ms x_X2_written tx_X2_written 28 (i_pop 29) := s_pop dX2_written_28
theorem s_X2_written_29 {X : ev_E} {l : Launch} (hG : ev_Good X) (hl : l.stackTraces = false) : ev_Snd X l ev_ms x_X2_written tx_X2_written 29 (i_il 1 30) := s_iload_n dX2_written_29 rfl
theorem s_X2_written_30 {X : ev_E} {l : Launch} (hG : ev_Good X) (hl : l.stackTraces = false) : ev_Snd X l ev_ms x_X2_written tx_X2_written 30 (i_psh (.int (1)) 31) := s_iconst dX2_written_30 rfl
theorem s_X2_written_31 {X : ev_E} {l : Launch} (hG : ev_Good X) (hl : l.stackTraces = false) : ev_Snd X l ev_ms x_X2_written tx_X2_written 31 (i_iceq 45 34) := s_iceq dX2_written_31 rfl
theorem s_X2_written_34 {X : ev_E} {l : Launch} (hG : ev_Good X) (hl : l.stackTraces = false) : ev_Snd X l ev_ms x_X2_written tx_X2_written 34 (i_al 2 35) := s_aload_n dX2_written_34 rfl
theorem s_X2_written_35 {X : ev_E} {l : Launch} (hG : ev_Good X) (hl : l.stackTraces = false) : ev_Snd X l ev_ms x_X2_written tx_X2_written 35 (i_al 0 36) := s_aload_n dX2_written_35 rfl
theorem s_X2_written_36 {X : ev_E} {l : Launch} (hG : ev_Good X) (hl : l.stackTraces = false) : ev_Snd X l ev_ms x_X2_written tx_X2_written 36 (i_gf X 7 0 39) := s_getfield hG (ci := 7) (r := (RX2, TX2, 7)) rfl cw_7 (k := 0) (Nat.le_of_ble_eq_true rfl) w_127 rfl (Or.inl rfl) dX2_written_36
theorem s_X2_written_39 {X : ev_E} {l : Launch} (hG : ev_Good X) (hl : l.stackTraces = false) : ev_Snd X l ev_ms x_X2_written tx_X2_written 39 (i_il 3 40) := s_iload_n dX2_written_39 rfl
theorem s_X2_written_40 {X : ev_E} {l : Launch} (hG : ev_Good X) (hl : l.stackTraces = false) : ev_Snd X l ev_ms x_X2_written tx_X2_written 40 (i_ald X ev_tI 41) := s_iaload hG dX2_written_40
theorem s_X2_written_41 {X : ev_E} {l : Launch} (hG : ev_Good X) (hl : l.stackTraces = false) : ev_Snd X l ev_ms x_X2_written tx_X2_written 41 (i_cV X 247 1 1 2 44) := s_invokevirtual hG (mi := 247) (n := 1) (ci := 1) (r := (RJ4, TJ4, 4)) rfl (cal_J4_append_bf812 (Nat.le_of_ble_eq_true rfl)) w_407 w_408 w_409 dX2_written_41
theorem s_X2_written_44 {X : ev_E} {l : Launch} (hG : ev_Good X) (hl : l.stackTraces = false) : ev_Snd X l ev_ms x_X2_written tx_X2_written 44 (i_pop 45) := s_pop dX2_written_44
theorem s_X2_written_45 {X : ev_E} {l : Launch} (hG : ev_Good X) (hl : l.stackTraces = false) : ev_Snd X l ev_ms x_X2_written tx_X2_written 45 (i_il 1 46) := s_iload_n dX2_written_45 rfl
theorem s_X2_written_46 {X : ev_E} {l : Launch} (hG : ev_Good X) (hl : l.stackTraces = false) : ev_Snd X l ev_ms x_X2_written tx_X2_written 46 (i_psh (.int (2)) 47) := s_iconst dX2_written_46 rfl
theorem s_X2_written_47 {X : ev_E} {l : Launch} (hG : ev_Good X) (hl : l.stackTraces = false) : ev_Snd X l ev_ms x_X2_written tx_X2_written 47 (i_icne 57 50) := s_icne dX2_written_47 rfl
theorem s_X2_written_50 {X : ev_E} {l : Launch} (hG : ev_Good X) (hl : l.stackTraces = false) : ev_Snd X l ev_ms x_X2_written tx_X2_written 50 (i_al 2 51) := s_aload_n dX2_written_50 rfl
theorem s_X2_written_51 {X : ev_E} {l : Launch} (hG : ev_Good X) (hl : l.stackTraces = false) : ev_Snd X l ev_ms x_X2_written tx_X2_written 51 (i_psh (.int (61)) 53) := s_bipush dX2_written_51 rfl
theorem s_X2_written_53 {X : ev_E} {l : Launch} (hG : ev_Good X) (hl : l.stackTraces = false) : ev_Snd X l ev_ms x_X2_written tx_X2_written 53 (i_cV X 273 1 1 2 56) := s_invokevirtual hG (mi := 273) (n := 1) (ci := 1) (r := (RJ4, TJ4, 4)) rfl (cal_J4_append_cf468 (Nat.le_of_ble_eq_true rfl)) w_312 w_313 w_314 dX2_written_53
theorem s_X2_written_56 {X : ev_E} {l : Launch} (hG : ev_Good X) (hl : l.stackTraces = false) : ev_Snd X l ev_ms x_X2_written tx_X2_written 56 (i_pop 57) := s_pop dX2_written_56
theorem s_X2_written_57 {X : ev_E} {l : Launch} (hG : ev_Good X) (hl : l.stackTraces = false) : ev_Snd X l ev_ms x_X2_written tx_X2_written 57 (i_il 1 58) := s_iload_n dX2_written_57 rfl
theorem s_X2_written_58 {X : ev_E} {l : Launch} (hG : ev_Good X) (hl : l.stackTraces = false) : ev_Snd X l ev_ms x_X2_written tx_X2_written 58 (i_ifeq 72 61) := s_ifeq dX2_written_58 rfl
theorem s_X2_written_61 {X : ev_E} {l : Launch} (hG : ev_Good X) (hl : l.stackTraces = false) : ev_Snd X l ev_ms x_X2_written tx_X2_written 61 (i_al 2 62) := s_aload_n dX2_written_61 rfl
theorem s_X2_written_62 {X : ev_E} {l : Launch} (hG : ev_Good X) (hl : l.stackTraces = false) : ev_Snd X l ev_ms x_X2_written tx_X2_written 62 (i_al 0 63) := s_aload_n dX2_written_62 rfl
theorem s_X2_written_63 {X : ev_E} {l : Launch} (hG : ev_Good X) (hl : l.stackTraces = false) : ev_Snd X l ev_ms x_X2_written tx_X2_written 63 (i_gf X 7 1 66) := s_getfield hG (ci := 7) (r := (RX2, TX2, 7)) rfl cw_7 (k := 1) (Nat.le_of_ble_eq_true rfl) w_128 rfl (Or.inl rfl) dX2_written_63
theorem s_X2_written_66 {X : ev_E} {l : Launch} (hG : ev_Good X) (hl : l.stackTraces = false) : ev_Snd X l ev_ms x_X2_written tx_X2_written 66 (i_il 3 67) := s_iload_n dX2_written_66 rfl
theorem s_X2_written_67 {X : ev_E} {l : Launch} (hG : ev_Good X) (hl : l.stackTraces = false) : ev_Snd X l ev_ms x_X2_written tx_X2_written 67 (i_ald X ev_tI 68) := s_iaload hG dX2_written_67
theorem s_X2_written_68 {X : ev_E} {l : Launch} (hG : ev_Good X) (hl : l.stackTraces = false) : ev_Snd X l ev_ms x_X2_written tx_X2_written 68 (i_cV X 247 1 1 2 71) := s_invokevirtual hG (mi := 247) (n := 1) (ci := 1) (r := (RJ4, TJ4, 4)) rfl (cal_J4_append_bf812 (Nat.le_of_ble_eq_true rfl)) w_407 w_408 w_409 dX2_written_68
theorem s_X2_written_71 {X : ev_E} {l : Launch} (hG : ev_Good X) (hl : l.stackTraces = false) : ev_Snd X l ev_ms x_X2_written tx_X2_written 71 (i_pop 72) := s_pop dX2_written_71
theorem s_X2_written_72 {X : ev_E} {l : Launch} (hG : ev_Good X) (hl : l.stackTraces = false) : ev_Snd X l ev_ms x_X2_written tx_X2_written 72 (i_inc 3 (1) 75) := s_iinc dX2_written_72 rfl (Nat.le_of_ble_eq_true rfl)
theorem s_X2_written_75 {X : ev_E} {l : Launch} (hG : ev_Good X) (hl : l.stackTraces = false) : ev_Snd X l ev_ms x_X2_written tx_X2_written 75 (i_goto 10) := s_goto dX2_written_75 rfl
theorem s_X2_written_78 {X : ev_E} {l : Launch} (hG : ev_Good X) (hl : l.stackTraces = false) : ev_Snd X l ev_ms x_X2_written tx_X2_written 78 (i_al 2 79) := s_aload_n dX2_written_78 rfl
theorem s_X2_written_79 {X : ev_E} {l : Launch} (hG : ev_Good X) (hl : l.stackTraces = false) : ev_Snd X l ev_ms x_X2_written tx_X2_written 79 (i_cV X 274 0 1 1 82) := s_invokevirtual hG (mi := 274) (n := 0) (ci := 1) (r := (RJ4, TJ4, 4)) rfl (cal_J4_toString_0e30d (Nat.le_of_ble_eq_true rfl)) w_441 w_442 w_443 dX2_written_79
theorem s_X2_written_82 {X : ev_E} {l : Launch} (hG : ev_Good X) (hl : l.stackTraces = false) : ev_Snd X l ev_ms x_X2_written tx_X2_written 82 (i_ar) := s_areturn (rt := (.object "java/lang/String")) rfl (by first | exact Or.inl ⟨_, rfl⟩ | exact Or.inr ⟨_, rfl⟩) dX2_written_82
theorem sa_X2_written {X : ev_E} {l : Launch} (hG : ev_Good X) (hl : l.stackTraces = false) : ∀ q ∈ tb_X2_written X, ev_Snd X l ev_ms x_X2_written tx_X2_written q.1 q.2 := by
  intro q hq
  unfold tb_X2_written at hq
  simp only [List.mem_cons, List.not_mem_nil, or_false] at hq
  rcases hq with rfl | rfl | rfl | rfl | rfl | rfl | rfl | rfl | rfl | rfl | rfl | rfl | rfl | rfl | rfl | rfl | rfl | rfl | rfl | rfl | rfl | rfl | rfl | rfl | rfl | rfl | rfl | rfl | rfl | rfl | rfl | rfl | rfl | rfl | rfl | rfl | rfl | rfl | rfl | rfl | rfl | rfl | rfl | rfl | rfl | rfl | rfl
  · exact s_X2_written_0 hG hl
  · exact s_X2_written_3 hG hl
  · exact s_X2_written_4 hG hl
  · exact s_X2_written_7 hG hl
  · exact s_X2_written_8 hG hl
  · exact s_X2_written_9 hG hl
  · exact s_X2_written_10 hG hl
  · exact s_X2_written_11 hG hl
  · exact s_X2_written_12 hG hl
  · exact s_X2_written_15 hG hl
  · exact s_X2_written_18 hG hl
  · exact s_X2_written_19 hG hl
  · exact s_X2_written_22 hG hl
  · exact s_X2_written_23 hG hl
  · exact s_X2_written_25 hG hl
  · exact s_X2_written_28 hG hl
  · exact s_X2_written_29 hG hl
  · exact s_X2_written_30 hG hl
  · exact s_X2_written_31 hG hl
  · exact s_X2_written_34 hG hl
  · exact s_X2_written_35 hG hl
  · exact s_X2_written_36 hG hl
  · exact s_X2_written_39 hG hl
  · exact s_X2_written_40 hG hl
  · exact s_X2_written_41 hG hl
  · exact s_X2_written_44 hG hl
  · exact s_X2_written_45 hG hl
  · exact s_X2_written_46 hG hl
  · exact s_X2_written_47 hG hl
  · exact s_X2_written_50 hG hl
  · exact s_X2_written_51 hG hl
  · exact s_X2_written_53 hG hl
  · exact s_X2_written_56 hG hl
  · exact s_X2_written_57 hG hl
  · exact s_X2_written_58 hG hl
  · exact s_X2_written_61 hG hl
  · exact s_X2_written_62 hG hl
  · exact s_X2_written_63 hG hl
  · exact s_X2_written_66 hG hl
  · exact s_X2_written_67 hG hl
  · exact s_X2_written_68 hG hl
  · exact s_X2_written_71 hG hl
  · exact s_X2_written_72 hG hl
  · exact s_X2_written_75 hG hl
  · exact s_X2_written_78 hG hl
  · exact s_X2_written_79 hG hl
  · exact s_X2_written_82 hG hl
def tx_X5_kept : ev_X := fun _ _ => some none
noncomputable def tb_X5_kept (X : ev_E) : List (Nat × (ev_S → ev_N)) := [(0, i_al 0 1), (1, i_il 1 2), (2, i_cV X 109 1 10 2 5), (5, i_gf X 6 0 8), (8, i_psh (.int (0)) 9), (9, i_cV X 286 1 7 4 12), (12, i_ar)]
theorem s_X5_kept_0 {X : ev_E} {l : Launch} (hG : ev_Good X) (hl : l.stackTraces = false) : ev_Snd X l ev_ms x_X5_kept tx_X5_kept 0 (i_al 0 1) := s_aload_n dX5_kept_0 rfl
theorem s_X5_kept_1 {X : ev_E} {l : Launch} (hG : ev_Good X) (hl : l.stackTraces = false) : ev_Snd X l ev_ms x_X5_kept tx_X5_kept 1 (i_il 1 2) := s_iload_n dX5_kept_1 rfl
theorem s_X5_kept_2 {X : ev_E} {l : Launch} (hG : ev_Good X) (hl : l.stackTraces = false) : ev_Snd X l ev_ms x_X5_kept tx_X5_kept 2 (i_cV X 109 1 10 2 5) := s_invokevirtual hG (mi := 109) (n := 1) (ci := 10) (r := (RX5, TX5, 7)) rfl (cal_X5_keeperOf (Nat.le_of_ble_eq_true rfl)) w_776 w_778 w_13 dX5_kept_2
theorem s_X5_kept_5 {X : ev_E} {l : Launch} (hG : ev_Good X) (hl : l.stackTraces = false) : ev_Snd X l ev_ms x_X5_kept tx_X5_kept 5 (i_gf X 6 0 8) := s_getfieldN hG (ci := 6) (r := (RX1, TX1, 3)) rfl cw_6 (k := 0) (Nat.le_of_ble_eq_true rfl) w_205 rfl dX5_kept_5
theorem s_X5_kept_8 {X : ev_E} {l : Launch} (hG : ev_Good X) (hl : l.stackTraces = false) : ev_Snd X l ev_ms x_X5_kept tx_X5_kept 8 (i_psh (.int (0)) 9) := s_iconst dX5_kept_8 rfl
theorem s_X5_kept_9 {X : ev_E} {l : Launch} (hG : ev_Good X) (hl : l.stackTraces = false) : ev_Snd X l ev_ms x_X5_kept tx_X5_kept 9 (i_cV X 286 1 7 4 12) := s_invokevirtual hG (mi := 286) (n := 1) (ci := 7) (r := (RX2, TX2, 7)) rfl (cal_X2_written (Nat.le_of_ble_eq_true rfl)) w_276 w_277 w_278 dX5_kept_9
theorem s_X5_kept_12 {X : ev_E} {l : Launch} (hG : ev_Good X) (hl : l.stackTraces = false) : ev_Snd X l ev_ms x_X5_kept tx_X5_kept 12 (i_ar) := s_areturn (rt := (.object "java/lang/String")) rfl (by first | exact Or.inl ⟨_, rfl⟩ | exact Or.inr ⟨_, rfl⟩) dX5_kept_12
theorem sa_X5_kept {X : ev_E} {l : Launch} (hG : ev_Good X) (hl : l.stackTraces = false) : ∀ q ∈ tb_X5_kept X, ev_Snd X l ev_ms x_X5_kept tx_X5_kept q.1 q.2 := by
  intro q hq
  unfold tb_X5_kept at hq
  simp only [List.mem_cons, List.not_mem_nil, or_false] at hq
  rcases hq with rfl | rfl | rfl | rfl | rfl | rfl | rfl
  · exact s_X5_kept_0 hG hl
  · exact s_X5_kept_1 hG hl
  · exact s_X5_kept_2 hG hl
  · exact s_X5_kept_5 hG hl
  · exact s_X5_kept_8 hG hl
  · exact s_X5_kept_9 hG hl
  · exact s_X5_kept_12 hG hl
def tx_X5_stack : ev_X := fun _ _ => some none
noncomputable def tb_X5_stack (X : ev_E) : List (Nat × (ev_S → ev_N)) := [(0, i_al 0 1), (1, i_gf X 10 2 4), (4, i_psh (.int (0)) 5), (5, i_cV X 286 1 7 4 8), (8, i_ar)]
theorem s_X5_stack_0 {X : ev_E} {l : Launch} (hG : ev_Good X) (hl : l.stackTraces = false) : ev_Snd X l ev_ms x_X5_stack tx_X5_stack 0 (i_al 0 1) := s_aload_n dX5_stack_0 rfl
theorem s_X5_stack_1 {X : ev_E} {l : Launch} (hG : ev_Good X) (hl : l.stackTraces = false) : ev_Snd X l ev_ms x_X5_stack tx_X5_stack 1 (i_gf X 10 2 4) := s_getfield hG (ci := 10) (r := (RX5, TX5, 7)) rfl cw_10 (k := 2) (Nat.le_of_ble_eq_true rfl) w_219 rfl (Or.inl rfl) dX5_stack_1
theorem s_X5_stack_4 {X : ev_E} {l : Launch} (hG : ev_Good X) (hl : l.stackTraces = false) : ev_Snd X l ev_ms x_X5_stack tx_X5_stack 4 (i_psh (.int (0)) 5) := s_iconst dX5_stack_4 rfl
theorem s_X5_stack_5 {X : ev_E} {l : Launch} (hG : ev_Good X) (hl : l.stackTraces = false) : ev_Snd X l ev_ms x_X5_stack tx_X5_stack 5 (i_cV X 286 1 7 4 8) := s_invokevirtual hG (mi := 286) (n := 1) (ci := 7) (r := (RX2, TX2, 7)) rfl (cal_X2_written (Nat.le_of_ble_eq_true rfl)) w_276 w_277 w_278 dX5_stack_5
theorem s_X5_stack_8 {X : ev_E} {l : Launch} (hG : ev_Good X) (hl : l.stackTraces = false) : ev_Snd X l ev_ms x_X5_stack tx_X5_stack 8 (i_ar) := s_areturn (rt := (.object "java/lang/String")) rfl (by first | exact Or.inl ⟨_, rfl⟩ | exact Or.inr ⟨_, rfl⟩) dX5_stack_8
theorem sa_X5_stack {X : ev_E} {l : Launch} (hG : ev_Good X) (hl : l.stackTraces = false) : ∀ q ∈ tb_X5_stack X, ev_Snd X l ev_ms x_X5_stack tx_X5_stack q.1 q.2 := by
  intro q hq
  unfold tb_X5_stack at hq
  simp only [List.mem_cons, List.not_mem_nil, or_false] at hq
  rcases hq with rfl | rfl | rfl | rfl | rfl
  · exact s_X5_stack_0 hG hl
  · exact s_X5_stack_1 hG hl
  · exact s_X5_stack_4 hG hl
  · exact s_X5_stack_5 hG hl
  · exact s_X5_stack_8 hG hl
